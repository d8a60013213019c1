def wsACT : List Cond := wsX11_act ++ [.methodLink RX3 19 ⟨"NamingElders$Baby", "looks", "(LNamingElders$Acts;I)I"⟩, .methodLink RX8 23 ⟨"NamingElders$Shy", "looks", "(LNamingElders$Acts;I)I"⟩, .methodLink RX8 19 ⟨"NamingElders$Shy", "points", "(LNamingElders$Acts;I)I"⟩, .methodLink RX4 21 ⟨"NamingElders$Twin", "tells", "(LNamingElders$Acts;I)I"⟩, .sameMethod "NamingElders$Baby" "NamingElders$Child" "looks" "(LNamingElders$Acts;I)I", .sameMethod "NamingElders$Shy" "NamingElders$Child" "looks" "(LNamingElders$Acts;I)I", .sameMethod "NamingElders$Shy" "NamingElders$Child" "points" "(LNamingElders$Acts;I)I", .sameMethod "NamingElders$Twin" "NamingElders$Child" "tells" "(LNamingElders$Acts;I)I", .sameMethod "NamingElders$Child" "NamingElders$Child" "looks" "(LNamingElders$Acts;I)I", .sameMethod "NamingElders$Child" "NamingElders$Child" "points" "(LNamingElders$Acts;I)I", .sameMethod "NamingElders$Child" "NamingElders$Child" "tells" "(LNamingElders$Acts;I)I", .sameMethod "NamingElders$Baby" "NamingElders$Baby" "points" "(LNamingElders$Acts;I)I", .superclass RX3 RX1, .superclass RX8 RX6, .superclass RX4 RX9, .superclass RX1 RX2, .superclass RX6 RX2, .superclass RX9 RX2, .methodLink RX9 13 yX2_looks, .methodLink RX1 15 yX2_points, .methodLink RX3 23 yX1_points, .methodLink RX6 15 yX2_tells]
theorem gACT : wsACT.all goodWord = true := by decide +kernel
def wsA_X2_looks : List Cond := .code yX2_looks cX2_looks 3 (some .int) :: wsACT
def wsA_X9_looks : List Cond := .code yX9_looks cX9_looks 3 (some .int) :: wsACT
def wsA_X3_looks : List Cond := .code yX3_looks cX3_looks 3 (some .int) :: wsACT
def wsA_X8_looks : List Cond := .code yX8_looks cX8_looks 3 (some .int) :: wsACT
def wsA_X2_points : List Cond := .code yX2_points cX2_points 3 (some .int) :: wsACT
def wsA_X1_points : List Cond := .code yX1_points cX1_points 3 (some .int) :: wsACT
def wsA_X3_points : List Cond := .code yX3_points cX3_points 3 (some .int) :: wsACT
def wsA_X8_points : List Cond := .code yX8_points cX8_points 3 (some .int) :: wsACT
def wsA_X2_tells : List Cond := .code yX2_tells cX2_tells 3 (some .int) :: wsACT
def wsA_X6_tells : List Cond := .code yX6_tells cX6_tells 3 (some .int) :: wsACT
def wsA_X4_tells : List Cond := .code yX4_tells cX4_tells 3 (some .int) :: wsACT
def wsA_X11_act : List Cond := .code yX11_act cX11_act 5 (some .int) :: wsACT
theorem i_X2_looks_X0 : ∀ w ∈ u_ws RX0 TX0 4, w ∈ wsA_X2_looks := c_inP [131, 132, 133, 134] (by decide +kernel)
theorem dX2_looks_0 : decode cX2_looks 0 = .ok (.aload_n 1, 1) := by decide +kernel
theorem dX2_looks_1 : decode cX2_looks 1 = .ok (.bipush 10, 2) := by decide +kernel
theorem dX2_looks_3 : decode cX2_looks 3 = .ok (.invokevirtual 7, 3) := by decide +kernel
theorem dX2_looks_6 : decode cX2_looks 6 = .ok (.iload_n 2, 1) := by decide +kernel
theorem dX2_looks_7 : decode cX2_looks 7 = .ok (.aload_n 1, 1) := by decide +kernel
theorem dX2_looks_8 : decode cX2_looks 8 = .ok (.getfield 13, 3) := by decide +kernel
theorem dX2_looks_11 : decode cX2_looks 11 = .ok (.iadd, 1) := by decide +kernel
theorem dX2_looks_12 : decode cX2_looks 12 = .ok (.ireturn, 1) := by decide +kernel
theorem ga_X2_looks_7 {cd : Cond} : GoodIn (cd :: wsACT) (wsV RX2 7 RX0 yX0_begin wsX0_begin) := c_gAct _ (by decide +kernel)
def fX2_looks (g : c_G) (u0 : Nat) (a2 : Int32) : Option (c_G × Int32) :=
  if c_isK u0 = true then ((fX0_begin g ((10 : Int32))).bind fun g2 => some (g2, (a2 + (g2.1 8 0)))) else none
set_option maxRecDepth 100000 in
set_option maxHeartbeats 4000000 in
theorem kX2_looks {l : Launch} {D : va_G} {tc : Nat → ClassId} {ad : Nat → Nat} {A : Nat → Prop} {E : (Nat → Nat) × (Nat → Nat) × Nat} (hD : c_D A ad TC) {u0 : Nat} {a2 : Int32} {g g' : c_G} {r : Int32} (hf : fX2_looks g u0 a2 = some (g', r)) : c_Mi l yX2_looks wsA_X2_looks (c_rm 1) D tc ad A E TC ([.ref (ad u0), .ref (ad 8), .int a2] : List Value) g g' r := by
  refine c_ofW (bytes := cX2_looks) (maxL := 3) (ret := (some .int)) (by decide) rfl (Nat.le_of_ble_eq_true rfl) ?_
  intro p e s m below meth c ls C hP hS hl
  unfold fX2_looks at hf
  obtain ⟨hq_u0, hf⟩ := c_gd hf
  obtain ⟨hx, hb, hr, hml, hts, hown, hlk, hK, hE⟩ := id C
  obtain ⟨_, _, hkT, hkQ⟩ := c_isKE hq_u0
  have hl : lv_has ls 3 [(0, .ref (ad u0)), (1, .ref (ad 8)), (2, .int a2)] := hl
  refine lv_aload_n hx hb dX2_looks_0 rfl (lv_at hl 1 rfl) ?_
  refine lv_bipush (v := (10 : Int32)) hx hb dX2_looks_1 (by decide) ?_
  obtain ⟨g2, hc1, hf⟩ := c_bd hf
  refine c_gov (va_runV (As := [.int (10 : Int32)]) (rest := []) ⟨hx, hb, hml, hown, hts⟩ (kX0_begin hD hc1) (cwV 1 hts ga_X2_looks_7 rfl rfl rfl (by decide +kernel) ⟨Nat.le_of_ble_eq_true rfl, Nat.le_of_ble_eq_true rfl⟩) (c_preV hK hP hE hS tC8 rfl) rfl rfl hl.1 rfl (lv_room (Nat.le_of_ble_eq_true rfl)) dX2_looks_3 ⟨Nat.zero_le _, Nat.zero_le _⟩) hS (fun H locs hP hS => ?_)
  refine lv_iload_n hx hb dX2_looks_6 rfl (lv_at hl 2 rfl) ?_
  refine lv_aload_n hx hb dX2_looks_7 rfl (lv_at hl 1 rfl) ?_
  refine c_get hx hb hts i_X2_looks_X0 hown hK hP 8 tC8 rfl 0 (by decide) (hts _ (List.mem_of_getElem? (i := 22) rfl)) (fun _ h9 => h9) rfl (v := .int (g2.1 8 0)) rfl dX2_looks_8 ?_
  refine lv_iadd hx hb dX2_looks_11 ?_
  exact c_iret hx hb hr hlk hP hS rfl (c_inj hf) dX2_looks_12
theorem dX9_looks_0 : decode cX9_looks 0 = .ok (.aload_n 1, 1) := by decide +kernel
theorem dX9_looks_1 : decode cX9_looks 1 = .ok (.bipush 30, 2) := by decide +kernel
theorem dX9_looks_3 : decode cX9_looks 3 = .ok (.invokevirtual 7, 3) := by decide +kernel
theorem dX9_looks_6 : decode cX9_looks 6 = .ok (.aload_n 0, 1) := by decide +kernel
theorem dX9_looks_7 : decode cX9_looks 7 = .ok (.aload_n 1, 1) := by decide +kernel
theorem dX9_looks_8 : decode cX9_looks 8 = .ok (.iload_n 2, 1) := by decide +kernel
theorem dX9_looks_9 : decode cX9_looks 9 = .ok (.iconst 3, 1) := by decide +kernel
theorem dX9_looks_10 : decode cX9_looks 10 = .ok (.imul, 1) := by decide +kernel
theorem dX9_looks_11 : decode cX9_looks 11 = .ok (.invokespecial 13, 3) := by decide +kernel
theorem dX9_looks_14 : decode cX9_looks 14 = .ok (.ireturn, 1) := by decide +kernel
theorem ga_X9_looks_7 {cd : Cond} : GoodIn (cd :: wsACT) (wsV RX9 7 RX0 yX0_begin wsX0_begin) := c_gAct _ (by decide +kernel)
theorem ga_X9_looks_13 {cd : Cond} : GoodIn (cd :: wsACT) (va_wsSU RX9 13 yX2_looks wsA_X2_looks) := c_gAct2 gACT [.methodLink RX9 13 yX2_looks, .sameMethod yX2_looks.cls yX2_looks.cls yX2_looks.name yX2_looks.desc, .superclass RX9 yX2_looks.cls, .instanceMethod yX2_looks, .initialized yX2_looks.cls] (by decide +kernel)
def fX9_looks (g : c_G) (u0 : Nat) (a2 : Int32) : Option (c_G × Int32) :=
  if c_isK u0 = true then ((fX0_begin g ((30 : Int32))).bind fun g2 => c_b2 (fX2_looks g2 u0 (a2 * (3 : Int32))) fun g3 r5 => some (g3, r5)) else none
set_option maxRecDepth 100000 in
set_option maxHeartbeats 4000000 in
theorem kX9_looks {l : Launch} {D : va_G} {tc : Nat → ClassId} {ad : Nat → Nat} {A : Nat → Prop} {E : (Nat → Nat) × (Nat → Nat) × Nat} (hD : c_D A ad TC) {u0 : Nat} {a2 : Int32} {g g' : c_G} {r : Int32} (hf : fX9_looks g u0 a2 = some (g', r)) : c_Mi l yX9_looks wsA_X9_looks (c_rm 2) D tc ad A E TC ([.ref (ad u0), .ref (ad 8), .int a2] : List Value) g g' r := by
  refine c_ofW (bytes := cX9_looks) (maxL := 3) (ret := (some .int)) (by decide) rfl (Nat.le_of_ble_eq_true rfl) ?_
  intro p e s m below meth c ls C hP hS hl
  unfold fX9_looks at hf
  obtain ⟨hq_u0, hf⟩ := c_gd hf
  obtain ⟨hx, hb, hr, hml, hts, hown, hlk, hK, hE⟩ := id C
  obtain ⟨_, _, hkT, hkQ⟩ := c_isKE hq_u0
  have hl : lv_has ls 3 [(0, .ref (ad u0)), (1, .ref (ad 8)), (2, .int a2)] := hl
  refine lv_aload_n hx hb dX9_looks_0 rfl (lv_at hl 1 rfl) ?_
  refine lv_bipush (v := (30 : Int32)) hx hb dX9_looks_1 (by decide) ?_
  obtain ⟨g2, hc1, hf⟩ := c_bd hf
  refine c_gov (va_runV (As := [.int (30 : Int32)]) (rest := []) ⟨hx, hb, hml, hown, hts⟩ (kX0_begin hD hc1) (cwV 1 hts ga_X9_looks_7 rfl rfl rfl (by decide +kernel) ⟨Nat.le_of_ble_eq_true rfl, Nat.le_of_ble_eq_true rfl⟩) (c_preV hK hP hE hS tC8 rfl) rfl rfl hl.1 rfl (lv_room (Nat.le_of_ble_eq_true rfl)) dX9_looks_3 ⟨Nat.zero_le _, Nat.zero_le _⟩) hS (fun H locs hP hS => ?_)
  refine lv_aload_n hx hb dX9_looks_6 rfl (lv_at hl 0 rfl) ?_
  refine lv_aload_n hx hb dX9_looks_7 rfl (lv_at hl 1 rfl) ?_
  refine lv_iload_n hx hb dX9_looks_8 rfl (lv_at hl 2 rfl) ?_
  refine lv_iconst (v := (3 : Int32)) hx hb dX9_looks_9 (by decide) ?_
  refine lv_imul hx hb dX9_looks_10 ?_
  obtain ⟨g3, r5, hc4, hf⟩ := c_b2E hf
  refine c_goi (va_runSU (hK.1 _ _ hkQ).2 (As := [.ref (ad 8), .int (a2 * (3 : Int32))]) (rest := []) ⟨hx, hb, hml, hown, hts⟩ (kX2_looks hD hc4) (va_cwSU 2 hts ga_X9_looks_13 rfl rfl rfl (by decide +kernel) ⟨Nat.le_of_ble_eq_true rfl, Nat.le_of_ble_eq_true rfl⟩) (c_preV hK hP hE hS hkT hkQ) rfl rfl hl.1 rfl (lv_room (Nat.le_of_ble_eq_true rfl)) dX9_looks_11 ⟨Nat.zero_le _, Nat.zero_le _⟩) hS (fun H locs hP hS => ?_)
  exact c_iret hx hb hr hlk hP hS rfl (c_inj hf) dX9_looks_14
theorem dX3_looks_0 : decode cX3_looks 0 = .ok (.aload_n 1, 1) := by decide +kernel
theorem dX3_looks_1 : decode cX3_looks 1 = .ok (.bipush 50, 2) := by decide +kernel
theorem dX3_looks_3 : decode cX3_looks 3 = .ok (.invokevirtual 13, 3) := by decide +kernel
theorem dX3_looks_6 : decode cX3_looks 6 = .ok (.aload_n 0, 1) := by decide +kernel
theorem dX3_looks_7 : decode cX3_looks 7 = .ok (.aload_n 1, 1) := by decide +kernel
theorem dX3_looks_8 : decode cX3_looks 8 = .ok (.iload_n 2, 1) := by decide +kernel
theorem dX3_looks_9 : decode cX3_looks 9 = .ok (.invokespecial 19, 3) := by decide +kernel
theorem dX3_looks_12 : decode cX3_looks 12 = .ok (.ineg, 1) := by decide +kernel
theorem dX3_looks_13 : decode cX3_looks 13 = .ok (.ireturn, 1) := by decide +kernel
theorem ga_X3_looks_13 {cd : Cond} : GoodIn (cd :: wsACT) (wsV RX3 13 RX0 yX0_begin wsX0_begin) := c_gAct _ (by decide +kernel)
theorem ga_X3_looks_19 {cd : Cond} : GoodIn (cd :: wsACT) (c_wsSO RX3 19 ⟨"NamingElders$Baby", "looks", "(LNamingElders$Acts;I)I"⟩ yX2_looks wsA_X2_looks) := c_gAct2 gACT [.methodLink RX3 19 ⟨"NamingElders$Baby", "looks", "(LNamingElders$Acts;I)I"⟩, .sameMethod (⟨"NamingElders$Baby", "looks", "(LNamingElders$Acts;I)I"⟩ : MethodName).cls yX2_looks.cls (⟨"NamingElders$Baby", "looks", "(LNamingElders$Acts;I)I"⟩ : MethodName).name (⟨"NamingElders$Baby", "looks", "(LNamingElders$Acts;I)I"⟩ : MethodName).desc, .superclass RX3 (⟨"NamingElders$Baby", "looks", "(LNamingElders$Acts;I)I"⟩ : MethodName).cls, .superclass (⟨"NamingElders$Baby", "looks", "(LNamingElders$Acts;I)I"⟩ : MethodName).cls yX2_looks.cls, .instanceMethod yX2_looks, .initialized yX2_looks.cls] (by decide +kernel)
def fX3_looks (g : c_G) (a2 : Int32) : Option (c_G × Int32) :=
  (fX0_begin g ((50 : Int32))).bind fun g2 => c_b2 (fX2_looks g2 24 a2) fun g3 r5 => some (g3, (-r5))
set_option maxRecDepth 100000 in
set_option maxHeartbeats 4000000 in
theorem kX3_looks {l : Launch} {D : va_G} {tc : Nat → ClassId} {ad : Nat → Nat} {A : Nat → Prop} {E : (Nat → Nat) × (Nat → Nat) × Nat} (hD : c_D A ad TC) {a2 : Int32} {g g' : c_G} {r : Int32} (hf : fX3_looks g a2 = some (g', r)) : c_Mi l yX3_looks wsA_X3_looks (c_rm 2) D tc ad A E TC ([.ref (ad 24), .ref (ad 8), .int a2] : List Value) g g' r := by
  refine c_ofW (bytes := cX3_looks) (maxL := 3) (ret := (some .int)) (by decide) rfl (Nat.le_of_ble_eq_true rfl) ?_
  intro p e s m below meth c ls C hP hS hl
  unfold fX3_looks at hf
  obtain ⟨hx, hb, hr, hml, hts, hown, hlk, hK, hE⟩ := id C
  have hl : lv_has ls 3 [(0, .ref (ad 24)), (1, .ref (ad 8)), (2, .int a2)] := hl
  refine lv_aload_n hx hb dX3_looks_0 rfl (lv_at hl 1 rfl) ?_
  refine lv_bipush (v := (50 : Int32)) hx hb dX3_looks_1 (by decide) ?_
  obtain ⟨g2, hc1, hf⟩ := c_bd hf
  refine c_gov (va_runV (As := [.int (50 : Int32)]) (rest := []) ⟨hx, hb, hml, hown, hts⟩ (kX0_begin hD hc1) (cwV 1 hts ga_X3_looks_13 rfl rfl rfl (by decide +kernel) ⟨Nat.le_of_ble_eq_true rfl, Nat.le_of_ble_eq_true rfl⟩) (c_preV hK hP hE hS tC8 rfl) rfl rfl hl.1 rfl (lv_room (Nat.le_of_ble_eq_true rfl)) dX3_looks_3 ⟨Nat.zero_le _, Nat.zero_le _⟩) hS (fun H locs hP hS => ?_)
  refine lv_aload_n hx hb dX3_looks_6 rfl (lv_at hl 0 rfl) ?_
  refine lv_aload_n hx hb dX3_looks_7 rfl (lv_at hl 1 rfl) ?_
  refine lv_iload_n hx hb dX3_looks_8 rfl (lv_at hl 2 rfl) ?_
  obtain ⟨g3, r5, hc4, hf⟩ := c_b2E hf
  refine c_goi (c_runSO (x := ⟨"NamingElders$Baby", "looks", "(LNamingElders$Acts;I)I"⟩) (hK.1 3 _ rfl).2 (As := [.ref (ad 8), .int a2]) (rest := []) ⟨hx, hb, hml, hown, hts⟩ (kX2_looks hD hc4) (c_cwSO 2 hts ga_X3_looks_19 rfl rfl rfl rfl (by decide +kernel) ⟨Nat.le_of_ble_eq_true rfl, Nat.le_of_ble_eq_true rfl⟩) (c_preV hK hP hE hS tC24 rfl) rfl rfl hl.1 rfl (lv_room (Nat.le_of_ble_eq_true rfl)) dX3_looks_9 ⟨Nat.zero_le _, Nat.zero_le _⟩) hS (fun H locs hP hS => ?_)
  refine lv_ineg hx hb dX3_looks_12 ?_
  exact c_iret hx hb hr hlk hP hS rfl (c_inj hf) dX3_looks_13
theorem i_X8_looks_X0 : ∀ w ∈ u_ws RX0 TX0 4, w ∈ wsA_X8_looks := c_inP [131, 132, 133, 134] (by decide +kernel)
theorem dX8_looks_0 : decode cX8_looks 0 = .ok (.aload_n 1, 1) := by decide +kernel
theorem dX8_looks_1 : decode cX8_looks 1 = .ok (.bipush 71, 2) := by decide +kernel
theorem dX8_looks_3 : decode cX8_looks 3 = .ok (.invokevirtual 13, 3) := by decide +kernel
theorem dX8_looks_6 : decode cX8_looks 6 = .ok (.aload_n 0, 1) := by decide +kernel
theorem dX8_looks_7 : decode cX8_looks 7 = .ok (.aload_n 1, 1) := by decide +kernel
theorem dX8_looks_8 : decode cX8_looks 8 = .ok (.iload_n 2, 1) := by decide +kernel
theorem dX8_looks_9 : decode cX8_looks 9 = .ok (.invokespecial 23, 3) := by decide +kernel
theorem dX8_looks_12 : decode cX8_looks 12 = .ok (.aload_n 1, 1) := by decide +kernel
theorem dX8_looks_13 : decode cX8_looks 13 = .ok (.getfield 26, 3) := by decide +kernel
theorem dX8_looks_16 : decode cX8_looks 16 = .ok (.ixor, 1) := by decide +kernel
theorem dX8_looks_17 : decode cX8_looks 17 = .ok (.ireturn, 1) := by decide +kernel
theorem ga_X8_looks_13 {cd : Cond} : GoodIn (cd :: wsACT) (wsV RX8 13 RX0 yX0_begin wsX0_begin) := c_gAct _ (by decide +kernel)
theorem ga_X8_looks_23 {cd : Cond} : GoodIn (cd :: wsACT) (c_wsSO RX8 23 ⟨"NamingElders$Shy", "looks", "(LNamingElders$Acts;I)I"⟩ yX2_looks wsA_X2_looks) := c_gAct2 gACT [.methodLink RX8 23 ⟨"NamingElders$Shy", "looks", "(LNamingElders$Acts;I)I"⟩, .sameMethod (⟨"NamingElders$Shy", "looks", "(LNamingElders$Acts;I)I"⟩ : MethodName).cls yX2_looks.cls (⟨"NamingElders$Shy", "looks", "(LNamingElders$Acts;I)I"⟩ : MethodName).name (⟨"NamingElders$Shy", "looks", "(LNamingElders$Acts;I)I"⟩ : MethodName).desc, .superclass RX8 (⟨"NamingElders$Shy", "looks", "(LNamingElders$Acts;I)I"⟩ : MethodName).cls, .superclass (⟨"NamingElders$Shy", "looks", "(LNamingElders$Acts;I)I"⟩ : MethodName).cls yX2_looks.cls, .instanceMethod yX2_looks, .initialized yX2_looks.cls] (by decide +kernel)
def fX8_looks (g : c_G) (a2 : Int32) : Option (c_G × Int32) :=
  (fX0_begin g ((71 : Int32))).bind fun g2 => c_b2 (fX2_looks g2 26 a2) fun g3 r5 => some (g3, (r5 ^^^ (g3.1 8 1)))
set_option maxRecDepth 100000 in
set_option maxHeartbeats 4000000 in
theorem kX8_looks {l : Launch} {D : va_G} {tc : Nat → ClassId} {ad : Nat → Nat} {A : Nat → Prop} {E : (Nat → Nat) × (Nat → Nat) × Nat} (hD : c_D A ad TC) {a2 : Int32} {g g' : c_G} {r : Int32} (hf : fX8_looks g a2 = some (g', r)) : c_Mi l yX8_looks wsA_X8_looks (c_rm 2) D tc ad A E TC ([.ref (ad 26), .ref (ad 8), .int a2] : List Value) g g' r := by
  refine c_ofW (bytes := cX8_looks) (maxL := 3) (ret := (some .int)) (by decide) rfl (Nat.le_of_ble_eq_true rfl) ?_
  intro p e s m below meth c ls C hP hS hl
  unfold fX8_looks at hf
  obtain ⟨hx, hb, hr, hml, hts, hown, hlk, hK, hE⟩ := id C
  have hl : lv_has ls 3 [(0, .ref (ad 26)), (1, .ref (ad 8)), (2, .int a2)] := hl
  refine lv_aload_n hx hb dX8_looks_0 rfl (lv_at hl 1 rfl) ?_
  refine lv_bipush (v := (71 : Int32)) hx hb dX8_looks_1 (by decide) ?_
  obtain ⟨g2, hc1, hf⟩ := c_bd hf
  refine c_gov (va_runV (As := [.int (71 : Int32)]) (rest := []) ⟨hx, hb, hml, hown, hts⟩ (kX0_begin hD hc1) (cwV 1 hts ga_X8_looks_13 rfl rfl rfl (by decide +kernel) ⟨Nat.le_of_ble_eq_true rfl, Nat.le_of_ble_eq_true rfl⟩) (c_preV hK hP hE hS tC8 rfl) rfl rfl hl.1 rfl (lv_room (Nat.le_of_ble_eq_true rfl)) dX8_looks_3 ⟨Nat.zero_le _, Nat.zero_le _⟩) hS (fun H locs hP hS => ?_)
  refine lv_aload_n hx hb dX8_looks_6 rfl (lv_at hl 0 rfl) ?_
  refine lv_aload_n hx hb dX8_looks_7 rfl (lv_at hl 1 rfl) ?_
  refine lv_iload_n hx hb dX8_looks_8 rfl (lv_at hl 2 rfl) ?_
  obtain ⟨g3, r5, hc4, hf⟩ := c_b2E hf
  refine c_goi (c_runSO (x := ⟨"NamingElders$Shy", "looks", "(LNamingElders$Acts;I)I"⟩) (hK.1 8 _ rfl).2 (As := [.ref (ad 8), .int a2]) (rest := []) ⟨hx, hb, hml, hown, hts⟩ (kX2_looks hD hc4) (c_cwSO 2 hts ga_X8_looks_23 rfl rfl rfl rfl (by decide +kernel) ⟨Nat.le_of_ble_eq_true rfl, Nat.le_of_ble_eq_true rfl⟩) (c_preV hK hP hE hS tC26 rfl) rfl rfl hl.1 rfl (lv_room (Nat.le_of_ble_eq_true rfl)) dX8_looks_9 ⟨Nat.zero_le _, Nat.zero_le _⟩) hS (fun H locs hP hS => ?_)
  refine lv_aload_n hx hb dX8_looks_12 rfl (lv_at hl 1 rfl) ?_
  refine c_get hx hb hts i_X8_looks_X0 hown hK hP 8 tC8 rfl 1 (by decide) (hts _ (List.mem_of_getElem? (i := 50) rfl)) (fun _ h9 => h9) rfl (v := .int (g3.1 8 1)) rfl dX8_looks_13 ?_
  refine lv_ixor hx hb dX8_looks_16 ?_
  exact c_iret hx hb hr hlk hP hS rfl (c_inj hf) dX8_looks_17
def v_looks (g : c_G) (u : Nat) (x : Int32) : Option (c_G × Int32) :=
  if u = 20 then fX2_looks g 20 x else if u = 21 then fX2_looks g 21 x else if u = 22 then fX9_looks g 22 x else if u = 23 then fX2_looks g 23 x else if u = 24 then fX3_looks g  x else if u = 25 then fX9_looks g 25 x else if u = 26 then fX8_looks g  x else none
theorem i_X2_points_X0 : ∀ w ∈ u_ws RX0 TX0 4, w ∈ wsA_X2_points := c_inP [131, 132, 133, 134] (by decide +kernel)
theorem dX2_points_0 : decode cX2_points 0 = .ok (.aload_n 1, 1) := by decide +kernel
theorem dX2_points_1 : decode cX2_points 1 = .ok (.bipush 11, 2) := by decide +kernel
theorem dX2_points_3 : decode cX2_points 3 = .ok (.invokevirtual 7, 3) := by decide +kernel
theorem dX2_points_6 : decode cX2_points 6 = .ok (.aload_n 0, 1) := by decide +kernel
theorem dX2_points_7 : decode cX2_points 7 = .ok (.aload_n 1, 1) := by decide +kernel
theorem dX2_points_8 : decode cX2_points 8 = .ok (.iload_n 2, 1) := by decide +kernel
theorem dX2_points_9 : decode cX2_points 9 = .ok (.invokevirtual 17, 3) := by decide +kernel
theorem dX2_points_12 : decode cX2_points 12 = .ok (.aload_n 1, 1) := by decide +kernel
theorem dX2_points_13 : decode cX2_points 13 = .ok (.getfield 23, 3) := by decide +kernel
theorem dX2_points_16 : decode cX2_points 16 = .ok (.isub, 1) := by decide +kernel
theorem dX2_points_17 : decode cX2_points 17 = .ok (.ireturn, 1) := by decide +kernel
theorem ga_X2_points_7 {cd : Cond} : GoodIn (cd :: wsACT) (wsV RX2 7 RX0 yX0_begin wsX0_begin) := c_gAct _ (by decide +kernel)
theorem ga_X2_points_17_2 {cd : Cond} : GoodIn (cd :: wsACT) (wsV RX2 17 RX2 yX2_looks wsA_X2_looks) := c_gAct2 gACT [.methodLink RX2 17 yX2_looks, .instanceMethod yX2_looks, .selects RX2 yX2_looks yX2_looks, .initialized RX2] (by decide +kernel)
theorem ga_X2_points_17_1 {cd : Cond} : GoodIn (cd :: wsACT) (va_wsU RX2 17 RX1 "NamingElders$Child" ⟨"NamingElders$Child", "looks", "(LNamingElders$Acts;I)I"⟩ yX2_looks wsA_X2_looks) := c_gAct2 gACT [.methodLink RX2 17 ⟨"NamingElders$Child", "looks", "(LNamingElders$Acts;I)I"⟩, .sameMethod (⟨"NamingElders$Child", "looks", "(LNamingElders$Acts;I)I"⟩ : MethodName).cls "NamingElders$Child" (⟨"NamingElders$Child", "looks", "(LNamingElders$Acts;I)I"⟩ : MethodName).name (⟨"NamingElders$Child", "looks", "(LNamingElders$Acts;I)I"⟩ : MethodName).desc, .selects RX1 ⟨"NamingElders$Child", "looks", "(LNamingElders$Acts;I)I"⟩ yX2_looks, .instanceMethod yX2_looks, .initialized yX2_looks.cls] (by decide +kernel)
theorem ga_X2_points_17_9 {cd : Cond} : GoodIn (cd :: wsACT) (va_wsO RX2 17 RX9 "NamingElders$Child" ⟨"NamingElders$Child", "looks", "(LNamingElders$Acts;I)I"⟩ yX9_looks wsA_X9_looks) := c_gAct2 gACT [.methodLink RX2 17 ⟨"NamingElders$Child", "looks", "(LNamingElders$Acts;I)I"⟩, .sameMethod (⟨"NamingElders$Child", "looks", "(LNamingElders$Acts;I)I"⟩ : MethodName).cls "NamingElders$Child" (⟨"NamingElders$Child", "looks", "(LNamingElders$Acts;I)I"⟩ : MethodName).name (⟨"NamingElders$Child", "looks", "(LNamingElders$Acts;I)I"⟩ : MethodName).desc, .instanceMethod ⟨"NamingElders$Child", (⟨"NamingElders$Child", "looks", "(LNamingElders$Acts;I)I"⟩ : MethodName).name, (⟨"NamingElders$Child", "looks", "(LNamingElders$Acts;I)I"⟩ : MethodName).desc⟩, .selects RX9 ⟨"NamingElders$Child", "looks", "(LNamingElders$Acts;I)I"⟩ yX9_looks, .instanceMethod yX9_looks, .initialized yX9_looks.cls] (by decide +kernel)
theorem ga_X2_points_17_6 {cd : Cond} : GoodIn (cd :: wsACT) (va_wsU RX2 17 RX6 "NamingElders$Child" ⟨"NamingElders$Child", "looks", "(LNamingElders$Acts;I)I"⟩ yX2_looks wsA_X2_looks) := c_gAct2 gACT [.methodLink RX2 17 ⟨"NamingElders$Child", "looks", "(LNamingElders$Acts;I)I"⟩, .sameMethod (⟨"NamingElders$Child", "looks", "(LNamingElders$Acts;I)I"⟩ : MethodName).cls "NamingElders$Child" (⟨"NamingElders$Child", "looks", "(LNamingElders$Acts;I)I"⟩ : MethodName).name (⟨"NamingElders$Child", "looks", "(LNamingElders$Acts;I)I"⟩ : MethodName).desc, .selects RX6 ⟨"NamingElders$Child", "looks", "(LNamingElders$Acts;I)I"⟩ yX2_looks, .instanceMethod yX2_looks, .initialized yX2_looks.cls] (by decide +kernel)
theorem ga_X2_points_17_3 {cd : Cond} : GoodIn (cd :: wsACT) (va_wsO RX2 17 RX3 "NamingElders$Child" ⟨"NamingElders$Child", "looks", "(LNamingElders$Acts;I)I"⟩ yX3_looks wsA_X3_looks) := c_gAct2 gACT [.methodLink RX2 17 ⟨"NamingElders$Child", "looks", "(LNamingElders$Acts;I)I"⟩, .sameMethod (⟨"NamingElders$Child", "looks", "(LNamingElders$Acts;I)I"⟩ : MethodName).cls "NamingElders$Child" (⟨"NamingElders$Child", "looks", "(LNamingElders$Acts;I)I"⟩ : MethodName).name (⟨"NamingElders$Child", "looks", "(LNamingElders$Acts;I)I"⟩ : MethodName).desc, .instanceMethod ⟨"NamingElders$Child", (⟨"NamingElders$Child", "looks", "(LNamingElders$Acts;I)I"⟩ : MethodName).name, (⟨"NamingElders$Child", "looks", "(LNamingElders$Acts;I)I"⟩ : MethodName).desc⟩, .selects RX3 ⟨"NamingElders$Child", "looks", "(LNamingElders$Acts;I)I"⟩ yX3_looks, .instanceMethod yX3_looks, .initialized yX3_looks.cls] (by decide +kernel)
theorem ga_X2_points_17_4 {cd : Cond} : GoodIn (cd :: wsACT) (va_wsO RX2 17 RX4 "NamingElders$Child" ⟨"NamingElders$Child", "looks", "(LNamingElders$Acts;I)I"⟩ yX9_looks wsA_X9_looks) := c_gAct2 gACT [.methodLink RX2 17 ⟨"NamingElders$Child", "looks", "(LNamingElders$Acts;I)I"⟩, .sameMethod (⟨"NamingElders$Child", "looks", "(LNamingElders$Acts;I)I"⟩ : MethodName).cls "NamingElders$Child" (⟨"NamingElders$Child", "looks", "(LNamingElders$Acts;I)I"⟩ : MethodName).name (⟨"NamingElders$Child", "looks", "(LNamingElders$Acts;I)I"⟩ : MethodName).desc, .instanceMethod ⟨"NamingElders$Child", (⟨"NamingElders$Child", "looks", "(LNamingElders$Acts;I)I"⟩ : MethodName).name, (⟨"NamingElders$Child", "looks", "(LNamingElders$Acts;I)I"⟩ : MethodName).desc⟩, .selects RX4 ⟨"NamingElders$Child", "looks", "(LNamingElders$Acts;I)I"⟩ yX9_looks, .instanceMethod yX9_looks, .initialized yX9_looks.cls] (by decide +kernel)
theorem ga_X2_points_17_8 {cd : Cond} : GoodIn (cd :: wsACT) (va_wsO RX2 17 RX8 "NamingElders$Child" ⟨"NamingElders$Child", "looks", "(LNamingElders$Acts;I)I"⟩ yX8_looks wsA_X8_looks) := c_gAct2 gACT [.methodLink RX2 17 ⟨"NamingElders$Child", "looks", "(LNamingElders$Acts;I)I"⟩, .sameMethod (⟨"NamingElders$Child", "looks", "(LNamingElders$Acts;I)I"⟩ : MethodName).cls "NamingElders$Child" (⟨"NamingElders$Child", "looks", "(LNamingElders$Acts;I)I"⟩ : MethodName).name (⟨"NamingElders$Child", "looks", "(LNamingElders$Acts;I)I"⟩ : MethodName).desc, .instanceMethod ⟨"NamingElders$Child", (⟨"NamingElders$Child", "looks", "(LNamingElders$Acts;I)I"⟩ : MethodName).name, (⟨"NamingElders$Child", "looks", "(LNamingElders$Acts;I)I"⟩ : MethodName).desc⟩, .selects RX8 ⟨"NamingElders$Child", "looks", "(LNamingElders$Acts;I)I"⟩ yX8_looks, .instanceMethod yX8_looks, .initialized yX8_looks.cls] (by decide +kernel)
def fX2_points (g : c_G) (u0 : Nat) (a2 : Int32) : Option (c_G × Int32) :=
  if c_isK u0 = true then ((fX0_begin g ((11 : Int32))).bind fun g2 => c_b2 (v_looks g2 u0 a2) fun g3 r5 => some (g3, (r5 - (g3.1 8 1)))) else none
set_option maxRecDepth 100000 in
set_option maxHeartbeats 4000000 in
theorem kX2_points {l : Launch} {D : va_G} {tc : Nat → ClassId} {ad : Nat → Nat} {A : Nat → Prop} {E : (Nat → Nat) × (Nat → Nat) × Nat} (hD : c_D A ad TC) {u0 : Nat} {a2 : Int32} {g g' : c_G} {r : Int32} (hf : fX2_points g u0 a2 = some (g', r)) : c_Mi l yX2_points wsA_X2_points (c_rm 3) D tc ad A E TC ([.ref (ad u0), .ref (ad 8), .int a2] : List Value) g g' r := by
  refine c_ofW (bytes := cX2_points) (maxL := 3) (ret := (some .int)) (by decide) rfl (Nat.le_of_ble_eq_true rfl) ?_
  intro p e s m below meth c ls C hP hS hl
  unfold fX2_points at hf
  obtain ⟨hq_u0, hf⟩ := c_gd hf
  obtain ⟨hx, hb, hr, hml, hts, hown, hlk, hK, hE⟩ := id C
  obtain ⟨_, _, hkT, hkQ⟩ := c_isKE hq_u0
  have hl : lv_has ls 3 [(0, .ref (ad u0)), (1, .ref (ad 8)), (2, .int a2)] := hl
  refine lv_aload_n hx hb dX2_points_0 rfl (lv_at hl 1 rfl) ?_
  refine lv_bipush (v := (11 : Int32)) hx hb dX2_points_1 (by decide) ?_
  obtain ⟨g2, hc1, hf⟩ := c_bd hf
  refine c_gov (va_runV (As := [.int (11 : Int32)]) (rest := []) ⟨hx, hb, hml, hown, hts⟩ (kX0_begin hD hc1) (cwV 1 hts ga_X2_points_7 rfl rfl rfl (by decide +kernel) ⟨Nat.le_of_ble_eq_true rfl, Nat.le_of_ble_eq_true rfl⟩) (c_preV hK hP hE hS tC8 rfl) rfl rfl hl.1 rfl (lv_room (Nat.le_of_ble_eq_true rfl)) dX2_points_3 ⟨Nat.zero_le _, Nat.zero_le _⟩) hS (fun H locs hP hS => ?_)
  refine lv_aload_n hx hb dX2_points_6 rfl (lv_at hl 0 rfl) ?_
  refine lv_aload_n hx hb dX2_points_7 rfl (lv_at hl 1 rfl) ?_
  refine lv_iload_n hx hb dX2_points_8 rfl (lv_at hl 2 rfl) ?_
  obtain ⟨g3, r5, hc4, hf⟩ := c_b2E hf
  have hk6 : ∀ (H : Heap) (locs : List Loc), va_P D vwCl (c_ws tc ad TC g3) H → va_S A s.heap H locs → W p l e (c_rm 3) s m ([.ref (ad u0), .ref (ad 8), .int a2] : List Value).toArray below meth c H locs 0 0 (MQ below (va_Qi (fun (x : Int32) (_ : Unit) => x = r) (fun _ t => va_P D vwCl (c_ws tc ad TC g') t.heap) A) ([.ref (ad u0), .ref (ad 8), .int a2] : List Value).toArray s 0 0 A) (F0 m 12 ls [.int r5]) := by
    intro H locs hP hS
    refine lv_aload_n hx hb dX2_points_12 rfl (lv_at hl 1 rfl) ?_
    refine c_get hx hb hts i_X2_points_X0 hown hK hP 8 tC8 rfl 1 (by decide) (hts _ (List.mem_of_getElem? (i := 65) rfl)) (fun _ h9 => h9) rfl (v := .int (g3.1 8 1)) rfl dX2_points_13 ?_
    refine lv_isub hx hb dX2_points_16 ?_
    exact c_iret hx hb hr hlk hP hS rfl (c_inj hf) dX2_points_17
  unfold v_looks at hc4
  by_cases q7 : u0 = 20
  · have hc4x := c_it q7 hc4
    subst q7
    exact c_goi (va_runV (As := [.ref (ad 8), .int a2]) (rest := []) ⟨hx, hb, hml, hown, hts⟩ (kX2_looks hD hc4x) (cwV 2 hts ga_X2_points_17_2 rfl rfl rfl (by decide +kernel) ⟨Nat.le_of_ble_eq_true rfl, Nat.le_of_ble_eq_true rfl⟩) (c_preV hK hP hE hS tC20 rfl) rfl rfl hl.1 rfl (lv_room (Nat.le_of_ble_eq_true rfl)) dX2_points_9 ⟨Nat.zero_le _, Nat.zero_le _⟩) hS hk6
  have hc4 := c_ie q7 hc4
  by_cases q8 : u0 = 21
  · have hc4x := c_it q8 hc4
    subst q8
    exact c_goi (va_runU (As := [.ref (ad 8), .int a2]) (rest := []) ⟨hx, hb, hml, hown, hts⟩ (kX2_looks hD hc4x) (va_cwU 2 hts ga_X2_points_17_1 rfl rfl rfl rfl (by decide +kernel) ⟨Nat.le_of_ble_eq_true rfl, Nat.le_of_ble_eq_true rfl⟩) (c_preV hK hP hE hS tC21 rfl) rfl rfl hl.1 rfl (lv_room (Nat.le_of_ble_eq_true rfl)) dX2_points_9 ⟨Nat.zero_le _, Nat.zero_le _⟩) hS hk6
  have hc4 := c_ie q8 hc4
  by_cases q9 : u0 = 22
  · have hc4x := c_it q9 hc4
    subst q9
    exact c_goi (va_runU (As := [.ref (ad 8), .int a2]) (rest := []) ⟨hx, hb, hml, hown, hts⟩ (kX9_looks hD hc4x) (va_cwO 2 hts ga_X2_points_17_9 rfl rfl rfl (List.mem_of_getElem? (i := 21) rfl) (by decide +kernel) ⟨Nat.le_of_ble_eq_true rfl, Nat.le_of_ble_eq_true rfl⟩) (c_preV hK hP hE hS tC22 rfl) rfl rfl hl.1 rfl (lv_room (Nat.le_of_ble_eq_true rfl)) dX2_points_9 ⟨Nat.zero_le _, Nat.zero_le _⟩) hS hk6
  have hc4 := c_ie q9 hc4
  by_cases q10 : u0 = 23
  · have hc4x := c_it q10 hc4
    subst q10
    exact c_goi (va_runU (As := [.ref (ad 8), .int a2]) (rest := []) ⟨hx, hb, hml, hown, hts⟩ (kX2_looks hD hc4x) (va_cwU 2 hts ga_X2_points_17_6 rfl rfl rfl rfl (by decide +kernel) ⟨Nat.le_of_ble_eq_true rfl, Nat.le_of_ble_eq_true rfl⟩) (c_preV hK hP hE hS tC23 rfl) rfl rfl hl.1 rfl (lv_room (Nat.le_of_ble_eq_true rfl)) dX2_points_9 ⟨Nat.zero_le _, Nat.zero_le _⟩) hS hk6
  have hc4 := c_ie q10 hc4
  by_cases q11 : u0 = 24
  · have hc4x := c_it q11 hc4
    subst q11
    exact c_goi (va_runU (As := [.ref (ad 8), .int a2]) (rest := []) ⟨hx, hb, hml, hown, hts⟩ (kX3_looks hD hc4x) (va_cwO 2 hts ga_X2_points_17_3 rfl rfl rfl (List.mem_of_getElem? (i := 21) rfl) (by decide +kernel) ⟨Nat.le_of_ble_eq_true rfl, Nat.le_of_ble_eq_true rfl⟩) (c_preV hK hP hE hS tC24 rfl) rfl rfl hl.1 rfl (lv_room (Nat.le_of_ble_eq_true rfl)) dX2_points_9 ⟨Nat.zero_le _, Nat.zero_le _⟩) hS hk6
  have hc4 := c_ie q11 hc4
  by_cases q12 : u0 = 25
  · have hc4x := c_it q12 hc4
    subst q12
    exact c_goi (va_runU (As := [.ref (ad 8), .int a2]) (rest := []) ⟨hx, hb, hml, hown, hts⟩ (kX9_looks hD hc4x) (va_cwO 2 hts ga_X2_points_17_4 rfl rfl rfl (List.mem_of_getElem? (i := 21) rfl) (by decide +kernel) ⟨Nat.le_of_ble_eq_true rfl, Nat.le_of_ble_eq_true rfl⟩) (c_preV hK hP hE hS tC25 rfl) rfl rfl hl.1 rfl (lv_room (Nat.le_of_ble_eq_true rfl)) dX2_points_9 ⟨Nat.zero_le _, Nat.zero_le _⟩) hS hk6
  have hc4 := c_ie q12 hc4
  by_cases q13 : u0 = 26
  · have hc4x := c_it q13 hc4
    subst q13
    exact c_goi (va_runU (As := [.ref (ad 8), .int a2]) (rest := []) ⟨hx, hb, hml, hown, hts⟩ (kX8_looks hD hc4x) (va_cwO 2 hts ga_X2_points_17_8 rfl rfl rfl (List.mem_of_getElem? (i := 21) rfl) (by decide +kernel) ⟨Nat.le_of_ble_eq_true rfl, Nat.le_of_ble_eq_true rfl⟩) (c_preV hK hP hE hS tC26 rfl) rfl rfl hl.1 rfl (lv_room (Nat.le_of_ble_eq_true rfl)) dX2_points_9 ⟨Nat.zero_le _, Nat.zero_le _⟩) hS hk6
  have hc4 := c_ie q13 hc4
  cases hc4
theorem dX1_points_0 : decode cX1_points 0 = .ok (.aload_n 1, 1) := by decide +kernel
theorem dX1_points_1 : decode cX1_points 1 = .ok (.bipush 20, 2) := by decide +kernel
theorem dX1_points_3 : decode cX1_points 3 = .ok (.invokevirtual 9, 3) := by decide +kernel
theorem dX1_points_6 : decode cX1_points 6 = .ok (.aload_n 0, 1) := by decide +kernel
theorem dX1_points_7 : decode cX1_points 7 = .ok (.aload_n 1, 1) := by decide +kernel
theorem dX1_points_8 : decode cX1_points 8 = .ok (.iload_n 2, 1) := by decide +kernel
theorem dX1_points_9 : decode cX1_points 9 = .ok (.invokespecial 15, 3) := by decide +kernel
theorem dX1_points_12 : decode cX1_points 12 = .ok (.bipush 6, 2) := by decide +kernel
theorem dX1_points_14 : decode cX1_points 14 = .ok (.ixor, 1) := by decide +kernel
theorem dX1_points_15 : decode cX1_points 15 = .ok (.ireturn, 1) := by decide +kernel
theorem ga_X1_points_9 {cd : Cond} : GoodIn (cd :: wsACT) (wsV RX1 9 RX0 yX0_begin wsX0_begin) := c_gAct _ (by decide +kernel)
theorem ga_X1_points_15 {cd : Cond} : GoodIn (cd :: wsACT) (va_wsSU RX1 15 yX2_points wsA_X2_points) := c_gAct2 gACT [.methodLink RX1 15 yX2_points, .sameMethod yX2_points.cls yX2_points.cls yX2_points.name yX2_points.desc, .superclass RX1 yX2_points.cls, .instanceMethod yX2_points, .initialized yX2_points.cls] (by decide +kernel)
def fX1_points (g : c_G) (u0 : Nat) (a2 : Int32) : Option (c_G × Int32) :=
  if c_isK u0 = true then ((fX0_begin g ((20 : Int32))).bind fun g2 => c_b2 (fX2_points g2 u0 a2) fun g3 r5 => some (g3, (r5 ^^^ (6 : Int32)))) else none
set_option maxRecDepth 100000 in
set_option maxHeartbeats 4000000 in
theorem kX1_points {l : Launch} {D : va_G} {tc : Nat → ClassId} {ad : Nat → Nat} {A : Nat → Prop} {E : (Nat → Nat) × (Nat → Nat) × Nat} (hD : c_D A ad TC) {u0 : Nat} {a2 : Int32} {g g' : c_G} {r : Int32} (hf : fX1_points g u0 a2 = some (g', r)) : c_Mi l yX1_points wsA_X1_points (c_rm 4) D tc ad A E TC ([.ref (ad u0), .ref (ad 8), .int a2] : List Value) g g' r := by
  refine c_ofW (bytes := cX1_points) (maxL := 3) (ret := (some .int)) (by decide) rfl (Nat.le_of_ble_eq_true rfl) ?_
  intro p e s m below meth c ls C hP hS hl
  unfold fX1_points at hf
  obtain ⟨hq_u0, hf⟩ := c_gd hf
  obtain ⟨hx, hb, hr, hml, hts, hown, hlk, hK, hE⟩ := id C
  obtain ⟨_, _, hkT, hkQ⟩ := c_isKE hq_u0
  have hl : lv_has ls 3 [(0, .ref (ad u0)), (1, .ref (ad 8)), (2, .int a2)] := hl
  refine lv_aload_n hx hb dX1_points_0 rfl (lv_at hl 1 rfl) ?_
  refine lv_bipush (v := (20 : Int32)) hx hb dX1_points_1 (by decide) ?_
  obtain ⟨g2, hc1, hf⟩ := c_bd hf
  refine c_gov (va_runV (As := [.int (20 : Int32)]) (rest := []) ⟨hx, hb, hml, hown, hts⟩ (kX0_begin hD hc1) (cwV 1 hts ga_X1_points_9 rfl rfl rfl (by decide +kernel) ⟨Nat.le_of_ble_eq_true rfl, Nat.le_of_ble_eq_true rfl⟩) (c_preV hK hP hE hS tC8 rfl) rfl rfl hl.1 rfl (lv_room (Nat.le_of_ble_eq_true rfl)) dX1_points_3 ⟨Nat.zero_le _, Nat.zero_le _⟩) hS (fun H locs hP hS => ?_)
  refine lv_aload_n hx hb dX1_points_6 rfl (lv_at hl 0 rfl) ?_
  refine lv_aload_n hx hb dX1_points_7 rfl (lv_at hl 1 rfl) ?_
  refine lv_iload_n hx hb dX1_points_8 rfl (lv_at hl 2 rfl) ?_
  obtain ⟨g3, r5, hc4, hf⟩ := c_b2E hf
  refine c_goi (va_runSU (hK.1 _ _ hkQ).2 (As := [.ref (ad 8), .int a2]) (rest := []) ⟨hx, hb, hml, hown, hts⟩ (kX2_points hD hc4) (va_cwSU 2 hts ga_X1_points_15 rfl rfl rfl (by decide +kernel) ⟨Nat.le_of_ble_eq_true rfl, Nat.le_of_ble_eq_true rfl⟩) (c_preV hK hP hE hS hkT hkQ) rfl rfl hl.1 rfl (lv_room (Nat.le_of_ble_eq_true rfl)) dX1_points_9 ⟨Nat.zero_le _, Nat.zero_le _⟩) hS (fun H locs hP hS => ?_)
  refine lv_bipush (v := (6 : Int32)) hx hb dX1_points_12 (by decide) ?_
  refine lv_ixor hx hb dX1_points_14 ?_
  exact c_iret hx hb hr hlk hP hS rfl (c_inj hf) dX1_points_15
theorem dX3_points_0 : decode cX3_points 0 = .ok (.aload_n 1, 1) := by decide +kernel
theorem dX3_points_1 : decode cX3_points 1 = .ok (.bipush 51, 2) := by decide +kernel
theorem dX3_points_3 : decode cX3_points 3 = .ok (.invokevirtual 13, 3) := by decide +kernel
theorem dX3_points_6 : decode cX3_points 6 = .ok (.aload_n 0, 1) := by decide +kernel
theorem dX3_points_7 : decode cX3_points 7 = .ok (.aload_n 1, 1) := by decide +kernel
theorem dX3_points_8 : decode cX3_points 8 = .ok (.iload_n 2, 1) := by decide +kernel
theorem dX3_points_9 : decode cX3_points 9 = .ok (.iconst 1, 1) := by decide +kernel
theorem dX3_points_10 : decode cX3_points 10 = .ok (.iadd, 1) := by decide +kernel
theorem dX3_points_11 : decode cX3_points 11 = .ok (.invokespecial 23, 3) := by decide +kernel
theorem dX3_points_14 : decode cX3_points 14 = .ok (.ireturn, 1) := by decide +kernel
theorem ga_X3_points_13 {cd : Cond} : GoodIn (cd :: wsACT) (wsV RX3 13 RX0 yX0_begin wsX0_begin) := c_gAct _ (by decide +kernel)
theorem ga_X3_points_23 {cd : Cond} : GoodIn (cd :: wsACT) (va_wsSU RX3 23 yX1_points wsA_X1_points) := c_gAct2 gACT [.methodLink RX3 23 yX1_points, .sameMethod yX1_points.cls yX1_points.cls yX1_points.name yX1_points.desc, .superclass RX3 yX1_points.cls, .instanceMethod yX1_points, .initialized yX1_points.cls] (by decide +kernel)
def fX3_points (g : c_G) (a2 : Int32) : Option (c_G × Int32) :=
  (fX0_begin g ((51 : Int32))).bind fun g2 => c_b2 (fX1_points g2 24 (a2 + (1 : Int32))) fun g3 r5 => some (g3, r5)
set_option maxRecDepth 100000 in
set_option maxHeartbeats 4000000 in
theorem kX3_points {l : Launch} {D : va_G} {tc : Nat → ClassId} {ad : Nat → Nat} {A : Nat → Prop} {E : (Nat → Nat) × (Nat → Nat) × Nat} (hD : c_D A ad TC) {a2 : Int32} {g g' : c_G} {r : Int32} (hf : fX3_points g a2 = some (g', r)) : c_Mi l yX3_points wsA_X3_points (c_rm 5) D tc ad A E TC ([.ref (ad 24), .ref (ad 8), .int a2] : List Value) g g' r := by
  refine c_ofW (bytes := cX3_points) (maxL := 3) (ret := (some .int)) (by decide) rfl (Nat.le_of_ble_eq_true rfl) ?_
  intro p e s m below meth c ls C hP hS hl
  unfold fX3_points at hf
  obtain ⟨hx, hb, hr, hml, hts, hown, hlk, hK, hE⟩ := id C
  have hl : lv_has ls 3 [(0, .ref (ad 24)), (1, .ref (ad 8)), (2, .int a2)] := hl
  refine lv_aload_n hx hb dX3_points_0 rfl (lv_at hl 1 rfl) ?_
  refine lv_bipush (v := (51 : Int32)) hx hb dX3_points_1 (by decide) ?_
  obtain ⟨g2, hc1, hf⟩ := c_bd hf
  refine c_gov (va_runV (As := [.int (51 : Int32)]) (rest := []) ⟨hx, hb, hml, hown, hts⟩ (kX0_begin hD hc1) (cwV 1 hts ga_X3_points_13 rfl rfl rfl (by decide +kernel) ⟨Nat.le_of_ble_eq_true rfl, Nat.le_of_ble_eq_true rfl⟩) (c_preV hK hP hE hS tC8 rfl) rfl rfl hl.1 rfl (lv_room (Nat.le_of_ble_eq_true rfl)) dX3_points_3 ⟨Nat.zero_le _, Nat.zero_le _⟩) hS (fun H locs hP hS => ?_)
  refine lv_aload_n hx hb dX3_points_6 rfl (lv_at hl 0 rfl) ?_
  refine lv_aload_n hx hb dX3_points_7 rfl (lv_at hl 1 rfl) ?_
  refine lv_iload_n hx hb dX3_points_8 rfl (lv_at hl 2 rfl) ?_
  refine lv_iconst (v := (1 : Int32)) hx hb dX3_points_9 (by decide) ?_
  refine lv_iadd hx hb dX3_points_10 ?_
  obtain ⟨g3, r5, hc4, hf⟩ := c_b2E hf
  refine c_goi (va_runSU (hK.1 3 _ rfl).2 (As := [.ref (ad 8), .int (a2 + (1 : Int32))]) (rest := []) ⟨hx, hb, hml, hown, hts⟩ (kX1_points hD hc4) (va_cwSU 2 hts ga_X3_points_23 rfl rfl rfl (by decide +kernel) ⟨Nat.le_of_ble_eq_true rfl, Nat.le_of_ble_eq_true rfl⟩) (c_preV hK hP hE hS tC24 rfl) rfl rfl hl.1 rfl (lv_room (Nat.le_of_ble_eq_true rfl)) dX3_points_11 ⟨Nat.zero_le _, Nat.zero_le _⟩) hS (fun H locs hP hS => ?_)
  exact c_iret hx hb hr hlk hP hS rfl (c_inj hf) dX3_points_14
theorem dX8_points_0 : decode cX8_points 0 = .ok (.aload_n 1, 1) := by decide +kernel
theorem dX8_points_1 : decode cX8_points 1 = .ok (.bipush 70, 2) := by decide +kernel
theorem dX8_points_3 : decode cX8_points 3 = .ok (.invokevirtual 13, 3) := by decide +kernel
theorem dX8_points_6 : decode cX8_points 6 = .ok (.aload_n 0, 1) := by decide +kernel
theorem dX8_points_7 : decode cX8_points 7 = .ok (.aload_n 1, 1) := by decide +kernel
theorem dX8_points_8 : decode cX8_points 8 = .ok (.iload_n 2, 1) := by decide +kernel
theorem dX8_points_9 : decode cX8_points 9 = .ok (.invokespecial 19, 3) := by decide +kernel
theorem dX8_points_12 : decode cX8_points 12 = .ok (.aload_n 0, 1) := by decide +kernel
theorem dX8_points_13 : decode cX8_points 13 = .ok (.aload_n 1, 1) := by decide +kernel
theorem dX8_points_14 : decode cX8_points 14 = .ok (.iconst 2, 1) := by decide +kernel
theorem dX8_points_15 : decode cX8_points 15 = .ok (.invokespecial 23, 3) := by decide +kernel
theorem dX8_points_18 : decode cX8_points 18 = .ok (.iadd, 1) := by decide +kernel
theorem dX8_points_19 : decode cX8_points 19 = .ok (.ireturn, 1) := by decide +kernel
theorem ga_X8_points_13 {cd : Cond} : GoodIn (cd :: wsACT) (wsV RX8 13 RX0 yX0_begin wsX0_begin) := c_gAct _ (by decide +kernel)
theorem ga_X8_points_19 {cd : Cond} : GoodIn (cd :: wsACT) (c_wsSO RX8 19 ⟨"NamingElders$Shy", "points", "(LNamingElders$Acts;I)I"⟩ yX2_points wsA_X2_points) := c_gAct2 gACT [.methodLink RX8 19 ⟨"NamingElders$Shy", "points", "(LNamingElders$Acts;I)I"⟩, .sameMethod (⟨"NamingElders$Shy", "points", "(LNamingElders$Acts;I)I"⟩ : MethodName).cls yX2_points.cls (⟨"NamingElders$Shy", "points", "(LNamingElders$Acts;I)I"⟩ : MethodName).name (⟨"NamingElders$Shy", "points", "(LNamingElders$Acts;I)I"⟩ : MethodName).desc, .superclass RX8 (⟨"NamingElders$Shy", "points", "(LNamingElders$Acts;I)I"⟩ : MethodName).cls, .superclass (⟨"NamingElders$Shy", "points", "(LNamingElders$Acts;I)I"⟩ : MethodName).cls yX2_points.cls, .instanceMethod yX2_points, .initialized yX2_points.cls] (by decide +kernel)
theorem ga_X8_points_23 {cd : Cond} : GoodIn (cd :: wsACT) (c_wsSO RX8 23 ⟨"NamingElders$Shy", "looks", "(LNamingElders$Acts;I)I"⟩ yX2_looks wsA_X2_looks) := c_gAct2 gACT [.methodLink RX8 23 ⟨"NamingElders$Shy", "looks", "(LNamingElders$Acts;I)I"⟩, .sameMethod (⟨"NamingElders$Shy", "looks", "(LNamingElders$Acts;I)I"⟩ : MethodName).cls yX2_looks.cls (⟨"NamingElders$Shy", "looks", "(LNamingElders$Acts;I)I"⟩ : MethodName).name (⟨"NamingElders$Shy", "looks", "(LNamingElders$Acts;I)I"⟩ : MethodName).desc, .superclass RX8 (⟨"NamingElders$Shy", "looks", "(LNamingElders$Acts;I)I"⟩ : MethodName).cls, .superclass (⟨"NamingElders$Shy", "looks", "(LNamingElders$Acts;I)I"⟩ : MethodName).cls yX2_looks.cls, .instanceMethod yX2_looks, .initialized yX2_looks.cls] (by decide +kernel)
def fX8_points (g : c_G) (a2 : Int32) : Option (c_G × Int32) :=
  (fX0_begin g ((70 : Int32))).bind fun g2 => c_b2 (fX2_points g2 26 a2) fun g3 r5 => c_b2 (fX2_looks g3 26 (2 : Int32)) fun g6 r8 => some (g6, (r5 + r8))
set_option maxRecDepth 100000 in
set_option maxHeartbeats 4000000 in
theorem kX8_points {l : Launch} {D : va_G} {tc : Nat → ClassId} {ad : Nat → Nat} {A : Nat → Prop} {E : (Nat → Nat) × (Nat → Nat) × Nat} (hD : c_D A ad TC) {a2 : Int32} {g g' : c_G} {r : Int32} (hf : fX8_points g a2 = some (g', r)) : c_Mi l yX8_points wsA_X8_points (c_rm 4) D tc ad A E TC ([.ref (ad 26), .ref (ad 8), .int a2] : List Value) g g' r := by
  refine c_ofW (bytes := cX8_points) (maxL := 3) (ret := (some .int)) (by decide) rfl (Nat.le_of_ble_eq_true rfl) ?_
  intro p e s m below meth c ls C hP hS hl
  unfold fX8_points at hf
  obtain ⟨hx, hb, hr, hml, hts, hown, hlk, hK, hE⟩ := id C
  have hl : lv_has ls 3 [(0, .ref (ad 26)), (1, .ref (ad 8)), (2, .int a2)] := hl
  refine lv_aload_n hx hb dX8_points_0 rfl (lv_at hl 1 rfl) ?_
  refine lv_bipush (v := (70 : Int32)) hx hb dX8_points_1 (by decide) ?_
  obtain ⟨g2, hc1, hf⟩ := c_bd hf
  refine c_gov (va_runV (As := [.int (70 : Int32)]) (rest := []) ⟨hx, hb, hml, hown, hts⟩ (kX0_begin hD hc1) (cwV 1 hts ga_X8_points_13 rfl rfl rfl (by decide +kernel) ⟨Nat.le_of_ble_eq_true rfl, Nat.le_of_ble_eq_true rfl⟩) (c_preV hK hP hE hS tC8 rfl) rfl rfl hl.1 rfl (lv_room (Nat.le_of_ble_eq_true rfl)) dX8_points_3 ⟨Nat.zero_le _, Nat.zero_le _⟩) hS (fun H locs hP hS => ?_)
  refine lv_aload_n hx hb dX8_points_6 rfl (lv_at hl 0 rfl) ?_
  refine lv_aload_n hx hb dX8_points_7 rfl (lv_at hl 1 rfl) ?_
  refine lv_iload_n hx hb dX8_points_8 rfl (lv_at hl 2 rfl) ?_
  obtain ⟨g3, r5, hc4, hf⟩ := c_b2E hf
  refine c_goi (c_runSO (x := ⟨"NamingElders$Shy", "points", "(LNamingElders$Acts;I)I"⟩) (hK.1 8 _ rfl).2 (As := [.ref (ad 8), .int a2]) (rest := []) ⟨hx, hb, hml, hown, hts⟩ (kX2_points hD hc4) (c_cwSO 2 hts ga_X8_points_19 rfl rfl rfl rfl (by decide +kernel) ⟨Nat.le_of_ble_eq_true rfl, Nat.le_of_ble_eq_true rfl⟩) (c_preV hK hP hE hS tC26 rfl) rfl rfl hl.1 rfl (lv_room (Nat.le_of_ble_eq_true rfl)) dX8_points_9 ⟨Nat.zero_le _, Nat.zero_le _⟩) hS (fun H locs hP hS => ?_)
  refine lv_aload_n hx hb dX8_points_12 rfl (lv_at hl 0 rfl) ?_
  refine lv_aload_n hx hb dX8_points_13 rfl (lv_at hl 1 rfl) ?_
  refine lv_iconst (v := (2 : Int32)) hx hb dX8_points_14 (by decide) ?_
  obtain ⟨g6, r8, hc7, hf⟩ := c_b2E hf
  refine c_goi (c_runSO (x := ⟨"NamingElders$Shy", "looks", "(LNamingElders$Acts;I)I"⟩) (hK.1 8 _ rfl).2 (As := [.ref (ad 8), .int (2 : Int32)]) (rest := [.int r5]) ⟨hx, hb, hml, hown, hts⟩ (kX2_looks hD hc7) (c_cwSO 2 hts ga_X8_points_23 rfl rfl rfl rfl (by decide +kernel) ⟨Nat.le_of_ble_eq_true rfl, Nat.le_of_ble_eq_true rfl⟩) (c_preV hK hP hE hS tC26 rfl) rfl rfl hl.1 rfl (lv_room (Nat.le_of_ble_eq_true rfl)) dX8_points_15 ⟨Nat.zero_le _, Nat.zero_le _⟩) hS (fun H locs hP hS => ?_)
  refine lv_iadd hx hb dX8_points_18 ?_
  exact c_iret hx hb hr hlk hP hS rfl (c_inj hf) dX8_points_19
def v_points (g : c_G) (u : Nat) (x : Int32) : Option (c_G × Int32) :=
  if u = 20 then fX2_points g 20 x else if u = 21 then fX1_points g 21 x else if u = 22 then fX2_points g 22 x else if u = 23 then fX2_points g 23 x else if u = 24 then fX3_points g  x else if u = 25 then fX2_points g 25 x else if u = 26 then fX8_points g  x else none
def v_pointsS (g : c_G) (u : Nat) (x : Int32) : Option (c_G × Int32) :=
  if u = 23 then fX2_points g 23 x else if u = 26 then fX8_points g  x else none
theorem dX2_tells_0 : decode cX2_tells 0 = .ok (.aload_n 1, 1) := by decide +kernel
theorem dX2_tells_1 : decode cX2_tells 1 = .ok (.bipush 12, 2) := by decide +kernel
theorem dX2_tells_3 : decode cX2_tells 3 = .ok (.invokevirtual 7, 3) := by decide +kernel
theorem dX2_tells_6 : decode cX2_tells 6 = .ok (.aload_n 0, 1) := by decide +kernel
theorem dX2_tells_7 : decode cX2_tells 7 = .ok (.aload_n 1, 1) := by decide +kernel
theorem dX2_tells_8 : decode cX2_tells 8 = .ok (.iload_n 2, 1) := by decide +kernel
theorem dX2_tells_9 : decode cX2_tells 9 = .ok (.invokevirtual 26, 3) := by decide +kernel
theorem dX2_tells_12 : decode cX2_tells 12 = .ok (.iconst 2, 1) := by decide +kernel
theorem dX2_tells_13 : decode cX2_tells 13 = .ok (.imul, 1) := by decide +kernel
theorem dX2_tells_14 : decode cX2_tells 14 = .ok (.ireturn, 1) := by decide +kernel
theorem ga_X2_tells_7 {cd : Cond} : GoodIn (cd :: wsACT) (wsV RX2 7 RX0 yX0_begin wsX0_begin) := c_gAct _ (by decide +kernel)
theorem ga_X2_tells_26_2 {cd : Cond} : GoodIn (cd :: wsACT) (wsV RX2 26 RX2 yX2_points wsA_X2_points) := c_gAct2 gACT [.methodLink RX2 26 yX2_points, .instanceMethod yX2_points, .selects RX2 yX2_points yX2_points, .initialized RX2] (by decide +kernel)
theorem ga_X2_tells_26_1 {cd : Cond} : GoodIn (cd :: wsACT) (va_wsO RX2 26 RX1 "NamingElders$Child" ⟨"NamingElders$Child", "points", "(LNamingElders$Acts;I)I"⟩ yX1_points wsA_X1_points) := c_gAct2 gACT [.methodLink RX2 26 ⟨"NamingElders$Child", "points", "(LNamingElders$Acts;I)I"⟩, .sameMethod (⟨"NamingElders$Child", "points", "(LNamingElders$Acts;I)I"⟩ : MethodName).cls "NamingElders$Child" (⟨"NamingElders$Child", "points", "(LNamingElders$Acts;I)I"⟩ : MethodName).name (⟨"NamingElders$Child", "points", "(LNamingElders$Acts;I)I"⟩ : MethodName).desc, .instanceMethod ⟨"NamingElders$Child", (⟨"NamingElders$Child", "points", "(LNamingElders$Acts;I)I"⟩ : MethodName).name, (⟨"NamingElders$Child", "points", "(LNamingElders$Acts;I)I"⟩ : MethodName).desc⟩, .selects RX1 ⟨"NamingElders$Child", "points", "(LNamingElders$Acts;I)I"⟩ yX1_points, .instanceMethod yX1_points, .initialized yX1_points.cls] (by decide +kernel)
theorem ga_X2_tells_26_9 {cd : Cond} : GoodIn (cd :: wsACT) (va_wsU RX2 26 RX9 "NamingElders$Child" ⟨"NamingElders$Child", "points", "(LNamingElders$Acts;I)I"⟩ yX2_points wsA_X2_points) := c_gAct2 gACT [.methodLink RX2 26 ⟨"NamingElders$Child", "points", "(LNamingElders$Acts;I)I"⟩, .sameMethod (⟨"NamingElders$Child", "points", "(LNamingElders$Acts;I)I"⟩ : MethodName).cls "NamingElders$Child" (⟨"NamingElders$Child", "points", "(LNamingElders$Acts;I)I"⟩ : MethodName).name (⟨"NamingElders$Child", "points", "(LNamingElders$Acts;I)I"⟩ : MethodName).desc, .selects RX9 ⟨"NamingElders$Child", "points", "(LNamingElders$Acts;I)I"⟩ yX2_points, .instanceMethod yX2_points, .initialized yX2_points.cls] (by decide +kernel)
theorem ga_X2_tells_26_6 {cd : Cond} : GoodIn (cd :: wsACT) (va_wsU RX2 26 RX6 "NamingElders$Child" ⟨"NamingElders$Child", "points", "(LNamingElders$Acts;I)I"⟩ yX2_points wsA_X2_points) := c_gAct2 gACT [.methodLink RX2 26 ⟨"NamingElders$Child", "points", "(LNamingElders$Acts;I)I"⟩, .sameMethod (⟨"NamingElders$Child", "points", "(LNamingElders$Acts;I)I"⟩ : MethodName).cls "NamingElders$Child" (⟨"NamingElders$Child", "points", "(LNamingElders$Acts;I)I"⟩ : MethodName).name (⟨"NamingElders$Child", "points", "(LNamingElders$Acts;I)I"⟩ : MethodName).desc, .selects RX6 ⟨"NamingElders$Child", "points", "(LNamingElders$Acts;I)I"⟩ yX2_points, .instanceMethod yX2_points, .initialized yX2_points.cls] (by decide +kernel)
theorem ga_X2_tells_26_3 {cd : Cond} : GoodIn (cd :: wsACT) (va_wsO RX2 26 RX3 "NamingElders$Child" ⟨"NamingElders$Child", "points", "(LNamingElders$Acts;I)I"⟩ yX3_points wsA_X3_points) := c_gAct2 gACT [.methodLink RX2 26 ⟨"NamingElders$Child", "points", "(LNamingElders$Acts;I)I"⟩, .sameMethod (⟨"NamingElders$Child", "points", "(LNamingElders$Acts;I)I"⟩ : MethodName).cls "NamingElders$Child" (⟨"NamingElders$Child", "points", "(LNamingElders$Acts;I)I"⟩ : MethodName).name (⟨"NamingElders$Child", "points", "(LNamingElders$Acts;I)I"⟩ : MethodName).desc, .instanceMethod ⟨"NamingElders$Child", (⟨"NamingElders$Child", "points", "(LNamingElders$Acts;I)I"⟩ : MethodName).name, (⟨"NamingElders$Child", "points", "(LNamingElders$Acts;I)I"⟩ : MethodName).desc⟩, .selects RX3 ⟨"NamingElders$Child", "points", "(LNamingElders$Acts;I)I"⟩ yX3_points, .instanceMethod yX3_points, .initialized yX3_points.cls] (by decide +kernel)
theorem ga_X2_tells_26_4 {cd : Cond} : GoodIn (cd :: wsACT) (va_wsU RX2 26 RX4 "NamingElders$Child" ⟨"NamingElders$Child", "points", "(LNamingElders$Acts;I)I"⟩ yX2_points wsA_X2_points) := c_gAct2 gACT [.methodLink RX2 26 ⟨"NamingElders$Child", "points", "(LNamingElders$Acts;I)I"⟩, .sameMethod (⟨"NamingElders$Child", "points", "(LNamingElders$Acts;I)I"⟩ : MethodName).cls "NamingElders$Child" (⟨"NamingElders$Child", "points", "(LNamingElders$Acts;I)I"⟩ : MethodName).name (⟨"NamingElders$Child", "points", "(LNamingElders$Acts;I)I"⟩ : MethodName).desc, .selects RX4 ⟨"NamingElders$Child", "points", "(LNamingElders$Acts;I)I"⟩ yX2_points, .instanceMethod yX2_points, .initialized yX2_points.cls] (by decide +kernel)
theorem ga_X2_tells_26_8 {cd : Cond} : GoodIn (cd :: wsACT) (va_wsO RX2 26 RX8 "NamingElders$Child" ⟨"NamingElders$Child", "points", "(LNamingElders$Acts;I)I"⟩ yX8_points wsA_X8_points) := c_gAct2 gACT [.methodLink RX2 26 ⟨"NamingElders$Child", "points", "(LNamingElders$Acts;I)I"⟩, .sameMethod (⟨"NamingElders$Child", "points", "(LNamingElders$Acts;I)I"⟩ : MethodName).cls "NamingElders$Child" (⟨"NamingElders$Child", "points", "(LNamingElders$Acts;I)I"⟩ : MethodName).name (⟨"NamingElders$Child", "points", "(LNamingElders$Acts;I)I"⟩ : MethodName).desc, .instanceMethod ⟨"NamingElders$Child", (⟨"NamingElders$Child", "points", "(LNamingElders$Acts;I)I"⟩ : MethodName).name, (⟨"NamingElders$Child", "points", "(LNamingElders$Acts;I)I"⟩ : MethodName).desc⟩, .selects RX8 ⟨"NamingElders$Child", "points", "(LNamingElders$Acts;I)I"⟩ yX8_points, .instanceMethod yX8_points, .initialized yX8_points.cls] (by decide +kernel)
def fX2_tells (g : c_G) (u0 : Nat) (a2 : Int32) : Option (c_G × Int32) :=
  if c_isK u0 = true then ((fX0_begin g ((12 : Int32))).bind fun g2 => c_b2 (v_points g2 u0 a2) fun g3 r5 => some (g3, (r5 * (2 : Int32)))) else none
set_option maxRecDepth 100000 in
set_option maxHeartbeats 4000000 in
theorem kX2_tells {l : Launch} {D : va_G} {tc : Nat → ClassId} {ad : Nat → Nat} {A : Nat → Prop} {E : (Nat → Nat) × (Nat → Nat) × Nat} (hD : c_D A ad TC) {u0 : Nat} {a2 : Int32} {g g' : c_G} {r : Int32} (hf : fX2_tells g u0 a2 = some (g', r)) : c_Mi l yX2_tells wsA_X2_tells (c_rm 6) D tc ad A E TC ([.ref (ad u0), .ref (ad 8), .int a2] : List Value) g g' r := by
  refine c_ofW (bytes := cX2_tells) (maxL := 3) (ret := (some .int)) (by decide) rfl (Nat.le_of_ble_eq_true rfl) ?_
  intro p e s m below meth c ls C hP hS hl
  unfold fX2_tells at hf
  obtain ⟨hq_u0, hf⟩ := c_gd hf
  obtain ⟨hx, hb, hr, hml, hts, hown, hlk, hK, hE⟩ := id C
  obtain ⟨_, _, hkT, hkQ⟩ := c_isKE hq_u0
  have hl : lv_has ls 3 [(0, .ref (ad u0)), (1, .ref (ad 8)), (2, .int a2)] := hl
  refine lv_aload_n hx hb dX2_tells_0 rfl (lv_at hl 1 rfl) ?_
  refine lv_bipush (v := (12 : Int32)) hx hb dX2_tells_1 (by decide) ?_
  obtain ⟨g2, hc1, hf⟩ := c_bd hf
  refine c_gov (va_runV (As := [.int (12 : Int32)]) (rest := []) ⟨hx, hb, hml, hown, hts⟩ (kX0_begin hD hc1) (cwV 1 hts ga_X2_tells_7 rfl rfl rfl (by decide +kernel) ⟨Nat.le_of_ble_eq_true rfl, Nat.le_of_ble_eq_true rfl⟩) (c_preV hK hP hE hS tC8 rfl) rfl rfl hl.1 rfl (lv_room (Nat.le_of_ble_eq_true rfl)) dX2_tells_3 ⟨Nat.zero_le _, Nat.zero_le _⟩) hS (fun H locs hP hS => ?_)
  refine lv_aload_n hx hb dX2_tells_6 rfl (lv_at hl 0 rfl) ?_
  refine lv_aload_n hx hb dX2_tells_7 rfl (lv_at hl 1 rfl) ?_
  refine lv_iload_n hx hb dX2_tells_8 rfl (lv_at hl 2 rfl) ?_
  obtain ⟨g3, r5, hc4, hf⟩ := c_b2E hf
  have hk6 : ∀ (H : Heap) (locs : List Loc), va_P D vwCl (c_ws tc ad TC g3) H → va_S A s.heap H locs → W p l e (c_rm 6) s m ([.ref (ad u0), .ref (ad 8), .int a2] : List Value).toArray below meth c H locs 0 0 (MQ below (va_Qi (fun (x : Int32) (_ : Unit) => x = r) (fun _ t => va_P D vwCl (c_ws tc ad TC g') t.heap) A) ([.ref (ad u0), .ref (ad 8), .int a2] : List Value).toArray s 0 0 A) (F0 m 12 ls [.int r5]) := by
    intro H locs hP hS
    refine lv_iconst (v := (2 : Int32)) hx hb dX2_tells_12 (by decide) ?_
    refine lv_imul hx hb dX2_tells_13 ?_
    exact c_iret hx hb hr hlk hP hS rfl (c_inj hf) dX2_tells_14
  unfold v_points at hc4
  by_cases q7 : u0 = 20
  · have hc4x := c_it q7 hc4
    subst q7
    exact c_goi (va_runV (As := [.ref (ad 8), .int a2]) (rest := []) ⟨hx, hb, hml, hown, hts⟩ (kX2_points hD hc4x) (cwV 2 hts ga_X2_tells_26_2 rfl rfl rfl (by decide +kernel) ⟨Nat.le_of_ble_eq_true rfl, Nat.le_of_ble_eq_true rfl⟩) (c_preV hK hP hE hS tC20 rfl) rfl rfl hl.1 rfl (lv_room (Nat.le_of_ble_eq_true rfl)) dX2_tells_9 ⟨Nat.zero_le _, Nat.zero_le _⟩) hS hk6
  have hc4 := c_ie q7 hc4
  by_cases q8 : u0 = 21
  · have hc4x := c_it q8 hc4
    subst q8
    exact c_goi (va_runU (As := [.ref (ad 8), .int a2]) (rest := []) ⟨hx, hb, hml, hown, hts⟩ (kX1_points hD hc4x) (va_cwO 2 hts ga_X2_tells_26_1 rfl rfl rfl (List.mem_of_getElem? (i := 64) rfl) (by decide +kernel) ⟨Nat.le_of_ble_eq_true rfl, Nat.le_of_ble_eq_true rfl⟩) (c_preV hK hP hE hS tC21 rfl) rfl rfl hl.1 rfl (lv_room (Nat.le_of_ble_eq_true rfl)) dX2_tells_9 ⟨Nat.zero_le _, Nat.zero_le _⟩) hS hk6
  have hc4 := c_ie q8 hc4
  by_cases q9 : u0 = 22
  · have hc4x := c_it q9 hc4
    subst q9
    exact c_goi (va_runU (As := [.ref (ad 8), .int a2]) (rest := []) ⟨hx, hb, hml, hown, hts⟩ (kX2_points hD hc4x) (va_cwU 2 hts ga_X2_tells_26_9 rfl rfl rfl rfl (by decide +kernel) ⟨Nat.le_of_ble_eq_true rfl, Nat.le_of_ble_eq_true rfl⟩) (c_preV hK hP hE hS tC22 rfl) rfl rfl hl.1 rfl (lv_room (Nat.le_of_ble_eq_true rfl)) dX2_tells_9 ⟨Nat.zero_le _, Nat.zero_le _⟩) hS hk6
  have hc4 := c_ie q9 hc4
  by_cases q10 : u0 = 23
  · have hc4x := c_it q10 hc4
    subst q10
    exact c_goi (va_runU (As := [.ref (ad 8), .int a2]) (rest := []) ⟨hx, hb, hml, hown, hts⟩ (kX2_points hD hc4x) (va_cwU 2 hts ga_X2_tells_26_6 rfl rfl rfl rfl (by decide +kernel) ⟨Nat.le_of_ble_eq_true rfl, Nat.le_of_ble_eq_true rfl⟩) (c_preV hK hP hE hS tC23 rfl) rfl rfl hl.1 rfl (lv_room (Nat.le_of_ble_eq_true rfl)) dX2_tells_9 ⟨Nat.zero_le _, Nat.zero_le _⟩) hS hk6
  have hc4 := c_ie q10 hc4
  by_cases q11 : u0 = 24
  · have hc4x := c_it q11 hc4
    subst q11
    exact c_goi (va_runU (As := [.ref (ad 8), .int a2]) (rest := []) ⟨hx, hb, hml, hown, hts⟩ (kX3_points hD hc4x) (va_cwO 2 hts ga_X2_tells_26_3 rfl rfl rfl (List.mem_of_getElem? (i := 64) rfl) (by decide +kernel) ⟨Nat.le_of_ble_eq_true rfl, Nat.le_of_ble_eq_true rfl⟩) (c_preV hK hP hE hS tC24 rfl) rfl rfl hl.1 rfl (lv_room (Nat.le_of_ble_eq_true rfl)) dX2_tells_9 ⟨Nat.zero_le _, Nat.zero_le _⟩) hS hk6
  have hc4 := c_ie q11 hc4
  by_cases q12 : u0 = 25
  · have hc4x := c_it q12 hc4
    subst q12
    exact c_goi (va_runU (As := [.ref (ad 8), .int a2]) (rest := []) ⟨hx, hb, hml, hown, hts⟩ (kX2_points hD hc4x) (va_cwU 2 hts ga_X2_tells_26_4 rfl rfl rfl rfl (by decide +kernel) ⟨Nat.le_of_ble_eq_true rfl, Nat.le_of_ble_eq_true rfl⟩) (c_preV hK hP hE hS tC25 rfl) rfl rfl hl.1 rfl (lv_room (Nat.le_of_ble_eq_true rfl)) dX2_tells_9 ⟨Nat.zero_le _, Nat.zero_le _⟩) hS hk6
  have hc4 := c_ie q12 hc4
  by_cases q13 : u0 = 26
  · have hc4x := c_it q13 hc4
    subst q13
    exact c_goi (va_runU (As := [.ref (ad 8), .int a2]) (rest := []) ⟨hx, hb, hml, hown, hts⟩ (kX8_points hD hc4x) (va_cwO 2 hts ga_X2_tells_26_8 rfl rfl rfl (List.mem_of_getElem? (i := 64) rfl) (by decide +kernel) ⟨Nat.le_of_ble_eq_true rfl, Nat.le_of_ble_eq_true rfl⟩) (c_preV hK hP hE hS tC26 rfl) rfl rfl hl.1 rfl (lv_room (Nat.le_of_ble_eq_true rfl)) dX2_tells_9 ⟨Nat.zero_le _, Nat.zero_le _⟩) hS hk6
  have hc4 := c_ie q13 hc4
  cases hc4
theorem dX6_tells_0 : decode cX6_tells 0 = .ok (.aload_n 1, 1) := by decide +kernel
theorem dX6_tells_1 : decode cX6_tells 1 = .ok (.bipush 40, 2) := by decide +kernel
theorem dX6_tells_3 : decode cX6_tells 3 = .ok (.invokevirtual 9, 3) := by decide +kernel
theorem dX6_tells_6 : decode cX6_tells 6 = .ok (.aload_n 0, 1) := by decide +kernel
theorem dX6_tells_7 : decode cX6_tells 7 = .ok (.aload_n 1, 1) := by decide +kernel
theorem dX6_tells_8 : decode cX6_tells 8 = .ok (.iload_n 2, 1) := by decide +kernel
theorem dX6_tells_9 : decode cX6_tells 9 = .ok (.invokespecial 15, 3) := by decide +kernel
theorem dX6_tells_12 : decode cX6_tells 12 = .ok (.aload_n 0, 1) := by decide +kernel
theorem dX6_tells_13 : decode cX6_tells 13 = .ok (.aload_n 1, 1) := by decide +kernel
theorem dX6_tells_14 : decode cX6_tells 14 = .ok (.iconst 1, 1) := by decide +kernel
theorem dX6_tells_15 : decode cX6_tells 15 = .ok (.invokevirtual 19, 3) := by decide +kernel
theorem dX6_tells_18 : decode cX6_tells 18 = .ok (.iadd, 1) := by decide +kernel
theorem dX6_tells_19 : decode cX6_tells 19 = .ok (.ireturn, 1) := by decide +kernel
theorem ga_X6_tells_9 {cd : Cond} : GoodIn (cd :: wsACT) (wsV RX6 9 RX0 yX0_begin wsX0_begin) := c_gAct _ (by decide +kernel)
theorem ga_X6_tells_15 {cd : Cond} : GoodIn (cd :: wsACT) (va_wsSU RX6 15 yX2_tells wsA_X2_tells) := c_gAct2 gACT [.methodLink RX6 15 yX2_tells, .sameMethod yX2_tells.cls yX2_tells.cls yX2_tells.name yX2_tells.desc, .superclass RX6 yX2_tells.cls, .instanceMethod yX2_tells, .initialized yX2_tells.cls] (by decide +kernel)
theorem ga_X6_tells_19_6 {cd : Cond} : GoodIn (cd :: wsACT) (va_wsU RX6 19 RX6 "NamingElders$Child" ⟨"NamingElders$Shy", "points", "(LNamingElders$Acts;I)I"⟩ yX2_points wsA_X2_points) := c_gAct2 gACT [.methodLink RX6 19 ⟨"NamingElders$Shy", "points", "(LNamingElders$Acts;I)I"⟩, .sameMethod (⟨"NamingElders$Shy", "points", "(LNamingElders$Acts;I)I"⟩ : MethodName).cls "NamingElders$Child" (⟨"NamingElders$Shy", "points", "(LNamingElders$Acts;I)I"⟩ : MethodName).name (⟨"NamingElders$Shy", "points", "(LNamingElders$Acts;I)I"⟩ : MethodName).desc, .selects RX6 ⟨"NamingElders$Shy", "points", "(LNamingElders$Acts;I)I"⟩ yX2_points, .instanceMethod yX2_points, .initialized yX2_points.cls] (by decide +kernel)
theorem ga_X6_tells_19_8 {cd : Cond} : GoodIn (cd :: wsACT) (va_wsO RX6 19 RX8 "NamingElders$Child" ⟨"NamingElders$Shy", "points", "(LNamingElders$Acts;I)I"⟩ yX8_points wsA_X8_points) := c_gAct2 gACT [.methodLink RX6 19 ⟨"NamingElders$Shy", "points", "(LNamingElders$Acts;I)I"⟩, .sameMethod (⟨"NamingElders$Shy", "points", "(LNamingElders$Acts;I)I"⟩ : MethodName).cls "NamingElders$Child" (⟨"NamingElders$Shy", "points", "(LNamingElders$Acts;I)I"⟩ : MethodName).name (⟨"NamingElders$Shy", "points", "(LNamingElders$Acts;I)I"⟩ : MethodName).desc, .instanceMethod ⟨"NamingElders$Child", (⟨"NamingElders$Shy", "points", "(LNamingElders$Acts;I)I"⟩ : MethodName).name, (⟨"NamingElders$Shy", "points", "(LNamingElders$Acts;I)I"⟩ : MethodName).desc⟩, .selects RX8 ⟨"NamingElders$Shy", "points", "(LNamingElders$Acts;I)I"⟩ yX8_points, .instanceMethod yX8_points, .initialized yX8_points.cls] (by decide +kernel)
def fX6_tells (g : c_G) (u0 : Nat) (a2 : Int32) : Option (c_G × Int32) :=
  if c_isK u0 = true then ((fX0_begin g ((40 : Int32))).bind fun g2 => c_b2 (fX2_tells g2 u0 a2) fun g3 r5 => c_b2 (v_pointsS g3 u0 (1 : Int32)) fun g6 r8 => some (g6, (r5 + r8))) else none
set_option maxRecDepth 100000 in
set_option maxHeartbeats 4000000 in
theorem kX6_tells {l : Launch} {D : va_G} {tc : Nat → ClassId} {ad : Nat → Nat} {A : Nat → Prop} {E : (Nat → Nat) × (Nat → Nat) × Nat} (hD : c_D A ad TC) {u0 : Nat} {a2 : Int32} {g g' : c_G} {r : Int32} (hf : fX6_tells g u0 a2 = some (g', r)) : c_Mi l yX6_tells wsA_X6_tells (c_rm 7) D tc ad A E TC ([.ref (ad u0), .ref (ad 8), .int a2] : List Value) g g' r := by
  refine c_ofW (bytes := cX6_tells) (maxL := 3) (ret := (some .int)) (by decide) rfl (Nat.le_of_ble_eq_true rfl) ?_
  intro p e s m below meth c ls C hP hS hl
  unfold fX6_tells at hf
  obtain ⟨hq_u0, hf⟩ := c_gd hf
  obtain ⟨hx, hb, hr, hml, hts, hown, hlk, hK, hE⟩ := id C
  obtain ⟨_, _, hkT, hkQ⟩ := c_isKE hq_u0
  have hl : lv_has ls 3 [(0, .ref (ad u0)), (1, .ref (ad 8)), (2, .int a2)] := hl
  refine lv_aload_n hx hb dX6_tells_0 rfl (lv_at hl 1 rfl) ?_
  refine lv_bipush (v := (40 : Int32)) hx hb dX6_tells_1 (by decide) ?_
  obtain ⟨g2, hc1, hf⟩ := c_bd hf
  refine c_gov (va_runV (As := [.int (40 : Int32)]) (rest := []) ⟨hx, hb, hml, hown, hts⟩ (kX0_begin hD hc1) (cwV 1 hts ga_X6_tells_9 rfl rfl rfl (by decide +kernel) ⟨Nat.le_of_ble_eq_true rfl, Nat.le_of_ble_eq_true rfl⟩) (c_preV hK hP hE hS tC8 rfl) rfl rfl hl.1 rfl (lv_room (Nat.le_of_ble_eq_true rfl)) dX6_tells_3 ⟨Nat.zero_le _, Nat.zero_le _⟩) hS (fun H locs hP hS => ?_)
  refine lv_aload_n hx hb dX6_tells_6 rfl (lv_at hl 0 rfl) ?_
  refine lv_aload_n hx hb dX6_tells_7 rfl (lv_at hl 1 rfl) ?_
  refine lv_iload_n hx hb dX6_tells_8 rfl (lv_at hl 2 rfl) ?_
  obtain ⟨g3, r5, hc4, hf⟩ := c_b2E hf
  refine c_goi (va_runSU (hK.1 _ _ hkQ).2 (As := [.ref (ad 8), .int a2]) (rest := []) ⟨hx, hb, hml, hown, hts⟩ (kX2_tells hD hc4) (va_cwSU 2 hts ga_X6_tells_15 rfl rfl rfl (by decide +kernel) ⟨Nat.le_of_ble_eq_true rfl, Nat.le_of_ble_eq_true rfl⟩) (c_preV hK hP hE hS hkT hkQ) rfl rfl hl.1 rfl (lv_room (Nat.le_of_ble_eq_true rfl)) dX6_tells_9 ⟨Nat.zero_le _, Nat.zero_le _⟩) hS (fun H locs hP hS => ?_)
  refine lv_aload_n hx hb dX6_tells_12 rfl (lv_at hl 0 rfl) ?_
  refine lv_aload_n hx hb dX6_tells_13 rfl (lv_at hl 1 rfl) ?_
  refine lv_iconst (v := (1 : Int32)) hx hb dX6_tells_14 (by decide) ?_
  obtain ⟨g6, r8, hc7, hf⟩ := c_b2E hf
  have hk9 : ∀ (H : Heap) (locs : List Loc), va_P D vwCl (c_ws tc ad TC g6) H → va_S A s.heap H locs → W p l e (c_rm 7) s m ([.ref (ad u0), .ref (ad 8), .int a2] : List Value).toArray below meth c H locs 0 0 (MQ below (va_Qi (fun (x : Int32) (_ : Unit) => x = r) (fun _ t => va_P D vwCl (c_ws tc ad TC g') t.heap) A) ([.ref (ad u0), .ref (ad 8), .int a2] : List Value).toArray s 0 0 A) (F0 m 18 ls [.int r8, .int r5]) := by
    intro H locs hP hS
    refine lv_iadd hx hb dX6_tells_18 ?_
    exact c_iret hx hb hr hlk hP hS rfl (c_inj hf) dX6_tells_19
  unfold v_pointsS at hc7
  by_cases q10 : u0 = 23
  · have hc7x := c_it q10 hc7
    subst q10
    exact c_goi (va_runU (As := [.ref (ad 8), .int (1 : Int32)]) (rest := [.int r5]) ⟨hx, hb, hml, hown, hts⟩ (kX2_points hD hc7x) (va_cwU 2 hts ga_X6_tells_19_6 rfl rfl rfl rfl (by decide +kernel) ⟨Nat.le_of_ble_eq_true rfl, Nat.le_of_ble_eq_true rfl⟩) (c_preV hK hP hE hS tC23 rfl) rfl rfl hl.1 rfl (lv_room (Nat.le_of_ble_eq_true rfl)) dX6_tells_15 ⟨Nat.zero_le _, Nat.zero_le _⟩) hS hk9
  have hc7 := c_ie q10 hc7
  by_cases q11 : u0 = 26
  · have hc7x := c_it q11 hc7
    subst q11
    exact c_goi (va_runU (As := [.ref (ad 8), .int (1 : Int32)]) (rest := [.int r5]) ⟨hx, hb, hml, hown, hts⟩ (kX8_points hD hc7x) (va_cwO 2 hts ga_X6_tells_19_8 rfl rfl rfl (List.mem_of_getElem? (i := 64) rfl) (by decide +kernel) ⟨Nat.le_of_ble_eq_true rfl, Nat.le_of_ble_eq_true rfl⟩) (c_preV hK hP hE hS tC26 rfl) rfl rfl hl.1 rfl (lv_room (Nat.le_of_ble_eq_true rfl)) dX6_tells_15 ⟨Nat.zero_le _, Nat.zero_le _⟩) hS hk9
  have hc7 := c_ie q11 hc7
  cases hc7
theorem i_X4_tells_X0 : ∀ w ∈ u_ws RX0 TX0 4, w ∈ wsA_X4_tells := c_inP [131, 132, 133, 134] (by decide +kernel)
theorem dX4_tells_0 : decode cX4_tells 0 = .ok (.aload_n 1, 1) := by decide +kernel
theorem dX4_tells_1 : decode cX4_tells 1 = .ok (.bipush 60, 2) := by decide +kernel
theorem dX4_tells_3 : decode cX4_tells 3 = .ok (.invokevirtual 11, 3) := by decide +kernel
theorem dX4_tells_6 : decode cX4_tells 6 = .ok (.aload_n 0, 1) := by decide +kernel
theorem dX4_tells_7 : decode cX4_tells 7 = .ok (.aload_n 1, 1) := by decide +kernel
theorem dX4_tells_8 : decode cX4_tells 8 = .ok (.iload_n 2, 1) := by decide +kernel
theorem dX4_tells_9 : decode cX4_tells 9 = .ok (.aload_n 1, 1) := by decide +kernel
theorem dX4_tells_10 : decode cX4_tells 10 = .ok (.getfield 17, 3) := by decide +kernel
theorem dX4_tells_13 : decode cX4_tells 13 = .ok (.isub, 1) := by decide +kernel
theorem dX4_tells_14 : decode cX4_tells 14 = .ok (.invokespecial 21, 3) := by decide +kernel
theorem dX4_tells_17 : decode cX4_tells 17 = .ok (.ireturn, 1) := by decide +kernel
theorem ga_X4_tells_11 {cd : Cond} : GoodIn (cd :: wsACT) (wsV RX4 11 RX0 yX0_begin wsX0_begin) := c_gAct _ (by decide +kernel)
theorem ga_X4_tells_21 {cd : Cond} : GoodIn (cd :: wsACT) (c_wsSO RX4 21 ⟨"NamingElders$Twin", "tells", "(LNamingElders$Acts;I)I"⟩ yX2_tells wsA_X2_tells) := c_gAct2 gACT [.methodLink RX4 21 ⟨"NamingElders$Twin", "tells", "(LNamingElders$Acts;I)I"⟩, .sameMethod (⟨"NamingElders$Twin", "tells", "(LNamingElders$Acts;I)I"⟩ : MethodName).cls yX2_tells.cls (⟨"NamingElders$Twin", "tells", "(LNamingElders$Acts;I)I"⟩ : MethodName).name (⟨"NamingElders$Twin", "tells", "(LNamingElders$Acts;I)I"⟩ : MethodName).desc, .superclass RX4 (⟨"NamingElders$Twin", "tells", "(LNamingElders$Acts;I)I"⟩ : MethodName).cls, .superclass (⟨"NamingElders$Twin", "tells", "(LNamingElders$Acts;I)I"⟩ : MethodName).cls yX2_tells.cls, .instanceMethod yX2_tells, .initialized yX2_tells.cls] (by decide +kernel)
def fX4_tells (g : c_G) (a2 : Int32) : Option (c_G × Int32) :=
  (fX0_begin g ((60 : Int32))).bind fun g2 => c_b2 (fX2_tells g2 25 (a2 - (g2.1 8 0))) fun g3 r5 => some (g3, r5)
set_option maxRecDepth 100000 in
set_option maxHeartbeats 4000000 in
theorem kX4_tells {l : Launch} {D : va_G} {tc : Nat → ClassId} {ad : Nat → Nat} {A : Nat → Prop} {E : (Nat → Nat) × (Nat → Nat) × Nat} (hD : c_D A ad TC) {a2 : Int32} {g g' : c_G} {r : Int32} (hf : fX4_tells g a2 = some (g', r)) : c_Mi l yX4_tells wsA_X4_tells (c_rm 7) D tc ad A E TC ([.ref (ad 25), .ref (ad 8), .int a2] : List Value) g g' r := by
  refine c_ofW (bytes := cX4_tells) (maxL := 3) (ret := (some .int)) (by decide) rfl (Nat.le_of_ble_eq_true rfl) ?_
  intro p e s m below meth c ls C hP hS hl
  unfold fX4_tells at hf
  obtain ⟨hx, hb, hr, hml, hts, hown, hlk, hK, hE⟩ := id C
  have hl : lv_has ls 3 [(0, .ref (ad 25)), (1, .ref (ad 8)), (2, .int a2)] := hl
  refine lv_aload_n hx hb dX4_tells_0 rfl (lv_at hl 1 rfl) ?_
  refine lv_bipush (v := (60 : Int32)) hx hb dX4_tells_1 (by decide) ?_
  obtain ⟨g2, hc1, hf⟩ := c_bd hf
  refine c_gov (va_runV (As := [.int (60 : Int32)]) (rest := []) ⟨hx, hb, hml, hown, hts⟩ (kX0_begin hD hc1) (cwV 1 hts ga_X4_tells_11 rfl rfl rfl (by decide +kernel) ⟨Nat.le_of_ble_eq_true rfl, Nat.le_of_ble_eq_true rfl⟩) (c_preV hK hP hE hS tC8 rfl) rfl rfl hl.1 rfl (lv_room (Nat.le_of_ble_eq_true rfl)) dX4_tells_3 ⟨Nat.zero_le _, Nat.zero_le _⟩) hS (fun H locs hP hS => ?_)
  refine lv_aload_n hx hb dX4_tells_6 rfl (lv_at hl 0 rfl) ?_
  refine lv_aload_n hx hb dX4_tells_7 rfl (lv_at hl 1 rfl) ?_
  refine lv_iload_n hx hb dX4_tells_8 rfl (lv_at hl 2 rfl) ?_
  refine lv_aload_n hx hb dX4_tells_9 rfl (lv_at hl 1 rfl) ?_
  refine c_get hx hb hts i_X4_tells_X0 hown hK hP 8 tC8 rfl 0 (by decide) (hts _ (List.mem_of_getElem? (i := 97) rfl)) (fun _ h9 => h9) rfl (v := .int (g2.1 8 0)) rfl dX4_tells_10 ?_
  refine lv_isub hx hb dX4_tells_13 ?_
  obtain ⟨g3, r5, hc4, hf⟩ := c_b2E hf
  refine c_goi (c_runSO (x := ⟨"NamingElders$Twin", "tells", "(LNamingElders$Acts;I)I"⟩) (hK.1 4 _ rfl).2 (As := [.ref (ad 8), .int (a2 - (g2.1 8 0))]) (rest := []) ⟨hx, hb, hml, hown, hts⟩ (kX2_tells hD hc4) (c_cwSO 2 hts ga_X4_tells_21 rfl rfl rfl rfl (by decide +kernel) ⟨Nat.le_of_ble_eq_true rfl, Nat.le_of_ble_eq_true rfl⟩) (c_preV hK hP hE hS tC25 rfl) rfl rfl hl.1 rfl (lv_room (Nat.le_of_ble_eq_true rfl)) dX4_tells_14 ⟨Nat.zero_le _, Nat.zero_le _⟩) hS (fun H locs hP hS => ?_)
  exact c_iret hx hb hr hlk hP hS rfl (c_inj hf) dX4_tells_17
def v_tells (g : c_G) (u : Nat) (x : Int32) : Option (c_G × Int32) :=
  if u = 20 then fX2_tells g 20 x else if u = 21 then fX2_tells g 21 x else if u = 22 then fX2_tells g 22 x else if u = 23 then fX6_tells g 23 x else if u = 24 then fX2_tells g 24 x else if u = 25 then fX4_tells g  x else if u = 26 then fX6_tells g 26 x else none
theorem i_X11_act_X0 : ∀ w ∈ u_ws RX0 TX0 4, w ∈ wsA_X11_act := c_inP [131, 132, 133, 134] (by decide +kernel)
theorem i_X11_act_X7 : ∀ w ∈ u_ws RX7 TX7 17, w ∈ wsA_X11_act := c_inP [135, 136, 137, 138, 139, 140, 141, 142, 143, 144, 145, 146, 147, 148, 149, 150, 151] (by decide +kernel)
theorem i_X11_act_X11 : ∀ w ∈ u_ws RX11 TX11 19, w ∈ wsA_X11_act := c_inP [112, 113, 114, 115, 116, 117, 118, 119, 120, 121, 122, 123, 124, 125, 126, 127, 128, 129, 130] (by decide +kernel)
theorem dX11_act_0 : decode cX11_act 0 = .ok (.aload_n 0, 1) := by decide +kernel
theorem dX11_act_1 : decode cX11_act 1 = .ok (.getfield 40, 3) := by decide +kernel
theorem dX11_act_4 : decode cX11_act 4 = .ok (.iconst 0, 1) := by decide +kernel
theorem dX11_act_5 : decode cX11_act 5 = .ok (.putfield 285, 3) := by decide +kernel
theorem dX11_act_8 : decode cX11_act 8 = .ok (.aload_n 0, 1) := by decide +kernel
theorem dX11_act_9 : decode cX11_act 9 = .ok (.iload_n 1, 1) := by decide +kernel
theorem dX11_act_10 : decode cX11_act 10 = .ok (.invokevirtual 117, 3) := by decide +kernel
theorem dX11_act_13 : decode cX11_act 13 = .ok (.ifCond .ne 5, 3) := by decide +kernel
theorem dX11_act_16 : decode cX11_act 16 = .ok (.iconst 0, 1) := by decide +kernel
theorem dX11_act_17 : decode cX11_act 17 = .ok (.ireturn, 1) := by decide +kernel
theorem dX11_act_18 : decode cX11_act 18 = .ok (.aload_n 0, 1) := by decide +kernel
theorem dX11_act_19 : decode cX11_act 19 = .ok (.getfield 40, 3) := by decide +kernel
theorem dX11_act_22 : decode cX11_act 22 = .ok (.iload_n 1, 1) := by decide +kernel
theorem dX11_act_23 : decode cX11_act 23 = .ok (.putfield 288, 3) := by decide +kernel
theorem dX11_act_26 : decode cX11_act 26 = .ok (.aload_n 0, 1) := by decide +kernel
theorem dX11_act_27 : decode cX11_act 27 = .ok (.getfield 40, 3) := by decide +kernel
theorem dX11_act_30 : decode cX11_act 30 = .ok (.aload_n 0, 1) := by decide +kernel
theorem dX11_act_31 : decode cX11_act 31 = .ok (.getfield 86, 3) := by decide +kernel
theorem dX11_act_34 : decode cX11_act 34 = .ok (.getfield 123, 3) := by decide +kernel
theorem dX11_act_37 : decode cX11_act 37 = .ok (.iload_n 1, 1) := by decide +kernel
theorem dX11_act_38 : decode cX11_act 38 = .ok (.iaload, 1) := by decide +kernel
theorem dX11_act_39 : decode cX11_act 39 = .ok (.putfield 291, 3) := by decide +kernel
theorem dX11_act_42 : decode cX11_act 42 = .ok (.aload_n 0, 1) := by decide +kernel
theorem dX11_act_43 : decode cX11_act 43 = .ok (.getfield 76, 3) := by decide +kernel
theorem dX11_act_46 : decode cX11_act 46 = .ok (.aload_n 0, 1) := by decide +kernel
theorem dX11_act_47 : decode cX11_act 47 = .ok (.getfield 86, 3) := by decide +kernel
theorem dX11_act_50 : decode cX11_act 50 = .ok (.getfield 120, 3) := by decide +kernel
theorem dX11_act_53 : decode cX11_act 53 = .ok (.iload_n 1, 1) := by decide +kernel
theorem dX11_act_54 : decode cX11_act 54 = .ok (.iaload, 1) := by decide +kernel
theorem dX11_act_55 : decode cX11_act 55 = .ok (.aaload, 1) := by decide +kernel
theorem dX11_act_56 : decode cX11_act 56 = .ok (.astore 4, 2) := by decide +kernel
theorem dX11_act_58 : decode cX11_act 58 = .ok (.iload_n 2, 1) := by decide +kernel
theorem dX11_act_59 : decode cX11_act 59 = .ok (.tableswitch 58 0 2 #[25, 36, 47], 25) := by decide +kernel
theorem dX11_act_84 : decode cX11_act 84 = .ok (.aload 4, 2) := by decide +kernel
theorem dX11_act_86 : decode cX11_act 86 = .ok (.aload_n 0, 1) := by decide +kernel
theorem dX11_act_87 : decode cX11_act 87 = .ok (.getfield 40, 3) := by decide +kernel
theorem dX11_act_90 : decode cX11_act 90 = .ok (.iload_n 3, 1) := by decide +kernel
theorem dX11_act_91 : decode cX11_act 91 = .ok (.invokevirtual 293, 3) := by decide +kernel
theorem dX11_act_94 : decode cX11_act 94 = .ok (.ireturn, 1) := by decide +kernel
theorem dX11_act_95 : decode cX11_act 95 = .ok (.aload 4, 2) := by decide +kernel
theorem dX11_act_97 : decode cX11_act 97 = .ok (.aload_n 0, 1) := by decide +kernel
theorem dX11_act_98 : decode cX11_act 98 = .ok (.getfield 40, 3) := by decide +kernel
theorem dX11_act_101 : decode cX11_act 101 = .ok (.iload_n 3, 1) := by decide +kernel
theorem dX11_act_102 : decode cX11_act 102 = .ok (.invokevirtual 297, 3) := by decide +kernel
theorem dX11_act_105 : decode cX11_act 105 = .ok (.ireturn, 1) := by decide +kernel
theorem dX11_act_106 : decode cX11_act 106 = .ok (.aload 4, 2) := by decide +kernel
theorem dX11_act_108 : decode cX11_act 108 = .ok (.aload_n 0, 1) := by decide +kernel
theorem dX11_act_109 : decode cX11_act 109 = .ok (.getfield 40, 3) := by decide +kernel
theorem dX11_act_112 : decode cX11_act 112 = .ok (.iload_n 3, 1) := by decide +kernel
theorem dX11_act_113 : decode cX11_act 113 = .ok (.invokevirtual 300, 3) := by decide +kernel
theorem dX11_act_116 : decode cX11_act 116 = .ok (.ireturn, 1) := by decide +kernel
theorem dX11_act_117 : decode cX11_act 117 = .ok (.iconst 0, 1) := by decide +kernel
theorem dX11_act_118 : decode cX11_act 118 = .ok (.ireturn, 1) := by decide +kernel
theorem ga_X11_act_117 {cd : Cond} : GoodIn (cd :: wsACT) (wsV RX11 117 RX11 yX11_isChild wsX11_isChild) := c_gAct _ (by decide +kernel)
theorem ga_X11_act_293_2 {cd : Cond} : GoodIn (cd :: wsACT) (wsV RX11 293 RX2 yX2_looks wsA_X2_looks) := c_gAct2 gACT [.methodLink RX11 293 yX2_looks, .instanceMethod yX2_looks, .selects RX2 yX2_looks yX2_looks, .initialized RX2] (by decide +kernel)
theorem ga_X11_act_293_1 {cd : Cond} : GoodIn (cd :: wsACT) (va_wsU RX11 293 RX1 "NamingElders$Child" ⟨"NamingElders$Child", "looks", "(LNamingElders$Acts;I)I"⟩ yX2_looks wsA_X2_looks) := c_gAct2 gACT [.methodLink RX11 293 ⟨"NamingElders$Child", "looks", "(LNamingElders$Acts;I)I"⟩, .sameMethod (⟨"NamingElders$Child", "looks", "(LNamingElders$Acts;I)I"⟩ : MethodName).cls "NamingElders$Child" (⟨"NamingElders$Child", "looks", "(LNamingElders$Acts;I)I"⟩ : MethodName).name (⟨"NamingElders$Child", "looks", "(LNamingElders$Acts;I)I"⟩ : MethodName).desc, .selects RX1 ⟨"NamingElders$Child", "looks", "(LNamingElders$Acts;I)I"⟩ yX2_looks, .instanceMethod yX2_looks, .initialized yX2_looks.cls] (by decide +kernel)
theorem ga_X11_act_293_9 {cd : Cond} : GoodIn (cd :: wsACT) (va_wsO RX11 293 RX9 "NamingElders$Child" ⟨"NamingElders$Child", "looks", "(LNamingElders$Acts;I)I"⟩ yX9_looks wsA_X9_looks) := c_gAct2 gACT [.methodLink RX11 293 ⟨"NamingElders$Child", "looks", "(LNamingElders$Acts;I)I"⟩, .sameMethod (⟨"NamingElders$Child", "looks", "(LNamingElders$Acts;I)I"⟩ : MethodName).cls "NamingElders$Child" (⟨"NamingElders$Child", "looks", "(LNamingElders$Acts;I)I"⟩ : MethodName).name (⟨"NamingElders$Child", "looks", "(LNamingElders$Acts;I)I"⟩ : MethodName).desc, .instanceMethod ⟨"NamingElders$Child", (⟨"NamingElders$Child", "looks", "(LNamingElders$Acts;I)I"⟩ : MethodName).name, (⟨"NamingElders$Child", "looks", "(LNamingElders$Acts;I)I"⟩ : MethodName).desc⟩, .selects RX9 ⟨"NamingElders$Child", "looks", "(LNamingElders$Acts;I)I"⟩ yX9_looks, .instanceMethod yX9_looks, .initialized yX9_looks.cls] (by decide +kernel)
theorem ga_X11_act_293_6 {cd : Cond} : GoodIn (cd :: wsACT) (va_wsU RX11 293 RX6 "NamingElders$Child" ⟨"NamingElders$Child", "looks", "(LNamingElders$Acts;I)I"⟩ yX2_looks wsA_X2_looks) := c_gAct2 gACT [.methodLink RX11 293 ⟨"NamingElders$Child", "looks", "(LNamingElders$Acts;I)I"⟩, .sameMethod (⟨"NamingElders$Child", "looks", "(LNamingElders$Acts;I)I"⟩ : MethodName).cls "NamingElders$Child" (⟨"NamingElders$Child", "looks", "(LNamingElders$Acts;I)I"⟩ : MethodName).name (⟨"NamingElders$Child", "looks", "(LNamingElders$Acts;I)I"⟩ : MethodName).desc, .selects RX6 ⟨"NamingElders$Child", "looks", "(LNamingElders$Acts;I)I"⟩ yX2_looks, .instanceMethod yX2_looks, .initialized yX2_looks.cls] (by decide +kernel)
theorem ga_X11_act_293_3 {cd : Cond} : GoodIn (cd :: wsACT) (va_wsO RX11 293 RX3 "NamingElders$Child" ⟨"NamingElders$Child", "looks", "(LNamingElders$Acts;I)I"⟩ yX3_looks wsA_X3_looks) := c_gAct2 gACT [.methodLink RX11 293 ⟨"NamingElders$Child", "looks", "(LNamingElders$Acts;I)I"⟩, .sameMethod (⟨"NamingElders$Child", "looks", "(LNamingElders$Acts;I)I"⟩ : MethodName).cls "NamingElders$Child" (⟨"NamingElders$Child", "looks", "(LNamingElders$Acts;I)I"⟩ : MethodName).name (⟨"NamingElders$Child", "looks", "(LNamingElders$Acts;I)I"⟩ : MethodName).desc, .instanceMethod ⟨"NamingElders$Child", (⟨"NamingElders$Child", "looks", "(LNamingElders$Acts;I)I"⟩ : MethodName).name, (⟨"NamingElders$Child", "looks", "(LNamingElders$Acts;I)I"⟩ : MethodName).desc⟩, .selects RX3 ⟨"NamingElders$Child", "looks", "(LNamingElders$Acts;I)I"⟩ yX3_looks, .instanceMethod yX3_looks, .initialized yX3_looks.cls] (by decide +kernel)
theorem ga_X11_act_293_4 {cd : Cond} : GoodIn (cd :: wsACT) (va_wsO RX11 293 RX4 "NamingElders$Child" ⟨"NamingElders$Child", "looks", "(LNamingElders$Acts;I)I"⟩ yX9_looks wsA_X9_looks) := c_gAct2 gACT [.methodLink RX11 293 ⟨"NamingElders$Child", "looks", "(LNamingElders$Acts;I)I"⟩, .sameMethod (⟨"NamingElders$Child", "looks", "(LNamingElders$Acts;I)I"⟩ : MethodName).cls "NamingElders$Child" (⟨"NamingElders$Child", "looks", "(LNamingElders$Acts;I)I"⟩ : MethodName).name (⟨"NamingElders$Child", "looks", "(LNamingElders$Acts;I)I"⟩ : MethodName).desc, .instanceMethod ⟨"NamingElders$Child", (⟨"NamingElders$Child", "looks", "(LNamingElders$Acts;I)I"⟩ : MethodName).name, (⟨"NamingElders$Child", "looks", "(LNamingElders$Acts;I)I"⟩ : MethodName).desc⟩, .selects RX4 ⟨"NamingElders$Child", "looks", "(LNamingElders$Acts;I)I"⟩ yX9_looks, .instanceMethod yX9_looks, .initialized yX9_looks.cls] (by decide +kernel)
theorem ga_X11_act_293_8 {cd : Cond} : GoodIn (cd :: wsACT) (va_wsO RX11 293 RX8 "NamingElders$Child" ⟨"NamingElders$Child", "looks", "(LNamingElders$Acts;I)I"⟩ yX8_looks wsA_X8_looks) := c_gAct2 gACT [.methodLink RX11 293 ⟨"NamingElders$Child", "looks", "(LNamingElders$Acts;I)I"⟩, .sameMethod (⟨"NamingElders$Child", "looks", "(LNamingElders$Acts;I)I"⟩ : MethodName).cls "NamingElders$Child" (⟨"NamingElders$Child", "looks", "(LNamingElders$Acts;I)I"⟩ : MethodName).name (⟨"NamingElders$Child", "looks", "(LNamingElders$Acts;I)I"⟩ : MethodName).desc, .instanceMethod ⟨"NamingElders$Child", (⟨"NamingElders$Child", "looks", "(LNamingElders$Acts;I)I"⟩ : MethodName).name, (⟨"NamingElders$Child", "looks", "(LNamingElders$Acts;I)I"⟩ : MethodName).desc⟩, .selects RX8 ⟨"NamingElders$Child", "looks", "(LNamingElders$Acts;I)I"⟩ yX8_looks, .instanceMethod yX8_looks, .initialized yX8_looks.cls] (by decide +kernel)
theorem ga_X11_act_297_2 {cd : Cond} : GoodIn (cd :: wsACT) (wsV RX11 297 RX2 yX2_points wsA_X2_points) := c_gAct2 gACT [.methodLink RX11 297 yX2_points, .instanceMethod yX2_points, .selects RX2 yX2_points yX2_points, .initialized RX2] (by decide +kernel)
theorem ga_X11_act_297_1 {cd : Cond} : GoodIn (cd :: wsACT) (va_wsO RX11 297 RX1 "NamingElders$Child" ⟨"NamingElders$Child", "points", "(LNamingElders$Acts;I)I"⟩ yX1_points wsA_X1_points) := c_gAct2 gACT [.methodLink RX11 297 ⟨"NamingElders$Child", "points", "(LNamingElders$Acts;I)I"⟩, .sameMethod (⟨"NamingElders$Child", "points", "(LNamingElders$Acts;I)I"⟩ : MethodName).cls "NamingElders$Child" (⟨"NamingElders$Child", "points", "(LNamingElders$Acts;I)I"⟩ : MethodName).name (⟨"NamingElders$Child", "points", "(LNamingElders$Acts;I)I"⟩ : MethodName).desc, .instanceMethod ⟨"NamingElders$Child", (⟨"NamingElders$Child", "points", "(LNamingElders$Acts;I)I"⟩ : MethodName).name, (⟨"NamingElders$Child", "points", "(LNamingElders$Acts;I)I"⟩ : MethodName).desc⟩, .selects RX1 ⟨"NamingElders$Child", "points", "(LNamingElders$Acts;I)I"⟩ yX1_points, .instanceMethod yX1_points, .initialized yX1_points.cls] (by decide +kernel)
theorem ga_X11_act_297_9 {cd : Cond} : GoodIn (cd :: wsACT) (va_wsU RX11 297 RX9 "NamingElders$Child" ⟨"NamingElders$Child", "points", "(LNamingElders$Acts;I)I"⟩ yX2_points wsA_X2_points) := c_gAct2 gACT [.methodLink RX11 297 ⟨"NamingElders$Child", "points", "(LNamingElders$Acts;I)I"⟩, .sameMethod (⟨"NamingElders$Child", "points", "(LNamingElders$Acts;I)I"⟩ : MethodName).cls "NamingElders$Child" (⟨"NamingElders$Child", "points", "(LNamingElders$Acts;I)I"⟩ : MethodName).name (⟨"NamingElders$Child", "points", "(LNamingElders$Acts;I)I"⟩ : MethodName).desc, .selects RX9 ⟨"NamingElders$Child", "points", "(LNamingElders$Acts;I)I"⟩ yX2_points, .instanceMethod yX2_points, .initialized yX2_points.cls] (by decide +kernel)
theorem ga_X11_act_297_6 {cd : Cond} : GoodIn (cd :: wsACT) (va_wsU RX11 297 RX6 "NamingElders$Child" ⟨"NamingElders$Child", "points", "(LNamingElders$Acts;I)I"⟩ yX2_points wsA_X2_points) := c_gAct2 gACT [.methodLink RX11 297 ⟨"NamingElders$Child", "points", "(LNamingElders$Acts;I)I"⟩, .sameMethod (⟨"NamingElders$Child", "points", "(LNamingElders$Acts;I)I"⟩ : MethodName).cls "NamingElders$Child" (⟨"NamingElders$Child", "points", "(LNamingElders$Acts;I)I"⟩ : MethodName).name (⟨"NamingElders$Child", "points", "(LNamingElders$Acts;I)I"⟩ : MethodName).desc, .selects RX6 ⟨"NamingElders$Child", "points", "(LNamingElders$Acts;I)I"⟩ yX2_points, .instanceMethod yX2_points, .initialized yX2_points.cls] (by decide +kernel)
theorem ga_X11_act_297_3 {cd : Cond} : GoodIn (cd :: wsACT) (va_wsO RX11 297 RX3 "NamingElders$Child" ⟨"NamingElders$Child", "points", "(LNamingElders$Acts;I)I"⟩ yX3_points wsA_X3_points) := c_gAct2 gACT [.methodLink RX11 297 ⟨"NamingElders$Child", "points", "(LNamingElders$Acts;I)I"⟩, .sameMethod (⟨"NamingElders$Child", "points", "(LNamingElders$Acts;I)I"⟩ : MethodName).cls "NamingElders$Child" (⟨"NamingElders$Child", "points", "(LNamingElders$Acts;I)I"⟩ : MethodName).name (⟨"NamingElders$Child", "points", "(LNamingElders$Acts;I)I"⟩ : MethodName).desc, .instanceMethod ⟨"NamingElders$Child", (⟨"NamingElders$Child", "points", "(LNamingElders$Acts;I)I"⟩ : MethodName).name, (⟨"NamingElders$Child", "points", "(LNamingElders$Acts;I)I"⟩ : MethodName).desc⟩, .selects RX3 ⟨"NamingElders$Child", "points", "(LNamingElders$Acts;I)I"⟩ yX3_points, .instanceMethod yX3_points, .initialized yX3_points.cls] (by decide +kernel)
theorem ga_X11_act_297_4 {cd : Cond} : GoodIn (cd :: wsACT) (va_wsU RX11 297 RX4 "NamingElders$Child" ⟨"NamingElders$Child", "points", "(LNamingElders$Acts;I)I"⟩ yX2_points wsA_X2_points) := c_gAct2 gACT [.methodLink RX11 297 ⟨"NamingElders$Child", "points", "(LNamingElders$Acts;I)I"⟩, .sameMethod (⟨"NamingElders$Child", "points", "(LNamingElders$Acts;I)I"⟩ : MethodName).cls "NamingElders$Child" (⟨"NamingElders$Child", "points", "(LNamingElders$Acts;I)I"⟩ : MethodName).name (⟨"NamingElders$Child", "points", "(LNamingElders$Acts;I)I"⟩ : MethodName).desc, .selects RX4 ⟨"NamingElders$Child", "points", "(LNamingElders$Acts;I)I"⟩ yX2_points, .instanceMethod yX2_points, .initialized yX2_points.cls] (by decide +kernel)
theorem ga_X11_act_297_8 {cd : Cond} : GoodIn (cd :: wsACT) (va_wsO RX11 297 RX8 "NamingElders$Child" ⟨"NamingElders$Child", "points", "(LNamingElders$Acts;I)I"⟩ yX8_points wsA_X8_points) := c_gAct2 gACT [.methodLink RX11 297 ⟨"NamingElders$Child", "points", "(LNamingElders$Acts;I)I"⟩, .sameMethod (⟨"NamingElders$Child", "points", "(LNamingElders$Acts;I)I"⟩ : MethodName).cls "NamingElders$Child" (⟨"NamingElders$Child", "points", "(LNamingElders$Acts;I)I"⟩ : MethodName).name (⟨"NamingElders$Child", "points", "(LNamingElders$Acts;I)I"⟩ : MethodName).desc, .instanceMethod ⟨"NamingElders$Child", (⟨"NamingElders$Child", "points", "(LNamingElders$Acts;I)I"⟩ : MethodName).name, (⟨"NamingElders$Child", "points", "(LNamingElders$Acts;I)I"⟩ : MethodName).desc⟩, .selects RX8 ⟨"NamingElders$Child", "points", "(LNamingElders$Acts;I)I"⟩ yX8_points, .instanceMethod yX8_points, .initialized yX8_points.cls] (by decide +kernel)
theorem ga_X11_act_300_2 {cd : Cond} : GoodIn (cd :: wsACT) (wsV RX11 300 RX2 yX2_tells wsA_X2_tells) := c_gAct2 gACT [.methodLink RX11 300 yX2_tells, .instanceMethod yX2_tells, .selects RX2 yX2_tells yX2_tells, .initialized RX2] (by decide +kernel)
theorem ga_X11_act_300_1 {cd : Cond} : GoodIn (cd :: wsACT) (va_wsU RX11 300 RX1 "NamingElders$Child" ⟨"NamingElders$Child", "tells", "(LNamingElders$Acts;I)I"⟩ yX2_tells wsA_X2_tells) := c_gAct2 gACT [.methodLink RX11 300 ⟨"NamingElders$Child", "tells", "(LNamingElders$Acts;I)I"⟩, .sameMethod (⟨"NamingElders$Child", "tells", "(LNamingElders$Acts;I)I"⟩ : MethodName).cls "NamingElders$Child" (⟨"NamingElders$Child", "tells", "(LNamingElders$Acts;I)I"⟩ : MethodName).name (⟨"NamingElders$Child", "tells", "(LNamingElders$Acts;I)I"⟩ : MethodName).desc, .selects RX1 ⟨"NamingElders$Child", "tells", "(LNamingElders$Acts;I)I"⟩ yX2_tells, .instanceMethod yX2_tells, .initialized yX2_tells.cls] (by decide +kernel)
theorem ga_X11_act_300_9 {cd : Cond} : GoodIn (cd :: wsACT) (va_wsU RX11 300 RX9 "NamingElders$Child" ⟨"NamingElders$Child", "tells", "(LNamingElders$Acts;I)I"⟩ yX2_tells wsA_X2_tells) := c_gAct2 gACT [.methodLink RX11 300 ⟨"NamingElders$Child", "tells", "(LNamingElders$Acts;I)I"⟩, .sameMethod (⟨"NamingElders$Child", "tells", "(LNamingElders$Acts;I)I"⟩ : MethodName).cls "NamingElders$Child" (⟨"NamingElders$Child", "tells", "(LNamingElders$Acts;I)I"⟩ : MethodName).name (⟨"NamingElders$Child", "tells", "(LNamingElders$Acts;I)I"⟩ : MethodName).desc, .selects RX9 ⟨"NamingElders$Child", "tells", "(LNamingElders$Acts;I)I"⟩ yX2_tells, .instanceMethod yX2_tells, .initialized yX2_tells.cls] (by decide +kernel)
theorem ga_X11_act_300_6 {cd : Cond} : GoodIn (cd :: wsACT) (va_wsO RX11 300 RX6 "NamingElders$Child" ⟨"NamingElders$Child", "tells", "(LNamingElders$Acts;I)I"⟩ yX6_tells wsA_X6_tells) := c_gAct2 gACT [.methodLink RX11 300 ⟨"NamingElders$Child", "tells", "(LNamingElders$Acts;I)I"⟩, .sameMethod (⟨"NamingElders$Child", "tells", "(LNamingElders$Acts;I)I"⟩ : MethodName).cls "NamingElders$Child" (⟨"NamingElders$Child", "tells", "(LNamingElders$Acts;I)I"⟩ : MethodName).name (⟨"NamingElders$Child", "tells", "(LNamingElders$Acts;I)I"⟩ : MethodName).desc, .instanceMethod ⟨"NamingElders$Child", (⟨"NamingElders$Child", "tells", "(LNamingElders$Acts;I)I"⟩ : MethodName).name, (⟨"NamingElders$Child", "tells", "(LNamingElders$Acts;I)I"⟩ : MethodName).desc⟩, .selects RX6 ⟨"NamingElders$Child", "tells", "(LNamingElders$Acts;I)I"⟩ yX6_tells, .instanceMethod yX6_tells, .initialized yX6_tells.cls] (by decide +kernel)
theorem ga_X11_act_300_3 {cd : Cond} : GoodIn (cd :: wsACT) (va_wsU RX11 300 RX3 "NamingElders$Child" ⟨"NamingElders$Child", "tells", "(LNamingElders$Acts;I)I"⟩ yX2_tells wsA_X2_tells) := c_gAct2 gACT [.methodLink RX11 300 ⟨"NamingElders$Child", "tells", "(LNamingElders$Acts;I)I"⟩, .sameMethod (⟨"NamingElders$Child", "tells", "(LNamingElders$Acts;I)I"⟩ : MethodName).cls "NamingElders$Child" (⟨"NamingElders$Child", "tells", "(LNamingElders$Acts;I)I"⟩ : MethodName).name (⟨"NamingElders$Child", "tells", "(LNamingElders$Acts;I)I"⟩ : MethodName).desc, .selects RX3 ⟨"NamingElders$Child", "tells", "(LNamingElders$Acts;I)I"⟩ yX2_tells, .instanceMethod yX2_tells, .initialized yX2_tells.cls] (by decide +kernel)
theorem ga_X11_act_300_4 {cd : Cond} : GoodIn (cd :: wsACT) (va_wsO RX11 300 RX4 "NamingElders$Child" ⟨"NamingElders$Child", "tells", "(LNamingElders$Acts;I)I"⟩ yX4_tells wsA_X4_tells) := c_gAct2 gACT [.methodLink RX11 300 ⟨"NamingElders$Child", "tells", "(LNamingElders$Acts;I)I"⟩, .sameMethod (⟨"NamingElders$Child", "tells", "(LNamingElders$Acts;I)I"⟩ : MethodName).cls "NamingElders$Child" (⟨"NamingElders$Child", "tells", "(LNamingElders$Acts;I)I"⟩ : MethodName).name (⟨"NamingElders$Child", "tells", "(LNamingElders$Acts;I)I"⟩ : MethodName).desc, .instanceMethod ⟨"NamingElders$Child", (⟨"NamingElders$Child", "tells", "(LNamingElders$Acts;I)I"⟩ : MethodName).name, (⟨"NamingElders$Child", "tells", "(LNamingElders$Acts;I)I"⟩ : MethodName).desc⟩, .selects RX4 ⟨"NamingElders$Child", "tells", "(LNamingElders$Acts;I)I"⟩ yX4_tells, .instanceMethod yX4_tells, .initialized yX4_tells.cls] (by decide +kernel)
theorem ga_X11_act_300_8 {cd : Cond} : GoodIn (cd :: wsACT) (va_wsO RX11 300 RX8 "NamingElders$Child" ⟨"NamingElders$Child", "tells", "(LNamingElders$Acts;I)I"⟩ yX6_tells wsA_X6_tells) := c_gAct2 gACT [.methodLink RX11 300 ⟨"NamingElders$Child", "tells", "(LNamingElders$Acts;I)I"⟩, .sameMethod (⟨"NamingElders$Child", "tells", "(LNamingElders$Acts;I)I"⟩ : MethodName).cls "NamingElders$Child" (⟨"NamingElders$Child", "tells", "(LNamingElders$Acts;I)I"⟩ : MethodName).name (⟨"NamingElders$Child", "tells", "(LNamingElders$Acts;I)I"⟩ : MethodName).desc, .instanceMethod ⟨"NamingElders$Child", (⟨"NamingElders$Child", "tells", "(LNamingElders$Acts;I)I"⟩ : MethodName).name, (⟨"NamingElders$Child", "tells", "(LNamingElders$Acts;I)I"⟩ : MethodName).desc⟩, .selects RX8 ⟨"NamingElders$Child", "tells", "(LNamingElders$Acts;I)I"⟩ yX6_tells, .instanceMethod yX6_tells, .initialized yX6_tells.cls] (by decide +kernel)
def fX11_act (g : c_G) (a1 : Int32) (a2 : Int32) (a3 : Int32) : Option (c_G × Int32) :=
  c_let (c_si g 8 2 (0 : Int32)) fun g1 => (fX11_isChild g1 a1).bind fun r2 => if r2 = 0 then (some (g1, (0 : Int32))) else (c_let (c_si g1 8 0 a1) fun g5 => if c_in (a1) (6) = true then c_let (c_si g5 8 1 (g5.1 61 (a1).toNatClampNeg)) fun g7 => if c_in ((g7.1 60 (a1).toNatClampNeg)) (7) = true then if a2 = (0 : Int32) then (c_b2 (v_looks g7 (20 + ((g7.1 60 (a1).toNatClampNeg)).toNatClampNeg) a3) fun g10 r12 => some (g10, r12)) else if a2 = (1 : Int32) then (c_b2 (v_points g7 (20 + ((g7.1 60 (a1).toNatClampNeg)).toNatClampNeg) a3) fun g22 r24 => some (g22, r24)) else if a2 = (2 : Int32) then (c_b2 (v_tells g7 (20 + ((g7.1 60 (a1).toNatClampNeg)).toNatClampNeg) a3) fun g34 r36 => some (g34, r36)) else (some (g7, (0 : Int32))) else none else none)
set_option maxRecDepth 100000 in
set_option maxHeartbeats 4000000 in
theorem kX11_act {l : Launch} {D : va_G} {tc : Nat → ClassId} {ad : Nat → Nat} {A : Nat → Prop} {E : (Nat → Nat) × (Nat → Nat) × Nat} (hD : c_D A ad TC) {a1 : Int32} {a2 : Int32} {a3 : Int32} {g g' : c_G} {r : Int32} (hf : fX11_act g a1 a2 a3 = some (g', r)) : c_Mi l yX11_act wsA_X11_act (c_rm 8) D tc ad A E TC ([.ref (ad 0), .int a1, .int a2, .int a3] : List Value) g g' r := by
  refine c_ofW (bytes := cX11_act) (maxL := 5) (ret := (some .int)) (by decide) rfl (Nat.le_of_ble_eq_true rfl) ?_
  intro p e s m below meth c ls C hP hS hl
  unfold fX11_act at hf
  obtain ⟨hx, hb, hr, hml, hts, hown, hlk, hK, hE⟩ := id C
  have hl : lv_has ls 5 [(0, .ref (ad 0)), (1, .int a1), (2, .int a2), (3, .int a3)] := hl
  refine lv_aload_n hx hb dX11_act_0 rfl (lv_at hl 0 rfl) ?_
  refine c_get hx hb hts i_X11_act_X11 hown hK hP 0 tC0 rfl 15 (by decide) (hts _ (List.mem_of_getElem? (i := 2) rfl)) (fun _ h9 => h9) rfl (v := .ref (ad 8)) rfl dX11_act_1 ?_
  refine lv_iconst (v := (0 : Int32)) hx hb dX11_act_4 (by decide) ?_
  obtain ⟨g1, eg1, hf⟩ := c_letE hf
  refine c_put hx hb hts i_X11_act_X0 tyX0 tyX0_ok nmX0 hown hK hP hD hS 8 tC8 rfl 2 (by decide) (hts _ (List.mem_of_getElem? (i := 3) rfl)) (fun _ h9 => h9) rfl (ty := .int) (by decide +kernel) rfl rfl rfl eg1 dX11_act_5 (fun H locs hP hS => ?_)
  refine lv_aload_n hx hb dX11_act_8 rfl (lv_at hl 0 rfl) ?_
  refine lv_iload_n hx hb dX11_act_9 rfl (lv_at hl 1 rfl) ?_
  obtain ⟨r2, hc3, hf⟩ := c_bd hf
  refine c_goi (va_runV (As := [.int a1]) (rest := []) ⟨hx, hb, hml, hown, hts⟩ (kX11_isChild hD hc3) (cwV 1 hts ga_X11_act_117 rfl rfl rfl (by decide +kernel) ⟨Nat.le_of_ble_eq_true rfl, Nat.le_of_ble_eq_true rfl⟩) (c_preV hK hP hE hS tC0 rfl) rfl rfl hl.1 rfl (lv_room (Nat.le_of_ble_eq_true rfl)) dX11_act_10 ⟨Nat.zero_le _, Nat.zero_le _⟩) hS (fun H locs hP hS => ?_)
  refine lv_if_ne (tgt := 18) hx hb dX11_act_13 (by decide) (fun c4 => ?_) (fun c4 => ?_)
  · have hf := c_ie c4 hf
    refine lv_aload_n hx hb dX11_act_18 rfl (lv_at hl 0 rfl) ?_
    refine c_get hx hb hts i_X11_act_X11 hown hK hP 0 tC0 rfl 15 (by decide) (hts _ (List.mem_of_getElem? (i := 2) rfl)) (fun _ h9 => h9) rfl (v := .ref (ad 8)) rfl dX11_act_19 ?_
    refine lv_iload_n hx hb dX11_act_22 rfl (lv_at hl 1 rfl) ?_
    obtain ⟨g5, eg5, hf⟩ := c_letE hf
    refine c_put hx hb hts i_X11_act_X0 tyX0 tyX0_ok nmX0 hown hK hP hD hS 8 tC8 rfl 0 (by decide) (hts _ (List.mem_of_getElem? (i := 4) rfl)) (fun _ h9 => h9) rfl (ty := .int) (by decide +kernel) rfl rfl rfl eg5 dX11_act_23 (fun H locs hP hS => ?_)
    refine lv_aload_n hx hb dX11_act_26 rfl (lv_at hl 0 rfl) ?_
    refine c_get hx hb hts i_X11_act_X11 hown hK hP 0 tC0 rfl 15 (by decide) (hts _ (List.mem_of_getElem? (i := 2) rfl)) (fun _ h9 => h9) rfl (v := .ref (ad 8)) rfl dX11_act_27 ?_
    refine lv_aload_n hx hb dX11_act_30 rfl (lv_at hl 0 rfl) ?_
    refine c_get hx hb hts i_X11_act_X11 hown hK hP 0 tC0 rfl 5 (by decide) (hts _ (List.mem_of_getElem? (i := 5) rfl)) (fun _ h9 => h9) rfl (v := .ref (ad 55)) rfl dX11_act_31 ?_
    refine c_get hx hb hts i_X11_act_X7 hown hK hP 55 tC55 rfl 8 (by decide) (hts _ (List.mem_of_getElem? (i := 6) rfl)) (fun _ h9 => h9) rfl (v := .ref (ad 61)) rfl dX11_act_34 ?_
    refine lv_iload_n hx hb dX11_act_37 rfl (lv_at hl 1 rfl) ?_
    obtain ⟨hi6, hf⟩ := c_gd hf
    refine c_iald (j := (a1).toNatClampNeg) hx hb hK hP 61 tC61 rfl (c_inV hi6) dX11_act_38 ?_
    obtain ⟨g7, eg7, hf⟩ := c_letE hf
    refine c_put hx hb hts i_X11_act_X0 tyX0 tyX0_ok nmX0 hown hK hP hD hS 8 tC8 rfl 1 (by decide) (hts _ (List.mem_of_getElem? (i := 7) rfl)) (fun _ h9 => h9) rfl (ty := .int) (by decide +kernel) rfl rfl rfl eg7 dX11_act_39 (fun H locs hP hS => ?_)
    refine lv_aload_n hx hb dX11_act_42 rfl (lv_at hl 0 rfl) ?_
    refine c_get hx hb hts i_X11_act_X11 hown hK hP 0 tC0 rfl 0 (by decide) (hts _ (List.mem_of_getElem? (i := 8) rfl)) (fun _ h9 => h9) rfl (v := .ref (ad 19)) rfl dX11_act_43 ?_
    refine lv_aload_n hx hb dX11_act_46 rfl (lv_at hl 0 rfl) ?_
    refine c_get hx hb hts i_X11_act_X11 hown hK hP 0 tC0 rfl 5 (by decide) (hts _ (List.mem_of_getElem? (i := 5) rfl)) (fun _ h9 => h9) rfl (v := .ref (ad 55)) rfl dX11_act_47 ?_
    refine c_get hx hb hts i_X11_act_X7 hown hK hP 55 tC55 rfl 7 (by decide) (hts _ (List.mem_of_getElem? (i := 9) rfl)) (fun _ h9 => h9) rfl (v := .ref (ad 60)) rfl dX11_act_50 ?_
    refine lv_iload_n hx hb dX11_act_53 rfl (lv_at hl 1 rfl) ?_
    refine c_iald (j := (a1).toNatClampNeg) hx hb hK hP 60 tC60 rfl (c_inV hi6) dX11_act_54 ?_
    obtain ⟨hi8, hf⟩ := c_gd hf
    refine c_aald5 hx hb hK hP 19 tC19 (c_inV hi8) (y := (20 + ((g7.1 60 (a1).toNatClampNeg)).toNatClampNeg)) (c_kA (c_iN hi8)) dX11_act_55 ?_
    refine lv_astore (lv' := [(4, .ref (ad (20 + ((g7.1 60 (a1).toNatClampNeg)).toNatClampNeg))), (0, .ref (ad 0)), (1, .int a1), (2, .int a2), (3, .int a3)]) hx hb dX11_act_56 hl (by decide) rfl (fun ls hl => ?_)
    refine lv_iload_n hx hb dX11_act_58 rfl (lv_at hl 3 rfl) ?_
    by_cases c9 : a2 = (0 : Int32)
    · have hf := c_it c9 hf
      refine lv_tableIn (off := 25) (tgt := 84) hx hb dX11_act_59 (by rw [c9]; decide) (by rw [c9]; decide) (by rw [c9]; rfl) (by decide) ?_
      refine lv_aload hx hb dX11_act_84 (lv_at hl 0 rfl) ?_
      refine lv_aload_n hx hb dX11_act_86 rfl (lv_at hl 1 rfl) ?_
      refine c_get hx hb hts i_X11_act_X11 hown hK hP 0 tC0 rfl 15 (by decide) (hts _ (List.mem_of_getElem? (i := 2) rfl)) (fun _ h9 => h9) rfl (v := .ref (ad 8)) rfl dX11_act_87 ?_
      refine lv_iload_n hx hb dX11_act_90 rfl (lv_at hl 4 rfl) ?_
      obtain ⟨g10, r12, hc11, hf⟩ := c_b2E hf
      have hk13 : ∀ (H : Heap) (locs : List Loc), va_P D vwCl (c_ws tc ad TC g10) H → va_S A s.heap H locs → W p l e (c_rm 8) s m ([.ref (ad 0), .int a1, .int a2, .int a3] : List Value).toArray below meth c H locs 0 0 (MQ below (va_Qi (fun (x : Int32) (_ : Unit) => x = r) (fun _ t => va_P D vwCl (c_ws tc ad TC g') t.heap) A) ([.ref (ad 0), .int a1, .int a2, .int a3] : List Value).toArray s 0 0 A) (F0 m 94 ls [.int r12]) := by
        intro H locs hP hS
        exact c_iret hx hb hr hlk hP hS rfl (c_inj hf) dX11_act_94
      unfold v_looks at hc11
      by_cases q14 : (20 + ((g7.1 60 (a1).toNatClampNeg)).toNatClampNeg) = 20
      · have hc11x := c_it q14 hc11
        rw [q14]
        exact c_goi (va_runV (As := [.ref (ad 8), .int a3]) (rest := []) ⟨hx, hb, hml, hown, hts⟩ (kX2_looks hD hc11x) (cwV 2 hts ga_X11_act_293_2 rfl rfl rfl (by decide +kernel) ⟨Nat.le_of_ble_eq_true rfl, Nat.le_of_ble_eq_true rfl⟩) (c_preV hK hP hE hS tC20 rfl) rfl rfl hl.1 rfl (lv_room (Nat.le_of_ble_eq_true rfl)) dX11_act_91 ⟨Nat.zero_le _, Nat.zero_le _⟩) hS hk13
      have hc11 := c_ie q14 hc11
      by_cases q15 : (20 + ((g7.1 60 (a1).toNatClampNeg)).toNatClampNeg) = 21
      · have hc11x := c_it q15 hc11
        rw [q15]
        exact c_goi (va_runU (As := [.ref (ad 8), .int a3]) (rest := []) ⟨hx, hb, hml, hown, hts⟩ (kX2_looks hD hc11x) (va_cwU 2 hts ga_X11_act_293_1 rfl rfl rfl rfl (by decide +kernel) ⟨Nat.le_of_ble_eq_true rfl, Nat.le_of_ble_eq_true rfl⟩) (c_preV hK hP hE hS tC21 rfl) rfl rfl hl.1 rfl (lv_room (Nat.le_of_ble_eq_true rfl)) dX11_act_91 ⟨Nat.zero_le _, Nat.zero_le _⟩) hS hk13
      have hc11 := c_ie q15 hc11
      by_cases q16 : (20 + ((g7.1 60 (a1).toNatClampNeg)).toNatClampNeg) = 22
      · have hc11x := c_it q16 hc11
        rw [q16]
        exact c_goi (va_runU (As := [.ref (ad 8), .int a3]) (rest := []) ⟨hx, hb, hml, hown, hts⟩ (kX9_looks hD hc11x) (va_cwO 2 hts ga_X11_act_293_9 rfl rfl rfl (List.mem_of_getElem? (i := 21) rfl) (by decide +kernel) ⟨Nat.le_of_ble_eq_true rfl, Nat.le_of_ble_eq_true rfl⟩) (c_preV hK hP hE hS tC22 rfl) rfl rfl hl.1 rfl (lv_room (Nat.le_of_ble_eq_true rfl)) dX11_act_91 ⟨Nat.zero_le _, Nat.zero_le _⟩) hS hk13
      have hc11 := c_ie q16 hc11
      by_cases q17 : (20 + ((g7.1 60 (a1).toNatClampNeg)).toNatClampNeg) = 23
      · have hc11x := c_it q17 hc11
        rw [q17]
        exact c_goi (va_runU (As := [.ref (ad 8), .int a3]) (rest := []) ⟨hx, hb, hml, hown, hts⟩ (kX2_looks hD hc11x) (va_cwU 2 hts ga_X11_act_293_6 rfl rfl rfl rfl (by decide +kernel) ⟨Nat.le_of_ble_eq_true rfl, Nat.le_of_ble_eq_true rfl⟩) (c_preV hK hP hE hS tC23 rfl) rfl rfl hl.1 rfl (lv_room (Nat.le_of_ble_eq_true rfl)) dX11_act_91 ⟨Nat.zero_le _, Nat.zero_le _⟩) hS hk13
      have hc11 := c_ie q17 hc11
      by_cases q18 : (20 + ((g7.1 60 (a1).toNatClampNeg)).toNatClampNeg) = 24
      · have hc11x := c_it q18 hc11
        rw [q18]
        exact c_goi (va_runU (As := [.ref (ad 8), .int a3]) (rest := []) ⟨hx, hb, hml, hown, hts⟩ (kX3_looks hD hc11x) (va_cwO 2 hts ga_X11_act_293_3 rfl rfl rfl (List.mem_of_getElem? (i := 21) rfl) (by decide +kernel) ⟨Nat.le_of_ble_eq_true rfl, Nat.le_of_ble_eq_true rfl⟩) (c_preV hK hP hE hS tC24 rfl) rfl rfl hl.1 rfl (lv_room (Nat.le_of_ble_eq_true rfl)) dX11_act_91 ⟨Nat.zero_le _, Nat.zero_le _⟩) hS hk13
      have hc11 := c_ie q18 hc11
      by_cases q19 : (20 + ((g7.1 60 (a1).toNatClampNeg)).toNatClampNeg) = 25
      · have hc11x := c_it q19 hc11
        rw [q19]
        exact c_goi (va_runU (As := [.ref (ad 8), .int a3]) (rest := []) ⟨hx, hb, hml, hown, hts⟩ (kX9_looks hD hc11x) (va_cwO 2 hts ga_X11_act_293_4 rfl rfl rfl (List.mem_of_getElem? (i := 21) rfl) (by decide +kernel) ⟨Nat.le_of_ble_eq_true rfl, Nat.le_of_ble_eq_true rfl⟩) (c_preV hK hP hE hS tC25 rfl) rfl rfl hl.1 rfl (lv_room (Nat.le_of_ble_eq_true rfl)) dX11_act_91 ⟨Nat.zero_le _, Nat.zero_le _⟩) hS hk13
      have hc11 := c_ie q19 hc11
      by_cases q20 : (20 + ((g7.1 60 (a1).toNatClampNeg)).toNatClampNeg) = 26
      · have hc11x := c_it q20 hc11
        rw [q20]
        exact c_goi (va_runU (As := [.ref (ad 8), .int a3]) (rest := []) ⟨hx, hb, hml, hown, hts⟩ (kX8_looks hD hc11x) (va_cwO 2 hts ga_X11_act_293_8 rfl rfl rfl (List.mem_of_getElem? (i := 21) rfl) (by decide +kernel) ⟨Nat.le_of_ble_eq_true rfl, Nat.le_of_ble_eq_true rfl⟩) (c_preV hK hP hE hS tC26 rfl) rfl rfl hl.1 rfl (lv_room (Nat.le_of_ble_eq_true rfl)) dX11_act_91 ⟨Nat.zero_le _, Nat.zero_le _⟩) hS hk13
      have hc11 := c_ie q20 hc11
      cases hc11
    have hf := c_ie c9 hf
    by_cases c21 : a2 = (1 : Int32)
    · have hf := c_it c21 hf
      refine lv_tableIn (off := 36) (tgt := 95) hx hb dX11_act_59 (by rw [c21]; decide) (by rw [c21]; decide) (by rw [c21]; rfl) (by decide) ?_
      refine lv_aload hx hb dX11_act_95 (lv_at hl 0 rfl) ?_
      refine lv_aload_n hx hb dX11_act_97 rfl (lv_at hl 1 rfl) ?_
      refine c_get hx hb hts i_X11_act_X11 hown hK hP 0 tC0 rfl 15 (by decide) (hts _ (List.mem_of_getElem? (i := 2) rfl)) (fun _ h9 => h9) rfl (v := .ref (ad 8)) rfl dX11_act_98 ?_
      refine lv_iload_n hx hb dX11_act_101 rfl (lv_at hl 4 rfl) ?_
      obtain ⟨g22, r24, hc23, hf⟩ := c_b2E hf
      have hk25 : ∀ (H : Heap) (locs : List Loc), va_P D vwCl (c_ws tc ad TC g22) H → va_S A s.heap H locs → W p l e (c_rm 8) s m ([.ref (ad 0), .int a1, .int a2, .int a3] : List Value).toArray below meth c H locs 0 0 (MQ below (va_Qi (fun (x : Int32) (_ : Unit) => x = r) (fun _ t => va_P D vwCl (c_ws tc ad TC g') t.heap) A) ([.ref (ad 0), .int a1, .int a2, .int a3] : List Value).toArray s 0 0 A) (F0 m 105 ls [.int r24]) := by
        intro H locs hP hS
        exact c_iret hx hb hr hlk hP hS rfl (c_inj hf) dX11_act_105
      unfold v_points at hc23
      by_cases q26 : (20 + ((g7.1 60 (a1).toNatClampNeg)).toNatClampNeg) = 20
      · have hc23x := c_it q26 hc23
        rw [q26]
        exact c_goi (va_runV (As := [.ref (ad 8), .int a3]) (rest := []) ⟨hx, hb, hml, hown, hts⟩ (kX2_points hD hc23x) (cwV 2 hts ga_X11_act_297_2 rfl rfl rfl (by decide +kernel) ⟨Nat.le_of_ble_eq_true rfl, Nat.le_of_ble_eq_true rfl⟩) (c_preV hK hP hE hS tC20 rfl) rfl rfl hl.1 rfl (lv_room (Nat.le_of_ble_eq_true rfl)) dX11_act_102 ⟨Nat.zero_le _, Nat.zero_le _⟩) hS hk25
      have hc23 := c_ie q26 hc23
      by_cases q27 : (20 + ((g7.1 60 (a1).toNatClampNeg)).toNatClampNeg) = 21
      · have hc23x := c_it q27 hc23
        rw [q27]
        exact c_goi (va_runU (As := [.ref (ad 8), .int a3]) (rest := []) ⟨hx, hb, hml, hown, hts⟩ (kX1_points hD hc23x) (va_cwO 2 hts ga_X11_act_297_1 rfl rfl rfl (List.mem_of_getElem? (i := 64) rfl) (by decide +kernel) ⟨Nat.le_of_ble_eq_true rfl, Nat.le_of_ble_eq_true rfl⟩) (c_preV hK hP hE hS tC21 rfl) rfl rfl hl.1 rfl (lv_room (Nat.le_of_ble_eq_true rfl)) dX11_act_102 ⟨Nat.zero_le _, Nat.zero_le _⟩) hS hk25
      have hc23 := c_ie q27 hc23
      by_cases q28 : (20 + ((g7.1 60 (a1).toNatClampNeg)).toNatClampNeg) = 22
      · have hc23x := c_it q28 hc23
        rw [q28]
        exact c_goi (va_runU (As := [.ref (ad 8), .int a3]) (rest := []) ⟨hx, hb, hml, hown, hts⟩ (kX2_points hD hc23x) (va_cwU 2 hts ga_X11_act_297_9 rfl rfl rfl rfl (by decide +kernel) ⟨Nat.le_of_ble_eq_true rfl, Nat.le_of_ble_eq_true rfl⟩) (c_preV hK hP hE hS tC22 rfl) rfl rfl hl.1 rfl (lv_room (Nat.le_of_ble_eq_true rfl)) dX11_act_102 ⟨Nat.zero_le _, Nat.zero_le _⟩) hS hk25
      have hc23 := c_ie q28 hc23
      by_cases q29 : (20 + ((g7.1 60 (a1).toNatClampNeg)).toNatClampNeg) = 23
      · have hc23x := c_it q29 hc23
        rw [q29]
        exact c_goi (va_runU (As := [.ref (ad 8), .int a3]) (rest := []) ⟨hx, hb, hml, hown, hts⟩ (kX2_points hD hc23x) (va_cwU 2 hts ga_X11_act_297_6 rfl rfl rfl rfl (by decide +kernel) ⟨Nat.le_of_ble_eq_true rfl, Nat.le_of_ble_eq_true rfl⟩) (c_preV hK hP hE hS tC23 rfl) rfl rfl hl.1 rfl (lv_room (Nat.le_of_ble_eq_true rfl)) dX11_act_102 ⟨Nat.zero_le _, Nat.zero_le _⟩) hS hk25
      have hc23 := c_ie q29 hc23
      by_cases q30 : (20 + ((g7.1 60 (a1).toNatClampNeg)).toNatClampNeg) = 24
      · have hc23x := c_it q30 hc23
        rw [q30]
        exact c_goi (va_runU (As := [.ref (ad 8), .int a3]) (rest := []) ⟨hx, hb, hml, hown, hts⟩ (kX3_points hD hc23x) (va_cwO 2 hts ga_X11_act_297_3 rfl rfl rfl (List.mem_of_getElem? (i := 64) rfl) (by decide +kernel) ⟨Nat.le_of_ble_eq_true rfl, Nat.le_of_ble_eq_true rfl⟩) (c_preV hK hP hE hS tC24 rfl) rfl rfl hl.1 rfl (lv_room (Nat.le_of_ble_eq_true rfl)) dX11_act_102 ⟨Nat.zero_le _, Nat.zero_le _⟩) hS hk25
      have hc23 := c_ie q30 hc23
      by_cases q31 : (20 + ((g7.1 60 (a1).toNatClampNeg)).toNatClampNeg) = 25
      · have hc23x := c_it q31 hc23
        rw [q31]
        exact c_goi (va_runU (As := [.ref (ad 8), .int a3]) (rest := []) ⟨hx, hb, hml, hown, hts⟩ (kX2_points hD hc23x) (va_cwU 2 hts ga_X11_act_297_4 rfl rfl rfl rfl (by decide +kernel) ⟨Nat.le_of_ble_eq_true rfl, Nat.le_of_ble_eq_true rfl⟩) (c_preV hK hP hE hS tC25 rfl) rfl rfl hl.1 rfl (lv_room (Nat.le_of_ble_eq_true rfl)) dX11_act_102 ⟨Nat.zero_le _, Nat.zero_le _⟩) hS hk25
      have hc23 := c_ie q31 hc23
      by_cases q32 : (20 + ((g7.1 60 (a1).toNatClampNeg)).toNatClampNeg) = 26
      · have hc23x := c_it q32 hc23
        rw [q32]
        exact c_goi (va_runU (As := [.ref (ad 8), .int a3]) (rest := []) ⟨hx, hb, hml, hown, hts⟩ (kX8_points hD hc23x) (va_cwO 2 hts ga_X11_act_297_8 rfl rfl rfl (List.mem_of_getElem? (i := 64) rfl) (by decide +kernel) ⟨Nat.le_of_ble_eq_true rfl, Nat.le_of_ble_eq_true rfl⟩) (c_preV hK hP hE hS tC26 rfl) rfl rfl hl.1 rfl (lv_room (Nat.le_of_ble_eq_true rfl)) dX11_act_102 ⟨Nat.zero_le _, Nat.zero_le _⟩) hS hk25
      have hc23 := c_ie q32 hc23
      cases hc23
    have hf := c_ie c21 hf
    by_cases c33 : a2 = (2 : Int32)
    · have hf := c_it c33 hf
      refine lv_tableIn (off := 47) (tgt := 106) hx hb dX11_act_59 (by rw [c33]; decide) (by rw [c33]; decide) (by rw [c33]; rfl) (by decide) ?_
      refine lv_aload hx hb dX11_act_106 (lv_at hl 0 rfl) ?_
      refine lv_aload_n hx hb dX11_act_108 rfl (lv_at hl 1 rfl) ?_
      refine c_get hx hb hts i_X11_act_X11 hown hK hP 0 tC0 rfl 15 (by decide) (hts _ (List.mem_of_getElem? (i := 2) rfl)) (fun _ h9 => h9) rfl (v := .ref (ad 8)) rfl dX11_act_109 ?_
      refine lv_iload_n hx hb dX11_act_112 rfl (lv_at hl 4 rfl) ?_
      obtain ⟨g34, r36, hc35, hf⟩ := c_b2E hf
      have hk37 : ∀ (H : Heap) (locs : List Loc), va_P D vwCl (c_ws tc ad TC g34) H → va_S A s.heap H locs → W p l e (c_rm 8) s m ([.ref (ad 0), .int a1, .int a2, .int a3] : List Value).toArray below meth c H locs 0 0 (MQ below (va_Qi (fun (x : Int32) (_ : Unit) => x = r) (fun _ t => va_P D vwCl (c_ws tc ad TC g') t.heap) A) ([.ref (ad 0), .int a1, .int a2, .int a3] : List Value).toArray s 0 0 A) (F0 m 116 ls [.int r36]) := by
        intro H locs hP hS
        exact c_iret hx hb hr hlk hP hS rfl (c_inj hf) dX11_act_116
      unfold v_tells at hc35
      by_cases q38 : (20 + ((g7.1 60 (a1).toNatClampNeg)).toNatClampNeg) = 20
      · have hc35x := c_it q38 hc35
        rw [q38]
        exact c_goi (va_runV (As := [.ref (ad 8), .int a3]) (rest := []) ⟨hx, hb, hml, hown, hts⟩ (kX2_tells hD hc35x) (cwV 2 hts ga_X11_act_300_2 rfl rfl rfl (by decide +kernel) ⟨Nat.le_of_ble_eq_true rfl, Nat.le_of_ble_eq_true rfl⟩) (c_preV hK hP hE hS tC20 rfl) rfl rfl hl.1 rfl (lv_room (Nat.le_of_ble_eq_true rfl)) dX11_act_113 ⟨Nat.zero_le _, Nat.zero_le _⟩) hS hk37
      have hc35 := c_ie q38 hc35
      by_cases q39 : (20 + ((g7.1 60 (a1).toNatClampNeg)).toNatClampNeg) = 21
      · have hc35x := c_it q39 hc35
        rw [q39]
        exact c_goi (va_runU (As := [.ref (ad 8), .int a3]) (rest := []) ⟨hx, hb, hml, hown, hts⟩ (kX2_tells hD hc35x) (va_cwU 2 hts ga_X11_act_300_1 rfl rfl rfl rfl (by decide +kernel) ⟨Nat.le_of_ble_eq_true rfl, Nat.le_of_ble_eq_true rfl⟩) (c_preV hK hP hE hS tC21 rfl) rfl rfl hl.1 rfl (lv_room (Nat.le_of_ble_eq_true rfl)) dX11_act_113 ⟨Nat.zero_le _, Nat.zero_le _⟩) hS hk37
      have hc35 := c_ie q39 hc35
      by_cases q40 : (20 + ((g7.1 60 (a1).toNatClampNeg)).toNatClampNeg) = 22
      · have hc35x := c_it q40 hc35
        rw [q40]
        exact c_goi (va_runU (As := [.ref (ad 8), .int a3]) (rest := []) ⟨hx, hb, hml, hown, hts⟩ (kX2_tells hD hc35x) (va_cwU 2 hts ga_X11_act_300_9 rfl rfl rfl rfl (by decide +kernel) ⟨Nat.le_of_ble_eq_true rfl, Nat.le_of_ble_eq_true rfl⟩) (c_preV hK hP hE hS tC22 rfl) rfl rfl hl.1 rfl (lv_room (Nat.le_of_ble_eq_true rfl)) dX11_act_113 ⟨Nat.zero_le _, Nat.zero_le _⟩) hS hk37
      have hc35 := c_ie q40 hc35
      by_cases q41 : (20 + ((g7.1 60 (a1).toNatClampNeg)).toNatClampNeg) = 23
      · have hc35x := c_it q41 hc35
        rw [q41]
        exact c_goi (va_runU (As := [.ref (ad 8), .int a3]) (rest := []) ⟨hx, hb, hml, hown, hts⟩ (kX6_tells hD hc35x) (va_cwO 2 hts ga_X11_act_300_6 rfl rfl rfl (List.mem_of_getElem? (i := 86) rfl) (by decide +kernel) ⟨Nat.le_of_ble_eq_true rfl, Nat.le_of_ble_eq_true rfl⟩) (c_preV hK hP hE hS tC23 rfl) rfl rfl hl.1 rfl (lv_room (Nat.le_of_ble_eq_true rfl)) dX11_act_113 ⟨Nat.zero_le _, Nat.zero_le _⟩) hS hk37
      have hc35 := c_ie q41 hc35
      by_cases q42 : (20 + ((g7.1 60 (a1).toNatClampNeg)).toNatClampNeg) = 24
      · have hc35x := c_it q42 hc35
        rw [q42]
        exact c_goi (va_runU (As := [.ref (ad 8), .int a3]) (rest := []) ⟨hx, hb, hml, hown, hts⟩ (kX2_tells hD hc35x) (va_cwU 2 hts ga_X11_act_300_3 rfl rfl rfl rfl (by decide +kernel) ⟨Nat.le_of_ble_eq_true rfl, Nat.le_of_ble_eq_true rfl⟩) (c_preV hK hP hE hS tC24 rfl) rfl rfl hl.1 rfl (lv_room (Nat.le_of_ble_eq_true rfl)) dX11_act_113 ⟨Nat.zero_le _, Nat.zero_le _⟩) hS hk37
      have hc35 := c_ie q42 hc35
      by_cases q43 : (20 + ((g7.1 60 (a1).toNatClampNeg)).toNatClampNeg) = 25
      · have hc35x := c_it q43 hc35
        rw [q43]
        exact c_goi (va_runU (As := [.ref (ad 8), .int a3]) (rest := []) ⟨hx, hb, hml, hown, hts⟩ (kX4_tells hD hc35x) (va_cwO 2 hts ga_X11_act_300_4 rfl rfl rfl (List.mem_of_getElem? (i := 86) rfl) (by decide +kernel) ⟨Nat.le_of_ble_eq_true rfl, Nat.le_of_ble_eq_true rfl⟩) (c_preV hK hP hE hS tC25 rfl) rfl rfl hl.1 rfl (lv_room (Nat.le_of_ble_eq_true rfl)) dX11_act_113 ⟨Nat.zero_le _, Nat.zero_le _⟩) hS hk37
      have hc35 := c_ie q43 hc35
      by_cases q44 : (20 + ((g7.1 60 (a1).toNatClampNeg)).toNatClampNeg) = 26
      · have hc35x := c_it q44 hc35
        rw [q44]
        exact c_goi (va_runU (As := [.ref (ad 8), .int a3]) (rest := []) ⟨hx, hb, hml, hown, hts⟩ (kX6_tells hD hc35x) (va_cwO 2 hts ga_X11_act_300_8 rfl rfl rfl (List.mem_of_getElem? (i := 86) rfl) (by decide +kernel) ⟨Nat.le_of_ble_eq_true rfl, Nat.le_of_ble_eq_true rfl⟩) (c_preV hK hP hE hS tC26 rfl) rfl rfl hl.1 rfl (lv_room (Nat.le_of_ble_eq_true rfl)) dX11_act_113 ⟨Nat.zero_le _, Nat.zero_le _⟩) hS hk37
      have hc35 := c_ie q44 hc35
      cases hc35
    have hf := c_ie c33 hf
    have h9 := c_sw (x := a2) (lo := 0) (n := 2) (by decide) (fun k hj hk => by rcases (show k = 0 ∨ k = 1 ∨ k = 2 by omega) with rfl | rfl | rfl <;> assumption)
    refine lv_tableOut (tgt := 117) hx hb dX11_act_59 (by omega) (by decide) ?_
    refine lv_iconst (v := (0 : Int32)) hx hb dX11_act_117 (by decide) ?_
    exact c_iret hx hb hr hlk hP hS rfl (c_inj hf) dX11_act_118
  · have hf := c_it c4 hf
    refine lv_iconst (v := (0 : Int32)) hx hb dX11_act_16 (by decide) ?_
    exact c_iret hx hb hr hlk hP hS rfl (c_inj hf) dX11_act_17
