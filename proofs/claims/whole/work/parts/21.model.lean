theorem i_X12_any_X12 : ∀ w ∈ u_ws RX12 TX12 32, w ∈ wsX12_any := c_inP [40, 41, 42, 43, 44, 45, 46, 47, 48, 49, 50, 51, 52, 53, 54, 55, 56, 57, 58, 59, 60, 61, 62, 63, 64, 65, 66, 67, 68, 69, 70, 71] (by decide +kernel)
theorem dX12_any_0 : decode cX12_any 0 = .ok (.aload_n 0, 1) := by decide +kernel
theorem dX12_any_1 : decode cX12_any 1 = .ok (.invokevirtual 176, 3) := by decide +kernel
theorem dX12_any_4 : decode cX12_any 4 = .ok (.istore_n 1, 1) := by decide +kernel
theorem dX12_any_5 : decode cX12_any 5 = .ok (.aload_n 0, 1) := by decide +kernel
theorem dX12_any_6 : decode cX12_any 6 = .ok (.bipush 124, 2) := by decide +kernel
theorem dX12_any_8 : decode cX12_any 8 = .ok (.invokevirtual 150, 3) := by decide +kernel
theorem dX12_any_11 : decode cX12_any 11 = .ok (.ifCond .eq 35, 3) := by decide +kernel
theorem dX12_any_14 : decode cX12_any 14 = .ok (.aload_n 0, 1) := by decide +kernel
theorem dX12_any_15 : decode cX12_any 15 = .ok (.dup, 1) := by decide +kernel
theorem dX12_any_16 : decode cX12_any 16 = .ok (.getfield 144, 3) := by decide +kernel
theorem dX12_any_19 : decode cX12_any 19 = .ok (.iconst 1, 1) := by decide +kernel
theorem dX12_any_20 : decode cX12_any 20 = .ok (.iadd, 1) := by decide +kernel
theorem dX12_any_21 : decode cX12_any 21 = .ok (.putfield 144, 3) := by decide +kernel
theorem dX12_any_24 : decode cX12_any 24 = .ok (.aload_n 0, 1) := by decide +kernel
theorem dX12_any_25 : decode cX12_any 25 = .ok (.invokevirtual 176, 3) := by decide +kernel
theorem dX12_any_28 : decode cX12_any 28 = .ok (.istore_n 2, 1) := by decide +kernel
theorem dX12_any_29 : decode cX12_any 29 = .ok (.iload_n 1, 1) := by decide +kernel
theorem dX12_any_30 : decode cX12_any 30 = .ok (.ifCond .ne 7, 3) := by decide +kernel
theorem dX12_any_33 : decode cX12_any 33 = .ok (.iload_n 2, 1) := by decide +kernel
theorem dX12_any_34 : decode cX12_any 34 = .ok (.ifCond .eq 7, 3) := by decide +kernel
theorem dX12_any_37 : decode cX12_any 37 = .ok (.iconst 1, 1) := by decide +kernel
theorem dX12_any_38 : decode cX12_any 38 = .ok (.goto 4, 3) := by decide +kernel
theorem dX12_any_41 : decode cX12_any 41 = .ok (.iconst 0, 1) := by decide +kernel
theorem dX12_any_42 : decode cX12_any 42 = .ok (.istore_n 1, 1) := by decide +kernel
theorem dX12_any_43 : decode cX12_any 43 = .ok (.goto (-38), 3) := by decide +kernel
theorem dX12_any_46 : decode cX12_any 46 = .ok (.iload_n 1, 1) := by decide +kernel
theorem dX12_any_47 : decode cX12_any 47 = .ok (.ireturn, 1) := by decide +kernel
set_option maxRecDepth 20000 in
theorem ggX12_any_X12_both : GoodIn wsX12_any wsX12_both := goodIn_r _ [13, 1, 14, 15, 16, 5, 6, 7, 8, 9, 10, 11, 12, 0, 2, 3, 4, 17, 18, 19, 20, 21, 22, 23, 24, 25, 26, 27, 28, 29, 30, 31, 32, 33, 34, 35, 36, 37, 38, 39, 40, 41, 42, 43, 44, 45, 46, 47, 48, 49, 50, 51, 52, 53, 54, 55, 56, 57, 58, 59, 60, 61, 62, 63, 64, 65, 66, 67, 68, 69, 70, 71] (by decide +kernel) (by decide +kernel)
set_option maxRecDepth 20000 in
theorem gX12_any_X12_both : GoodIn wsX12_any (wsV RX12 176 RX12 yX12_both wsX12_both) := goodIn_app (goodIn_of _ (by decide +kernel)) ggX12_any_X12_both
set_option maxRecDepth 20000 in
theorem ggX12_any_X12_isAt : GoodIn wsX12_any wsX12_isAt := goodIn_r _ [9, 10, 1, 11, 12, 40, 41, 42, 43, 44, 45, 46, 47, 48, 49, 50, 51, 52, 53, 54, 55, 56, 57, 58, 59, 60, 61, 62, 63, 64, 65, 66, 67, 68, 69, 70, 71] (by decide +kernel) (by decide +kernel)
set_option maxRecDepth 20000 in
theorem gX12_any_X12_isAt : GoodIn wsX12_any (wsV RX12 150 RX12 yX12_isAt wsX12_isAt) := goodIn_app (goodIn_of _ (by decide +kernel)) ggX12_any_X12_isAt
def fX12_any_42 (F : Nat → c_G → Option (c_G × Int32)) (rec5 : Int32 → c_G → Option (c_G × Int32))  (y0 : Int32) (g : c_G) : Option (c_G × Int32) :=
  rec5 y0 g
set_option maxRecDepth 100000 in
set_option maxHeartbeats 4000000 in
theorem jX12_any_42 {p : Program} {l : Launch} {e : Env} {s : State} {m : MethodId} {below : List Frame} {meth : Method} {c : Code} {D : va_G} {tc : Nat → ClassId} {ad : Nat → Nat} {A : Nat → Prop} {E : (Nat → Nat) × (Nat → Nat) × Nat} {F : Nat → c_G → Option (c_G × Int32)} {dd : Nat} {g' : c_G} {r : Int32} (C : c_C p s m meth c D tc A E RX12 wsX12_any cX12_any 3 (some .boolean) ([.ref (ad 0)] : List Value).toArray) (hD : c_D A ad TM) (hF0 : ∀ {g g' : c_G}  {r : Int32}, F 0 g  = some (g', r) → c_Mi l yX12_any wsX12_any (c_rm (3 + dd)) D tc ad A E TM [.ref (ad 0)] g g' r) (hF1 : ∀ {g g' : c_G}  {r : Int32}, F 1 g  = some (g', r) → c_Mi l yX12_both wsX12_both (c_rm (3 + dd)) D tc ad A E TM [.ref (ad 0)] g g' r) (hF2 : ∀ {g g' : c_G}  {r : Int32}, F 2 g  = some (g', r) → c_Mi l yX12_factor wsX12_factor (c_rm (3 + dd)) D tc ad A E TM [.ref (ad 0)] g g' r) {rec5 : Int32 → c_G → Option (c_G × Int32)} (hrec5 : ∀ (x1 : Int32) (g : c_G), rec5 x1 g = some (g', r) → ∀ (H : Heap) (locs : List Loc), va_P D vwCl (c_ws tc ad TM g) H → va_S A s.heap H locs → ∀ ls : Array Slot, lv_has ls 3 [(0, .ref (ad 0)), (1, .int x1)] → W p l e (c_rm (3 + dd + 1)) s m ([.ref (ad 0)] : List Value).toArray below meth c H locs 0 0 (MQ below (va_Qi (fun (x : Int32) (_ : Unit) => x = r) (fun _ t => va_P D vwCl (c_ws tc ad TM g') t.heap) A) ([.ref (ad 0)] : List Value).toArray s 0 0 A) (F0 m 5 ls [])) : ∀ (y0 : Int32) (g : c_G), fX12_any_42 F rec5 y0 g = some (g', r) → ∀ (H : Heap) (locs : List Loc), va_P D vwCl (c_ws tc ad TM g) H → va_S A s.heap H locs → ∀ ls : Array Slot, lv_has ls 3 [(0, .ref (ad 0))] → W p l e (c_rm (3 + dd + 1)) s m ([.ref (ad 0)] : List Value).toArray below meth c H locs 0 0 (MQ below (va_Qi (fun (x : Int32) (_ : Unit) => x = r) (fun _ t => va_P D vwCl (c_ws tc ad TM g') t.heap) A) ([.ref (ad 0)] : List Value).toArray s 0 0 A) (F0 m 42 ls [.int y0]) := by
  obtain ⟨hx, hb, hr, hml, hts, hown, hlk, hK, hE⟩ := id C
  intro y0 g hf H locs hP hS ls hl
  unfold fX12_any_42 at hf
  refine lv_istore_n (lv' := [(1, .int y0), (0, .ref (ad 0))]) hx hb dX12_any_42 rfl hl (by decide) rfl (fun ls hl => ?_)
  refine lv_goto (tgt := 5) hx hb dX12_any_43 (by decide) ?_
  exact hrec5 y0 g hf _ _ hP hS _ (lv_sub hl [1, 0] rfl)
def fX12_any_37 (F : Nat → c_G → Option (c_G × Int32)) (rec5 : Int32 → c_G → Option (c_G × Int32))   (g : c_G) : Option (c_G × Int32) :=
  fX12_any_42 F rec5 ((1 : Int32)) g
set_option maxRecDepth 100000 in
set_option maxHeartbeats 4000000 in
theorem jX12_any_37 {p : Program} {l : Launch} {e : Env} {s : State} {m : MethodId} {below : List Frame} {meth : Method} {c : Code} {D : va_G} {tc : Nat → ClassId} {ad : Nat → Nat} {A : Nat → Prop} {E : (Nat → Nat) × (Nat → Nat) × Nat} {F : Nat → c_G → Option (c_G × Int32)} {dd : Nat} {g' : c_G} {r : Int32} (C : c_C p s m meth c D tc A E RX12 wsX12_any cX12_any 3 (some .boolean) ([.ref (ad 0)] : List Value).toArray) (hD : c_D A ad TM) (hF0 : ∀ {g g' : c_G}  {r : Int32}, F 0 g  = some (g', r) → c_Mi l yX12_any wsX12_any (c_rm (3 + dd)) D tc ad A E TM [.ref (ad 0)] g g' r) (hF1 : ∀ {g g' : c_G}  {r : Int32}, F 1 g  = some (g', r) → c_Mi l yX12_both wsX12_both (c_rm (3 + dd)) D tc ad A E TM [.ref (ad 0)] g g' r) (hF2 : ∀ {g g' : c_G}  {r : Int32}, F 2 g  = some (g', r) → c_Mi l yX12_factor wsX12_factor (c_rm (3 + dd)) D tc ad A E TM [.ref (ad 0)] g g' r) {rec5 : Int32 → c_G → Option (c_G × Int32)} (hrec5 : ∀ (x1 : Int32) (g : c_G), rec5 x1 g = some (g', r) → ∀ (H : Heap) (locs : List Loc), va_P D vwCl (c_ws tc ad TM g) H → va_S A s.heap H locs → ∀ ls : Array Slot, lv_has ls 3 [(0, .ref (ad 0)), (1, .int x1)] → W p l e (c_rm (3 + dd + 1)) s m ([.ref (ad 0)] : List Value).toArray below meth c H locs 0 0 (MQ below (va_Qi (fun (x : Int32) (_ : Unit) => x = r) (fun _ t => va_P D vwCl (c_ws tc ad TM g') t.heap) A) ([.ref (ad 0)] : List Value).toArray s 0 0 A) (F0 m 5 ls [])) : ∀  (g : c_G), fX12_any_37 F rec5 g = some (g', r) → ∀ (H : Heap) (locs : List Loc), va_P D vwCl (c_ws tc ad TM g) H → va_S A s.heap H locs → ∀ ls : Array Slot, lv_has ls 3 [(0, .ref (ad 0))] → W p l e (c_rm (3 + dd + 1)) s m ([.ref (ad 0)] : List Value).toArray below meth c H locs 0 0 (MQ below (va_Qi (fun (x : Int32) (_ : Unit) => x = r) (fun _ t => va_P D vwCl (c_ws tc ad TM g') t.heap) A) ([.ref (ad 0)] : List Value).toArray s 0 0 A) (F0 m 37 ls []) := by
  obtain ⟨hx, hb, hr, hml, hts, hown, hlk, hK, hE⟩ := id C
  intro  g hf H locs hP hS ls hl
  unfold fX12_any_37 at hf
  refine lv_iconst (v := (1 : Int32)) hx hb dX12_any_37 (by decide) ?_
  refine lv_goto (tgt := 42) hx hb dX12_any_38 (by decide) ?_
  exact jX12_any_42 C hD hF0 hF1 hF2 hrec5 ((1 : Int32)) g hf _ _ hP hS _ (lv_sub hl [0] rfl)
def fX12_any_5 (F : Nat → c_G → Option (c_G × Int32))   : Nat → Int32 → c_G → Option (c_G × Int32)
  | 0, _, _ => none
  | n + 1, x1, g => (fX12_isAt g ((124 : Int32))).bind fun r5001 => if r5001 = 0 then (if c_bo x1 = true then some (g, x1) else none) else (c_let (((g.1 0 11) + (1 : Int32))) fun v5005 => c_let (c_si g 0 11 v5005) fun g5006 => c_b2 (F 1 g5006 ) fun g5008 r5009 => if x1 = 0 then (if r5009 = 0 then (fX12_any_42 F (fX12_any_5 F n) ((0 : Int32)) g5008) else (fX12_any_37 F (fX12_any_5 F n) g5008)) else (fX12_any_37 F (fX12_any_5 F n) g5008))
set_option maxRecDepth 100000 in
set_option maxHeartbeats 4000000 in
theorem jX12_any_5 {p : Program} {l : Launch} {e : Env} {s : State} {m : MethodId} {below : List Frame} {meth : Method} {c : Code} {D : va_G} {tc : Nat → ClassId} {ad : Nat → Nat} {A : Nat → Prop} {E : (Nat → Nat) × (Nat → Nat) × Nat} {F : Nat → c_G → Option (c_G × Int32)} {dd : Nat} {g' : c_G} {r : Int32} (C : c_C p s m meth c D tc A E RX12 wsX12_any cX12_any 3 (some .boolean) ([.ref (ad 0)] : List Value).toArray) (hD : c_D A ad TM) (hF0 : ∀ {g g' : c_G}  {r : Int32}, F 0 g  = some (g', r) → c_Mi l yX12_any wsX12_any (c_rm (3 + dd)) D tc ad A E TM [.ref (ad 0)] g g' r) (hF1 : ∀ {g g' : c_G}  {r : Int32}, F 1 g  = some (g', r) → c_Mi l yX12_both wsX12_both (c_rm (3 + dd)) D tc ad A E TM [.ref (ad 0)] g g' r) (hF2 : ∀ {g g' : c_G}  {r : Int32}, F 2 g  = some (g', r) → c_Mi l yX12_factor wsX12_factor (c_rm (3 + dd)) D tc ad A E TM [.ref (ad 0)] g g' r)  : ∀ (n : Nat) (x1 : Int32) (g : c_G), fX12_any_5 F n x1 g = some (g', r) → ∀ (H : Heap) (locs : List Loc), va_P D vwCl (c_ws tc ad TM g) H → va_S A s.heap H locs → ∀ ls : Array Slot, lv_has ls 3 [(0, .ref (ad 0)), (1, .int x1)] → W p l e (c_rm (3 + dd + 1)) s m ([.ref (ad 0)] : List Value).toArray below meth c H locs 0 0 (MQ below (va_Qi (fun (x : Int32) (_ : Unit) => x = r) (fun _ t => va_P D vwCl (c_ws tc ad TM g') t.heap) A) ([.ref (ad 0)] : List Value).toArray s 0 0 A) (F0 m 5 ls []) := by
  obtain ⟨hx, hb, hr, hml, hts, hown, hlk, hK, hE⟩ := id C
  intro n
  induction n with
  | zero =>
    intro x1 g hf
    cases hf
  | succ n ih =>
    intro x1 g hf H locs hP hS ls hl
    unfold fX12_any_5 at hf
    refine lv_aload_n hx hb dX12_any_5 rfl (lv_at hl 0 rfl) ?_
    refine lv_bipush (v := (124 : Int32)) hx hb dX12_any_6 (by decide) ?_
    obtain ⟨r5001, hc5002, hf⟩ := c_bd hf
    refine c_goi (va_runV (As := [.int (124 : Int32)]) (rest := []) ⟨hx, hb, hml, hown, hts⟩ (kX12_isAt hD hc5002) (cwV 1 hts gX12_any_X12_isAt rfl rfl rfl (by decide +kernel) ⟨by simp only [c_rm]; omega, by simp only [c_rm]; omega⟩) (c_preV hK hP hE hS tM0 rfl) rfl rfl hl.1 rfl (lv_room (Nat.le_of_ble_eq_true rfl)) dX12_any_8 ⟨Nat.zero_le _, Nat.zero_le _⟩) hS (fun H locs hP hS => ?_)
    refine lv_if_eq (tgt := 46) hx hb dX12_any_11 (by decide) (fun c5003 => ?_) (fun c5003 => ?_)
    · have hf := c_it c5003 hf
      refine lv_iload_n hx hb dX12_any_46 rfl (lv_at hl 1 rfl) ?_
      obtain ⟨hb5004, hf⟩ := c_gd hf
      exact c_iret hx hb hr hlk hP hS (c_boE hb5004) (c_inj hf) dX12_any_47
    · have hf := c_ie c5003 hf
      refine lv_aload_n hx hb dX12_any_14 rfl (lv_at hl 0 rfl) ?_
      refine lv_dup hx hb dX12_any_15 rfl ?_
      refine c_get hx hb hts i_X12_any_X12 hown hK hP 0 tM0 rfl 11 (by decide) (hts _ (List.mem_of_getElem? (i := 1) rfl)) (fun _ h9 => h9) rfl (v := .int (g.1 0 11)) rfl dX12_any_16 ?_
      refine lv_iconst (v := (1 : Int32)) hx hb dX12_any_19 (by decide) ?_
      refine lv_iadd hx hb dX12_any_20 ?_
      obtain ⟨v5005, ev5005, hf⟩ := c_letE hf
      refine c_topi ev5005 ?_
      obtain ⟨g5006, eg5006, hf⟩ := c_letE hf
      refine c_put hx hb hts i_X12_any_X12 tyX12 tyX12_ok nmX12 hown hK hP hD hS 0 tM0 rfl 11 (by decide) (hts _ (List.mem_of_getElem? (i := 1) rfl)) (fun _ h9 => h9) rfl (ty := .int) (by decide +kernel) rfl rfl rfl eg5006 dX12_any_21 (fun H locs hP hS => ?_)
      refine lv_aload_n hx hb dX12_any_24 rfl (lv_at hl 0 rfl) ?_
      obtain ⟨g5008, r5009, hc5007, hf⟩ := c_b2E hf
      refine c_goi (va_runV (As := []) (rest := []) ⟨hx, hb, hml, hown, hts⟩ (hF1 hc5007) (cwV 0 hts gX12_any_X12_both rfl rfl rfl (by decide +kernel) ⟨by simp only [c_rm]; omega, by simp only [c_rm]; omega⟩) (c_preV hK hP hE hS tM0 rfl) rfl rfl hl.1 rfl (lv_room (Nat.le_of_ble_eq_true rfl)) dX12_any_25 ⟨Nat.zero_le _, Nat.zero_le _⟩) hS (fun H locs hP hS => ?_)
      refine lv_istore_n (lv' := [(2, .int r5009), (0, .ref (ad 0)), (1, .int x1)]) hx hb dX12_any_28 rfl hl (by decide) rfl (fun ls hl => ?_)
      refine lv_iload_n hx hb dX12_any_29 rfl (lv_at hl 2 rfl) ?_
      refine lv_if_ne (tgt := 37) hx hb dX12_any_30 (by decide) (fun c5010 => ?_) (fun c5010 => ?_)
      · have hf := c_ie c5010 hf
        exact jX12_any_37 C hD hF0 hF1 hF2 ih g5008 hf _ _ hP hS _ (lv_sub hl [1] rfl)
      · have hf := c_it c5010 hf
        refine lv_iload_n hx hb dX12_any_33 rfl (lv_at hl 0 rfl) ?_
        refine lv_if_eq (tgt := 41) hx hb dX12_any_34 (by decide) (fun c5011 => ?_) (fun c5011 => ?_)
        · have hf := c_it c5011 hf
          refine lv_iconst (v := (0 : Int32)) hx hb dX12_any_41 (by decide) ?_
          exact jX12_any_42 C hD hF0 hF1 hF2 ih ((0 : Int32)) g5008 hf _ _ hP hS _ (lv_sub hl [1] rfl)
        · have hf := c_ie c5011 hf
          exact jX12_any_37 C hD hF0 hF1 hF2 ih g5008 hf _ _ hP hS _ (lv_sub hl [1] rfl)
def fX12_any (F : Nat → c_G → Option (c_G × Int32)) (g : c_G)  : Option (c_G × Int32) :=
  c_b2 (F 1 g ) fun g2 r3 => fX12_any_5 F c_F r3 g2
set_option maxRecDepth 100000 in
set_option maxHeartbeats 4000000 in
theorem kX12_any {l : Launch} {D : va_G} {tc : Nat → ClassId} {ad : Nat → Nat} {A : Nat → Prop} {E : (Nat → Nat) × (Nat → Nat) × Nat} {F : Nat → c_G → Option (c_G × Int32)} {dd : Nat} (hF0 : ∀ {g g' : c_G}  {r : Int32}, F 0 g  = some (g', r) → c_Mi l yX12_any wsX12_any (c_rm (3 + dd)) D tc ad A E TM [.ref (ad 0)] g g' r) (hF1 : ∀ {g g' : c_G}  {r : Int32}, F 1 g  = some (g', r) → c_Mi l yX12_both wsX12_both (c_rm (3 + dd)) D tc ad A E TM [.ref (ad 0)] g g' r) (hF2 : ∀ {g g' : c_G}  {r : Int32}, F 2 g  = some (g', r) → c_Mi l yX12_factor wsX12_factor (c_rm (3 + dd)) D tc ad A E TM [.ref (ad 0)] g g' r) (hD : c_D A ad TM)  {g g' : c_G} {r : Int32} (hf : fX12_any F g  = some (g', r)) : c_Mi l yX12_any wsX12_any (c_rm (3 + dd + 1)) D tc ad A E TM ([.ref (ad 0)] : List Value) g g' r := by
  refine c_ofW (bytes := cX12_any) (maxL := 3) (ret := (some .boolean)) (by decide) rfl (Nat.le_of_ble_eq_true rfl) ?_
  intro p e s m below meth c ls C hP hS hl
  unfold fX12_any at hf
  obtain ⟨hx, hb, hr, hml, hts, hown, hlk, hK, hE⟩ := id C
  have hl : lv_has ls 3 [(0, .ref (ad 0))] := hl
  refine lv_aload_n hx hb dX12_any_0 rfl (lv_at hl 0 rfl) ?_
  obtain ⟨g2, r3, hc1, hf⟩ := c_b2E hf
  refine c_goi (va_runV (As := []) (rest := []) ⟨hx, hb, hml, hown, hts⟩ (hF1 hc1) (cwV 0 hts gX12_any_X12_both rfl rfl rfl (by decide +kernel) ⟨by simp only [c_rm]; omega, by simp only [c_rm]; omega⟩) (c_preV hK hP hE hS tM0 rfl) rfl rfl hl.1 rfl (lv_room (Nat.le_of_ble_eq_true rfl)) dX12_any_1 ⟨Nat.zero_le _, Nat.zero_le _⟩) hS (fun H locs hP hS => ?_)
  refine lv_istore_n (lv' := [(1, .int r3), (0, .ref (ad 0))]) hx hb dX12_any_4 rfl hl (by decide) rfl (fun ls hl => ?_)
  exact jX12_any_5 C hD hF0 hF1 hF2 c_F r3 g2 hf _ _ hP hS _ (lv_sub hl [1, 0] rfl)
theorem i_X12_both_X12 : ∀ w ∈ u_ws RX12 TX12 32, w ∈ wsX12_both := c_inP [40, 41, 42, 43, 44, 45, 46, 47, 48, 49, 50, 51, 52, 53, 54, 55, 56, 57, 58, 59, 60, 61, 62, 63, 64, 65, 66, 67, 68, 69, 70, 71] (by decide +kernel)
theorem dX12_both_0 : decode cX12_both 0 = .ok (.aload_n 0, 1) := by decide +kernel
theorem dX12_both_1 : decode cX12_both 1 = .ok (.invokevirtual 167, 3) := by decide +kernel
theorem dX12_both_4 : decode cX12_both 4 = .ok (.istore_n 1, 1) := by decide +kernel
theorem dX12_both_5 : decode cX12_both 5 = .ok (.aload_n 0, 1) := by decide +kernel
theorem dX12_both_6 : decode cX12_both 6 = .ok (.bipush 38, 2) := by decide +kernel
theorem dX12_both_8 : decode cX12_both 8 = .ok (.invokevirtual 150, 3) := by decide +kernel
theorem dX12_both_11 : decode cX12_both 11 = .ok (.ifCond .eq 35, 3) := by decide +kernel
theorem dX12_both_14 : decode cX12_both 14 = .ok (.aload_n 0, 1) := by decide +kernel
theorem dX12_both_15 : decode cX12_both 15 = .ok (.dup, 1) := by decide +kernel
theorem dX12_both_16 : decode cX12_both 16 = .ok (.getfield 144, 3) := by decide +kernel
theorem dX12_both_19 : decode cX12_both 19 = .ok (.iconst 1, 1) := by decide +kernel
theorem dX12_both_20 : decode cX12_both 20 = .ok (.iadd, 1) := by decide +kernel
theorem dX12_both_21 : decode cX12_both 21 = .ok (.putfield 144, 3) := by decide +kernel
theorem dX12_both_24 : decode cX12_both 24 = .ok (.aload_n 0, 1) := by decide +kernel
theorem dX12_both_25 : decode cX12_both 25 = .ok (.invokevirtual 167, 3) := by decide +kernel
theorem dX12_both_28 : decode cX12_both 28 = .ok (.istore_n 2, 1) := by decide +kernel
theorem dX12_both_29 : decode cX12_both 29 = .ok (.iload_n 1, 1) := by decide +kernel
theorem dX12_both_30 : decode cX12_both 30 = .ok (.ifCond .eq 11, 3) := by decide +kernel
theorem dX12_both_33 : decode cX12_both 33 = .ok (.iload_n 2, 1) := by decide +kernel
theorem dX12_both_34 : decode cX12_both 34 = .ok (.ifCond .eq 7, 3) := by decide +kernel
theorem dX12_both_37 : decode cX12_both 37 = .ok (.iconst 1, 1) := by decide +kernel
theorem dX12_both_38 : decode cX12_both 38 = .ok (.goto 4, 3) := by decide +kernel
theorem dX12_both_41 : decode cX12_both 41 = .ok (.iconst 0, 1) := by decide +kernel
theorem dX12_both_42 : decode cX12_both 42 = .ok (.istore_n 1, 1) := by decide +kernel
theorem dX12_both_43 : decode cX12_both 43 = .ok (.goto (-38), 3) := by decide +kernel
theorem dX12_both_46 : decode cX12_both 46 = .ok (.iload_n 1, 1) := by decide +kernel
theorem dX12_both_47 : decode cX12_both 47 = .ok (.ireturn, 1) := by decide +kernel
set_option maxRecDepth 20000 in
theorem ggX12_both_X12_factor : GoodIn wsX12_both wsX12_factor := goodIn_r _ [17, 18, 1, 6, 7, 8, 5, 9, 10, 11, 12, 2, 3, 4, 19, 20, 21, 22, 23, 24, 25, 26, 27, 28, 29, 30, 31, 32, 33, 34, 35, 36, 37, 38, 39, 13, 14, 15, 16, 0, 40, 41, 42, 43, 44, 45, 46, 47, 48, 49, 50, 51, 52, 53, 54, 55, 56, 57, 58, 59, 60, 61, 62, 63, 64, 65, 66, 67, 68, 69, 70, 71] (by decide +kernel) (by decide +kernel)
set_option maxRecDepth 20000 in
theorem gX12_both_X12_factor : GoodIn wsX12_both (wsV RX12 167 RX12 yX12_factor wsX12_factor) := goodIn_app (goodIn_of _ (by decide +kernel)) ggX12_both_X12_factor
set_option maxRecDepth 20000 in
theorem ggX12_both_X12_isAt : GoodIn wsX12_both wsX12_isAt := goodIn_r _ [9, 10, 1, 11, 12, 40, 41, 42, 43, 44, 45, 46, 47, 48, 49, 50, 51, 52, 53, 54, 55, 56, 57, 58, 59, 60, 61, 62, 63, 64, 65, 66, 67, 68, 69, 70, 71] (by decide +kernel) (by decide +kernel)
set_option maxRecDepth 20000 in
theorem gX12_both_X12_isAt : GoodIn wsX12_both (wsV RX12 150 RX12 yX12_isAt wsX12_isAt) := goodIn_app (goodIn_of _ (by decide +kernel)) ggX12_both_X12_isAt
def fX12_both_42 (F : Nat → c_G → Option (c_G × Int32)) (rec5 : Int32 → c_G → Option (c_G × Int32))  (y0 : Int32) (g : c_G) : Option (c_G × Int32) :=
  rec5 y0 g
set_option maxRecDepth 100000 in
set_option maxHeartbeats 4000000 in
theorem jX12_both_42 {p : Program} {l : Launch} {e : Env} {s : State} {m : MethodId} {below : List Frame} {meth : Method} {c : Code} {D : va_G} {tc : Nat → ClassId} {ad : Nat → Nat} {A : Nat → Prop} {E : (Nat → Nat) × (Nat → Nat) × Nat} {F : Nat → c_G → Option (c_G × Int32)} {dd : Nat} {g' : c_G} {r : Int32} (C : c_C p s m meth c D tc A E RX12 wsX12_both cX12_both 3 (some .boolean) ([.ref (ad 0)] : List Value).toArray) (hD : c_D A ad TM) (hF0 : ∀ {g g' : c_G}  {r : Int32}, F 0 g  = some (g', r) → c_Mi l yX12_any wsX12_any (c_rm (3 + dd)) D tc ad A E TM [.ref (ad 0)] g g' r) (hF1 : ∀ {g g' : c_G}  {r : Int32}, F 1 g  = some (g', r) → c_Mi l yX12_both wsX12_both (c_rm (3 + dd)) D tc ad A E TM [.ref (ad 0)] g g' r) (hF2 : ∀ {g g' : c_G}  {r : Int32}, F 2 g  = some (g', r) → c_Mi l yX12_factor wsX12_factor (c_rm (3 + dd)) D tc ad A E TM [.ref (ad 0)] g g' r) {rec5 : Int32 → c_G → Option (c_G × Int32)} (hrec5 : ∀ (x1 : Int32) (g : c_G), rec5 x1 g = some (g', r) → ∀ (H : Heap) (locs : List Loc), va_P D vwCl (c_ws tc ad TM g) H → va_S A s.heap H locs → ∀ ls : Array Slot, lv_has ls 3 [(0, .ref (ad 0)), (1, .int x1)] → W p l e (c_rm (3 + dd + 1)) s m ([.ref (ad 0)] : List Value).toArray below meth c H locs 0 0 (MQ below (va_Qi (fun (x : Int32) (_ : Unit) => x = r) (fun _ t => va_P D vwCl (c_ws tc ad TM g') t.heap) A) ([.ref (ad 0)] : List Value).toArray s 0 0 A) (F0 m 5 ls [])) : ∀ (y0 : Int32) (g : c_G), fX12_both_42 F rec5 y0 g = some (g', r) → ∀ (H : Heap) (locs : List Loc), va_P D vwCl (c_ws tc ad TM g) H → va_S A s.heap H locs → ∀ ls : Array Slot, lv_has ls 3 [(0, .ref (ad 0))] → W p l e (c_rm (3 + dd + 1)) s m ([.ref (ad 0)] : List Value).toArray below meth c H locs 0 0 (MQ below (va_Qi (fun (x : Int32) (_ : Unit) => x = r) (fun _ t => va_P D vwCl (c_ws tc ad TM g') t.heap) A) ([.ref (ad 0)] : List Value).toArray s 0 0 A) (F0 m 42 ls [.int y0]) := by
  obtain ⟨hx, hb, hr, hml, hts, hown, hlk, hK, hE⟩ := id C
  intro y0 g hf H locs hP hS ls hl
  unfold fX12_both_42 at hf
  refine lv_istore_n (lv' := [(1, .int y0), (0, .ref (ad 0))]) hx hb dX12_both_42 rfl hl (by decide) rfl (fun ls hl => ?_)
  refine lv_goto (tgt := 5) hx hb dX12_both_43 (by decide) ?_
  exact hrec5 y0 g hf _ _ hP hS _ (lv_sub hl [1, 0] rfl)
def fX12_both_41 (F : Nat → c_G → Option (c_G × Int32)) (rec5 : Int32 → c_G → Option (c_G × Int32))   (g : c_G) : Option (c_G × Int32) :=
  fX12_both_42 F rec5 ((0 : Int32)) g
set_option maxRecDepth 100000 in
set_option maxHeartbeats 4000000 in
theorem jX12_both_41 {p : Program} {l : Launch} {e : Env} {s : State} {m : MethodId} {below : List Frame} {meth : Method} {c : Code} {D : va_G} {tc : Nat → ClassId} {ad : Nat → Nat} {A : Nat → Prop} {E : (Nat → Nat) × (Nat → Nat) × Nat} {F : Nat → c_G → Option (c_G × Int32)} {dd : Nat} {g' : c_G} {r : Int32} (C : c_C p s m meth c D tc A E RX12 wsX12_both cX12_both 3 (some .boolean) ([.ref (ad 0)] : List Value).toArray) (hD : c_D A ad TM) (hF0 : ∀ {g g' : c_G}  {r : Int32}, F 0 g  = some (g', r) → c_Mi l yX12_any wsX12_any (c_rm (3 + dd)) D tc ad A E TM [.ref (ad 0)] g g' r) (hF1 : ∀ {g g' : c_G}  {r : Int32}, F 1 g  = some (g', r) → c_Mi l yX12_both wsX12_both (c_rm (3 + dd)) D tc ad A E TM [.ref (ad 0)] g g' r) (hF2 : ∀ {g g' : c_G}  {r : Int32}, F 2 g  = some (g', r) → c_Mi l yX12_factor wsX12_factor (c_rm (3 + dd)) D tc ad A E TM [.ref (ad 0)] g g' r) {rec5 : Int32 → c_G → Option (c_G × Int32)} (hrec5 : ∀ (x1 : Int32) (g : c_G), rec5 x1 g = some (g', r) → ∀ (H : Heap) (locs : List Loc), va_P D vwCl (c_ws tc ad TM g) H → va_S A s.heap H locs → ∀ ls : Array Slot, lv_has ls 3 [(0, .ref (ad 0)), (1, .int x1)] → W p l e (c_rm (3 + dd + 1)) s m ([.ref (ad 0)] : List Value).toArray below meth c H locs 0 0 (MQ below (va_Qi (fun (x : Int32) (_ : Unit) => x = r) (fun _ t => va_P D vwCl (c_ws tc ad TM g') t.heap) A) ([.ref (ad 0)] : List Value).toArray s 0 0 A) (F0 m 5 ls [])) : ∀  (g : c_G), fX12_both_41 F rec5 g = some (g', r) → ∀ (H : Heap) (locs : List Loc), va_P D vwCl (c_ws tc ad TM g) H → va_S A s.heap H locs → ∀ ls : Array Slot, lv_has ls 3 [(0, .ref (ad 0))] → W p l e (c_rm (3 + dd + 1)) s m ([.ref (ad 0)] : List Value).toArray below meth c H locs 0 0 (MQ below (va_Qi (fun (x : Int32) (_ : Unit) => x = r) (fun _ t => va_P D vwCl (c_ws tc ad TM g') t.heap) A) ([.ref (ad 0)] : List Value).toArray s 0 0 A) (F0 m 41 ls []) := by
  obtain ⟨hx, hb, hr, hml, hts, hown, hlk, hK, hE⟩ := id C
  intro  g hf H locs hP hS ls hl
  unfold fX12_both_41 at hf
  refine lv_iconst (v := (0 : Int32)) hx hb dX12_both_41 (by decide) ?_
  exact jX12_both_42 C hD hF0 hF1 hF2 hrec5 ((0 : Int32)) g hf _ _ hP hS _ (lv_sub hl [0] rfl)
def fX12_both_5 (F : Nat → c_G → Option (c_G × Int32))   : Nat → Int32 → c_G → Option (c_G × Int32)
  | 0, _, _ => none
  | n + 1, x1, g => (fX12_isAt g ((38 : Int32))).bind fun r5001 => if r5001 = 0 then (if c_bo x1 = true then some (g, x1) else none) else (c_let (((g.1 0 11) + (1 : Int32))) fun v5005 => c_let (c_si g 0 11 v5005) fun g5006 => c_b2 (F 2 g5006 ) fun g5008 r5009 => if x1 = 0 then (fX12_both_41 F (fX12_both_5 F n) g5008) else (if r5009 = 0 then (fX12_both_41 F (fX12_both_5 F n) g5008) else (fX12_both_42 F (fX12_both_5 F n) ((1 : Int32)) g5008)))
set_option maxRecDepth 100000 in
set_option maxHeartbeats 4000000 in
theorem jX12_both_5 {p : Program} {l : Launch} {e : Env} {s : State} {m : MethodId} {below : List Frame} {meth : Method} {c : Code} {D : va_G} {tc : Nat → ClassId} {ad : Nat → Nat} {A : Nat → Prop} {E : (Nat → Nat) × (Nat → Nat) × Nat} {F : Nat → c_G → Option (c_G × Int32)} {dd : Nat} {g' : c_G} {r : Int32} (C : c_C p s m meth c D tc A E RX12 wsX12_both cX12_both 3 (some .boolean) ([.ref (ad 0)] : List Value).toArray) (hD : c_D A ad TM) (hF0 : ∀ {g g' : c_G}  {r : Int32}, F 0 g  = some (g', r) → c_Mi l yX12_any wsX12_any (c_rm (3 + dd)) D tc ad A E TM [.ref (ad 0)] g g' r) (hF1 : ∀ {g g' : c_G}  {r : Int32}, F 1 g  = some (g', r) → c_Mi l yX12_both wsX12_both (c_rm (3 + dd)) D tc ad A E TM [.ref (ad 0)] g g' r) (hF2 : ∀ {g g' : c_G}  {r : Int32}, F 2 g  = some (g', r) → c_Mi l yX12_factor wsX12_factor (c_rm (3 + dd)) D tc ad A E TM [.ref (ad 0)] g g' r)  : ∀ (n : Nat) (x1 : Int32) (g : c_G), fX12_both_5 F n x1 g = some (g', r) → ∀ (H : Heap) (locs : List Loc), va_P D vwCl (c_ws tc ad TM g) H → va_S A s.heap H locs → ∀ ls : Array Slot, lv_has ls 3 [(0, .ref (ad 0)), (1, .int x1)] → W p l e (c_rm (3 + dd + 1)) s m ([.ref (ad 0)] : List Value).toArray below meth c H locs 0 0 (MQ below (va_Qi (fun (x : Int32) (_ : Unit) => x = r) (fun _ t => va_P D vwCl (c_ws tc ad TM g') t.heap) A) ([.ref (ad 0)] : List Value).toArray s 0 0 A) (F0 m 5 ls []) := by
  obtain ⟨hx, hb, hr, hml, hts, hown, hlk, hK, hE⟩ := id C
  intro n
  induction n with
  | zero =>
    intro x1 g hf
    cases hf
  | succ n ih =>
    intro x1 g hf H locs hP hS ls hl
    unfold fX12_both_5 at hf
    refine lv_aload_n hx hb dX12_both_5 rfl (lv_at hl 0 rfl) ?_
    refine lv_bipush (v := (38 : Int32)) hx hb dX12_both_6 (by decide) ?_
    obtain ⟨r5001, hc5002, hf⟩ := c_bd hf
    refine c_goi (va_runV (As := [.int (38 : Int32)]) (rest := []) ⟨hx, hb, hml, hown, hts⟩ (kX12_isAt hD hc5002) (cwV 1 hts gX12_both_X12_isAt rfl rfl rfl (by decide +kernel) ⟨by simp only [c_rm]; omega, by simp only [c_rm]; omega⟩) (c_preV hK hP hE hS tM0 rfl) rfl rfl hl.1 rfl (lv_room (Nat.le_of_ble_eq_true rfl)) dX12_both_8 ⟨Nat.zero_le _, Nat.zero_le _⟩) hS (fun H locs hP hS => ?_)
    refine lv_if_eq (tgt := 46) hx hb dX12_both_11 (by decide) (fun c5003 => ?_) (fun c5003 => ?_)
    · have hf := c_it c5003 hf
      refine lv_iload_n hx hb dX12_both_46 rfl (lv_at hl 1 rfl) ?_
      obtain ⟨hb5004, hf⟩ := c_gd hf
      exact c_iret hx hb hr hlk hP hS (c_boE hb5004) (c_inj hf) dX12_both_47
    · have hf := c_ie c5003 hf
      refine lv_aload_n hx hb dX12_both_14 rfl (lv_at hl 0 rfl) ?_
      refine lv_dup hx hb dX12_both_15 rfl ?_
      refine c_get hx hb hts i_X12_both_X12 hown hK hP 0 tM0 rfl 11 (by decide) (hts _ (List.mem_of_getElem? (i := 1) rfl)) (fun _ h9 => h9) rfl (v := .int (g.1 0 11)) rfl dX12_both_16 ?_
      refine lv_iconst (v := (1 : Int32)) hx hb dX12_both_19 (by decide) ?_
      refine lv_iadd hx hb dX12_both_20 ?_
      obtain ⟨v5005, ev5005, hf⟩ := c_letE hf
      refine c_topi ev5005 ?_
      obtain ⟨g5006, eg5006, hf⟩ := c_letE hf
      refine c_put hx hb hts i_X12_both_X12 tyX12 tyX12_ok nmX12 hown hK hP hD hS 0 tM0 rfl 11 (by decide) (hts _ (List.mem_of_getElem? (i := 1) rfl)) (fun _ h9 => h9) rfl (ty := .int) (by decide +kernel) rfl rfl rfl eg5006 dX12_both_21 (fun H locs hP hS => ?_)
      refine lv_aload_n hx hb dX12_both_24 rfl (lv_at hl 0 rfl) ?_
      obtain ⟨g5008, r5009, hc5007, hf⟩ := c_b2E hf
      refine c_goi (va_runV (As := []) (rest := []) ⟨hx, hb, hml, hown, hts⟩ (hF2 hc5007) (cwV 0 hts gX12_both_X12_factor rfl rfl rfl (by decide +kernel) ⟨by simp only [c_rm]; omega, by simp only [c_rm]; omega⟩) (c_preV hK hP hE hS tM0 rfl) rfl rfl hl.1 rfl (lv_room (Nat.le_of_ble_eq_true rfl)) dX12_both_25 ⟨Nat.zero_le _, Nat.zero_le _⟩) hS (fun H locs hP hS => ?_)
      refine lv_istore_n (lv' := [(2, .int r5009), (0, .ref (ad 0)), (1, .int x1)]) hx hb dX12_both_28 rfl hl (by decide) rfl (fun ls hl => ?_)
      refine lv_iload_n hx hb dX12_both_29 rfl (lv_at hl 2 rfl) ?_
      refine lv_if_eq (tgt := 41) hx hb dX12_both_30 (by decide) (fun c5010 => ?_) (fun c5010 => ?_)
      · have hf := c_it c5010 hf
        exact jX12_both_41 C hD hF0 hF1 hF2 ih g5008 hf _ _ hP hS _ (lv_sub hl [1] rfl)
      · have hf := c_ie c5010 hf
        refine lv_iload_n hx hb dX12_both_33 rfl (lv_at hl 0 rfl) ?_
        refine lv_if_eq (tgt := 41) hx hb dX12_both_34 (by decide) (fun c5011 => ?_) (fun c5011 => ?_)
        · have hf := c_it c5011 hf
          exact jX12_both_41 C hD hF0 hF1 hF2 ih g5008 hf _ _ hP hS _ (lv_sub hl [1] rfl)
        · have hf := c_ie c5011 hf
          refine lv_iconst (v := (1 : Int32)) hx hb dX12_both_37 (by decide) ?_
          refine lv_goto (tgt := 42) hx hb dX12_both_38 (by decide) ?_
          exact jX12_both_42 C hD hF0 hF1 hF2 ih ((1 : Int32)) g5008 hf _ _ hP hS _ (lv_sub hl [1] rfl)
def fX12_both (F : Nat → c_G → Option (c_G × Int32)) (g : c_G)  : Option (c_G × Int32) :=
  c_b2 (F 2 g ) fun g2 r3 => fX12_both_5 F c_F r3 g2
set_option maxRecDepth 100000 in
set_option maxHeartbeats 4000000 in
theorem kX12_both {l : Launch} {D : va_G} {tc : Nat → ClassId} {ad : Nat → Nat} {A : Nat → Prop} {E : (Nat → Nat) × (Nat → Nat) × Nat} {F : Nat → c_G → Option (c_G × Int32)} {dd : Nat} (hF0 : ∀ {g g' : c_G}  {r : Int32}, F 0 g  = some (g', r) → c_Mi l yX12_any wsX12_any (c_rm (3 + dd)) D tc ad A E TM [.ref (ad 0)] g g' r) (hF1 : ∀ {g g' : c_G}  {r : Int32}, F 1 g  = some (g', r) → c_Mi l yX12_both wsX12_both (c_rm (3 + dd)) D tc ad A E TM [.ref (ad 0)] g g' r) (hF2 : ∀ {g g' : c_G}  {r : Int32}, F 2 g  = some (g', r) → c_Mi l yX12_factor wsX12_factor (c_rm (3 + dd)) D tc ad A E TM [.ref (ad 0)] g g' r) (hD : c_D A ad TM)  {g g' : c_G} {r : Int32} (hf : fX12_both F g  = some (g', r)) : c_Mi l yX12_both wsX12_both (c_rm (3 + dd + 1)) D tc ad A E TM ([.ref (ad 0)] : List Value) g g' r := by
  refine c_ofW (bytes := cX12_both) (maxL := 3) (ret := (some .boolean)) (by decide) rfl (Nat.le_of_ble_eq_true rfl) ?_
  intro p e s m below meth c ls C hP hS hl
  unfold fX12_both at hf
  obtain ⟨hx, hb, hr, hml, hts, hown, hlk, hK, hE⟩ := id C
  have hl : lv_has ls 3 [(0, .ref (ad 0))] := hl
  refine lv_aload_n hx hb dX12_both_0 rfl (lv_at hl 0 rfl) ?_
  obtain ⟨g2, r3, hc1, hf⟩ := c_b2E hf
  refine c_goi (va_runV (As := []) (rest := []) ⟨hx, hb, hml, hown, hts⟩ (hF2 hc1) (cwV 0 hts gX12_both_X12_factor rfl rfl rfl (by decide +kernel) ⟨by simp only [c_rm]; omega, by simp only [c_rm]; omega⟩) (c_preV hK hP hE hS tM0 rfl) rfl rfl hl.1 rfl (lv_room (Nat.le_of_ble_eq_true rfl)) dX12_both_1 ⟨Nat.zero_le _, Nat.zero_le _⟩) hS (fun H locs hP hS => ?_)
  refine lv_istore_n (lv' := [(1, .int r3), (0, .ref (ad 0))]) hx hb dX12_both_4 rfl hl (by decide) rfl (fun ls hl => ?_)
  exact jX12_both_5 C hD hF0 hF1 hF2 c_F r3 g2 hf _ _ hP hS _ (lv_sub hl [1, 0] rfl)
theorem i_X12_factor_X12 : ∀ w ∈ u_ws RX12 TX12 32, w ∈ wsX12_factor := c_inP [40, 41, 42, 43, 44, 45, 46, 47, 48, 49, 50, 51, 52, 53, 54, 55, 56, 57, 58, 59, 60, 61, 62, 63, 64, 65, 66, 67, 68, 69, 70, 71] (by decide +kernel)
theorem dX12_factor_0 : decode cX12_factor 0 = .ok (.aload_n 0, 1) := by decide +kernel
theorem dX12_factor_1 : decode cX12_factor 1 = .ok (.getfield 164, 3) := by decide +kernel
theorem dX12_factor_4 : decode cX12_factor 4 = .ok (.iconst 4, 1) := by decide +kernel
theorem dX12_factor_5 : decode cX12_factor 5 = .ok (.if_icmp .ge 58, 3) := by decide +kernel
theorem dX12_factor_8 : decode cX12_factor 8 = .ok (.aload_n 0, 1) := by decide +kernel
theorem dX12_factor_9 : decode cX12_factor 9 = .ok (.bipush 33, 2) := by decide +kernel
theorem dX12_factor_11 : decode cX12_factor 11 = .ok (.invokevirtual 150, 3) := by decide +kernel
theorem dX12_factor_14 : decode cX12_factor 14 = .ok (.ifCond .eq 49, 3) := by decide +kernel
theorem dX12_factor_17 : decode cX12_factor 17 = .ok (.aload_n 0, 1) := by decide +kernel
theorem dX12_factor_18 : decode cX12_factor 18 = .ok (.dup, 1) := by decide +kernel
theorem dX12_factor_19 : decode cX12_factor 19 = .ok (.getfield 144, 3) := by decide +kernel
theorem dX12_factor_22 : decode cX12_factor 22 = .ok (.iconst 1, 1) := by decide +kernel
theorem dX12_factor_23 : decode cX12_factor 23 = .ok (.iadd, 1) := by decide +kernel
theorem dX12_factor_24 : decode cX12_factor 24 = .ok (.putfield 144, 3) := by decide +kernel
theorem dX12_factor_27 : decode cX12_factor 27 = .ok (.aload_n 0, 1) := by decide +kernel
theorem dX12_factor_28 : decode cX12_factor 28 = .ok (.dup, 1) := by decide +kernel
theorem dX12_factor_29 : decode cX12_factor 29 = .ok (.getfield 164, 3) := by decide +kernel
theorem dX12_factor_32 : decode cX12_factor 32 = .ok (.iconst 1, 1) := by decide +kernel
theorem dX12_factor_33 : decode cX12_factor 33 = .ok (.iadd, 1) := by decide +kernel
theorem dX12_factor_34 : decode cX12_factor 34 = .ok (.putfield 164, 3) := by decide +kernel
theorem dX12_factor_37 : decode cX12_factor 37 = .ok (.aload_n 0, 1) := by decide +kernel
theorem dX12_factor_38 : decode cX12_factor 38 = .ok (.invokevirtual 167, 3) := by decide +kernel
theorem dX12_factor_41 : decode cX12_factor 41 = .ok (.ifCond .ne 7, 3) := by decide +kernel
theorem dX12_factor_44 : decode cX12_factor 44 = .ok (.iconst 1, 1) := by decide +kernel
theorem dX12_factor_45 : decode cX12_factor 45 = .ok (.goto 4, 3) := by decide +kernel
theorem dX12_factor_48 : decode cX12_factor 48 = .ok (.iconst 0, 1) := by decide +kernel
theorem dX12_factor_49 : decode cX12_factor 49 = .ok (.istore_n 1, 1) := by decide +kernel
theorem dX12_factor_50 : decode cX12_factor 50 = .ok (.aload_n 0, 1) := by decide +kernel
theorem dX12_factor_51 : decode cX12_factor 51 = .ok (.dup, 1) := by decide +kernel
theorem dX12_factor_52 : decode cX12_factor 52 = .ok (.getfield 164, 3) := by decide +kernel
theorem dX12_factor_55 : decode cX12_factor 55 = .ok (.iconst 1, 1) := by decide +kernel
theorem dX12_factor_56 : decode cX12_factor 56 = .ok (.isub, 1) := by decide +kernel
theorem dX12_factor_57 : decode cX12_factor 57 = .ok (.putfield 164, 3) := by decide +kernel
theorem dX12_factor_60 : decode cX12_factor 60 = .ok (.goto 69, 3) := by decide +kernel
theorem dX12_factor_63 : decode cX12_factor 63 = .ok (.aload_n 0, 1) := by decide +kernel
theorem dX12_factor_64 : decode cX12_factor 64 = .ok (.getfield 164, 3) := by decide +kernel
theorem dX12_factor_67 : decode cX12_factor 67 = .ok (.iconst 4, 1) := by decide +kernel
theorem dX12_factor_68 : decode cX12_factor 68 = .ok (.if_icmp .ge 56, 3) := by decide +kernel
theorem dX12_factor_71 : decode cX12_factor 71 = .ok (.aload_n 0, 1) := by decide +kernel
theorem dX12_factor_72 : decode cX12_factor 72 = .ok (.bipush 40, 2) := by decide +kernel
theorem dX12_factor_74 : decode cX12_factor 74 = .ok (.invokevirtual 150, 3) := by decide +kernel
theorem dX12_factor_77 : decode cX12_factor 77 = .ok (.ifCond .eq 47, 3) := by decide +kernel
theorem dX12_factor_80 : decode cX12_factor 80 = .ok (.aload_n 0, 1) := by decide +kernel
theorem dX12_factor_81 : decode cX12_factor 81 = .ok (.dup, 1) := by decide +kernel
theorem dX12_factor_82 : decode cX12_factor 82 = .ok (.getfield 144, 3) := by decide +kernel
theorem dX12_factor_85 : decode cX12_factor 85 = .ok (.iconst 1, 1) := by decide +kernel
theorem dX12_factor_86 : decode cX12_factor 86 = .ok (.iadd, 1) := by decide +kernel
theorem dX12_factor_87 : decode cX12_factor 87 = .ok (.putfield 144, 3) := by decide +kernel
theorem dX12_factor_90 : decode cX12_factor 90 = .ok (.aload_n 0, 1) := by decide +kernel
theorem dX12_factor_91 : decode cX12_factor 91 = .ok (.dup, 1) := by decide +kernel
theorem dX12_factor_92 : decode cX12_factor 92 = .ok (.getfield 164, 3) := by decide +kernel
theorem dX12_factor_95 : decode cX12_factor 95 = .ok (.iconst 1, 1) := by decide +kernel
theorem dX12_factor_96 : decode cX12_factor 96 = .ok (.iadd, 1) := by decide +kernel
theorem dX12_factor_97 : decode cX12_factor 97 = .ok (.putfield 164, 3) := by decide +kernel
theorem dX12_factor_100 : decode cX12_factor 100 = .ok (.aload_n 0, 1) := by decide +kernel
theorem dX12_factor_101 : decode cX12_factor 101 = .ok (.invokevirtual 170, 3) := by decide +kernel
theorem dX12_factor_104 : decode cX12_factor 104 = .ok (.istore_n 1, 1) := by decide +kernel
theorem dX12_factor_105 : decode cX12_factor 105 = .ok (.aload_n 0, 1) := by decide +kernel
theorem dX12_factor_106 : decode cX12_factor 106 = .ok (.dup, 1) := by decide +kernel
theorem dX12_factor_107 : decode cX12_factor 107 = .ok (.getfield 164, 3) := by decide +kernel
theorem dX12_factor_110 : decode cX12_factor 110 = .ok (.iconst 1, 1) := by decide +kernel
theorem dX12_factor_111 : decode cX12_factor 111 = .ok (.isub, 1) := by decide +kernel
theorem dX12_factor_112 : decode cX12_factor 112 = .ok (.putfield 164, 3) := by decide +kernel
theorem dX12_factor_115 : decode cX12_factor 115 = .ok (.aload_n 0, 1) := by decide +kernel
theorem dX12_factor_116 : decode cX12_factor 116 = .ok (.bipush 41, 2) := by decide +kernel
theorem dX12_factor_118 : decode cX12_factor 118 = .ok (.invokevirtual 157, 3) := by decide +kernel
theorem dX12_factor_121 : decode cX12_factor 121 = .ok (.goto 8, 3) := by decide +kernel
theorem dX12_factor_124 : decode cX12_factor 124 = .ok (.aload_n 0, 1) := by decide +kernel
theorem dX12_factor_125 : decode cX12_factor 125 = .ok (.invokevirtual 173, 3) := by decide +kernel
theorem dX12_factor_128 : decode cX12_factor 128 = .ok (.istore_n 1, 1) := by decide +kernel
theorem dX12_factor_129 : decode cX12_factor 129 = .ok (.iload_n 1, 1) := by decide +kernel
theorem dX12_factor_130 : decode cX12_factor 130 = .ok (.ireturn, 1) := by decide +kernel
set_option maxRecDepth 20000 in
theorem ggX12_factor_X12_isAt : GoodIn wsX12_factor wsX12_isAt := goodIn_r _ [7, 8, 2, 9, 10, 40, 41, 42, 43, 44, 45, 46, 47, 48, 49, 50, 51, 52, 53, 54, 55, 56, 57, 58, 59, 60, 61, 62, 63, 64, 65, 66, 67, 68, 69, 70, 71] (by decide +kernel) (by decide +kernel)
set_option maxRecDepth 20000 in
theorem gX12_factor_X12_isAt : GoodIn wsX12_factor (wsV RX12 150 RX12 yX12_isAt wsX12_isAt) := goodIn_app (goodIn_of _ (by decide +kernel)) ggX12_factor_X12_isAt
set_option maxRecDepth 20000 in
theorem ggX12_factor_X12_factor : GoodIn wsX12_factor wsX12_factor := goodIn_r _ [0, 1, 2, 3, 4, 5, 6, 7, 8, 9, 10, 11, 12, 13, 14, 15, 16, 17, 18, 19, 20, 21, 22, 23, 24, 25, 26, 27, 28, 29, 30, 31, 32, 33, 34, 35, 36, 37, 38, 39, 40, 41, 42, 43, 44, 45, 46, 47, 48, 49, 50, 51, 52, 53, 54, 55, 56, 57, 58, 59, 60, 61, 62, 63, 64, 65, 66, 67, 68, 69, 70, 71] (by decide +kernel) (by decide +kernel)
set_option maxRecDepth 20000 in
theorem gX12_factor_X12_factor : GoodIn wsX12_factor (wsV RX12 167 RX12 yX12_factor wsX12_factor) := goodIn_app (goodIn_of _ (by decide +kernel)) ggX12_factor_X12_factor
set_option maxRecDepth 20000 in
theorem ggX12_factor_X12_any : GoodIn wsX12_factor wsX12_any := goodIn_r _ [35, 2, 36, 37, 38, 6, 3, 4, 5, 7, 8, 9, 10, 39, 11, 12, 13, 0, 1, 14, 15, 16, 17, 18, 19, 20, 21, 22, 23, 24, 25, 26, 27, 28, 29, 30, 31, 32, 33, 34, 40, 41, 42, 43, 44, 45, 46, 47, 48, 49, 50, 51, 52, 53, 54, 55, 56, 57, 58, 59, 60, 61, 62, 63, 64, 65, 66, 67, 68, 69, 70, 71] (by decide +kernel) (by decide +kernel)
set_option maxRecDepth 20000 in
theorem gX12_factor_X12_any : GoodIn wsX12_factor (wsV RX12 170 RX12 yX12_any wsX12_any) := goodIn_app (goodIn_of _ (by decide +kernel)) ggX12_factor_X12_any
set_option maxRecDepth 20000 in
theorem ggX12_factor_X12_takes : GoodIn wsX12_factor wsX12_takes := goodIn_r _ [20, 2, 8, 3, 4, 5, 6, 7, 9, 10, 40, 41, 42, 43, 44, 45, 46, 47, 48, 49, 50, 51, 52, 53, 54, 55, 56, 57, 58, 59, 60, 61, 62, 63, 64, 65, 66, 67, 68, 69, 70, 71] (by decide +kernel) (by decide +kernel)
set_option maxRecDepth 20000 in
theorem gX12_factor_X12_takes : GoodIn wsX12_factor (wsV RX12 157 RX12 yX12_takes wsX12_takes) := goodIn_app (goodIn_of _ (by decide +kernel)) ggX12_factor_X12_takes
set_option maxRecDepth 20000 in
theorem ggX12_factor_X12_test : GoodIn wsX12_factor wsX12_test := goodIn_r _ [24, 25, 8, 2, 26, 3, 4, 5, 6, 7, 9, 10, 17, 18, 19, 20, 27, 28, 29, 30, 31, 32, 33, 34, 40, 41, 42, 43, 44, 45, 46, 47, 48, 49, 50, 51, 52, 53, 54, 55, 56, 57, 58, 59, 60, 61, 62, 63, 64, 65, 66, 67, 68, 69, 70, 71] (by decide +kernel) (by decide +kernel)
set_option maxRecDepth 20000 in
theorem gX12_factor_X12_test : GoodIn wsX12_factor (wsV RX12 173 RX12 yX12_test wsX12_test) := goodIn_app (goodIn_of _ (by decide +kernel)) ggX12_factor_X12_test
def fX12_factor_124 (F : Nat → c_G → Option (c_G × Int32))    (g : c_G) : Option (c_G × Int32) :=
  c_b2 (fX12_test g) fun g124002 r124003 => if c_bo r124003 = true then some (g124002, r124003) else none
set_option maxRecDepth 100000 in
set_option maxHeartbeats 4000000 in
theorem jX12_factor_124 {p : Program} {l : Launch} {e : Env} {s : State} {m : MethodId} {below : List Frame} {meth : Method} {c : Code} {D : va_G} {tc : Nat → ClassId} {ad : Nat → Nat} {A : Nat → Prop} {E : (Nat → Nat) × (Nat → Nat) × Nat} {F : Nat → c_G → Option (c_G × Int32)} {dd : Nat} {g' : c_G} {r : Int32} (C : c_C p s m meth c D tc A E RX12 wsX12_factor cX12_factor 2 (some .boolean) ([.ref (ad 0)] : List Value).toArray) (hD : c_D A ad TM) (hF0 : ∀ {g g' : c_G}  {r : Int32}, F 0 g  = some (g', r) → c_Mi l yX12_any wsX12_any (c_rm (3 + dd)) D tc ad A E TM [.ref (ad 0)] g g' r) (hF1 : ∀ {g g' : c_G}  {r : Int32}, F 1 g  = some (g', r) → c_Mi l yX12_both wsX12_both (c_rm (3 + dd)) D tc ad A E TM [.ref (ad 0)] g g' r) (hF2 : ∀ {g g' : c_G}  {r : Int32}, F 2 g  = some (g', r) → c_Mi l yX12_factor wsX12_factor (c_rm (3 + dd)) D tc ad A E TM [.ref (ad 0)] g g' r)  : ∀  (g : c_G), fX12_factor_124 F g = some (g', r) → ∀ (H : Heap) (locs : List Loc), va_P D vwCl (c_ws tc ad TM g) H → va_S A s.heap H locs → ∀ ls : Array Slot, lv_has ls 2 [(0, .ref (ad 0))] → W p l e (c_rm (3 + dd + 1)) s m ([.ref (ad 0)] : List Value).toArray below meth c H locs 0 0 (MQ below (va_Qi (fun (x : Int32) (_ : Unit) => x = r) (fun _ t => va_P D vwCl (c_ws tc ad TM g') t.heap) A) ([.ref (ad 0)] : List Value).toArray s 0 0 A) (F0 m 124 ls []) := by
  obtain ⟨hx, hb, hr, hml, hts, hown, hlk, hK, hE⟩ := id C
  intro  g hf H locs hP hS ls hl
  unfold fX12_factor_124 at hf
  refine lv_aload_n hx hb dX12_factor_124 rfl (lv_at hl 0 rfl) ?_
  obtain ⟨g124002, r124003, hc124001, hf⟩ := c_b2E hf
  refine c_goi (va_runV (As := []) (rest := []) ⟨hx, hb, hml, hown, hts⟩ (kX12_test hD hc124001) (cwV 0 hts gX12_factor_X12_test rfl rfl rfl (by decide +kernel) ⟨by simp only [c_rm]; omega, by simp only [c_rm]; omega⟩) (c_preV hK hP hE hS tM0 rfl) rfl rfl hl.1 rfl (lv_room (Nat.le_of_ble_eq_true rfl)) dX12_factor_125 ⟨Nat.zero_le _, Nat.zero_le _⟩) hS (fun H locs hP hS => ?_)
  refine lv_istore_n (lv' := [(1, .int r124003), (0, .ref (ad 0))]) hx hb dX12_factor_128 rfl hl (by decide) rfl (fun ls hl => ?_)
  refine lv_iload_n hx hb dX12_factor_129 rfl (lv_at hl 0 rfl) ?_
  obtain ⟨hb124004, hf⟩ := c_gd hf
  exact c_iret hx hb hr hlk hP hS (c_boE hb124004) (c_inj hf) dX12_factor_130
def fX12_factor_63 (F : Nat → c_G → Option (c_G × Int32))    (g : c_G) : Option (c_G × Int32) :=
  if (4 : Int32) ≤ (g.1 0 13) then (fX12_factor_124 F g) else ((fX12_isAt g ((40 : Int32))).bind fun r63002 => if r63002 = 0 then (fX12_factor_124 F g) else (c_let (((g.1 0 11) + (1 : Int32))) fun v63005 => c_let (c_si g 0 11 v63005) fun g63006 => c_let (((g63006.1 0 13) + (1 : Int32))) fun v63007 => c_let (c_si g63006 0 13 v63007) fun g63008 => c_b2 (F 0 g63008 ) fun g63010 r63011 => c_let (((g63010.1 0 13) - (1 : Int32))) fun v63012 => c_let (c_si g63010 0 13 v63012) fun g63013 => (fX12_takes g63013 ((41 : Int32))).bind fun g63015 => if c_bo r63011 = true then some (g63015, r63011) else none))
set_option maxRecDepth 100000 in
set_option maxHeartbeats 4000000 in
theorem jX12_factor_63 {p : Program} {l : Launch} {e : Env} {s : State} {m : MethodId} {below : List Frame} {meth : Method} {c : Code} {D : va_G} {tc : Nat → ClassId} {ad : Nat → Nat} {A : Nat → Prop} {E : (Nat → Nat) × (Nat → Nat) × Nat} {F : Nat → c_G → Option (c_G × Int32)} {dd : Nat} {g' : c_G} {r : Int32} (C : c_C p s m meth c D tc A E RX12 wsX12_factor cX12_factor 2 (some .boolean) ([.ref (ad 0)] : List Value).toArray) (hD : c_D A ad TM) (hF0 : ∀ {g g' : c_G}  {r : Int32}, F 0 g  = some (g', r) → c_Mi l yX12_any wsX12_any (c_rm (3 + dd)) D tc ad A E TM [.ref (ad 0)] g g' r) (hF1 : ∀ {g g' : c_G}  {r : Int32}, F 1 g  = some (g', r) → c_Mi l yX12_both wsX12_both (c_rm (3 + dd)) D tc ad A E TM [.ref (ad 0)] g g' r) (hF2 : ∀ {g g' : c_G}  {r : Int32}, F 2 g  = some (g', r) → c_Mi l yX12_factor wsX12_factor (c_rm (3 + dd)) D tc ad A E TM [.ref (ad 0)] g g' r)  : ∀  (g : c_G), fX12_factor_63 F g = some (g', r) → ∀ (H : Heap) (locs : List Loc), va_P D vwCl (c_ws tc ad TM g) H → va_S A s.heap H locs → ∀ ls : Array Slot, lv_has ls 2 [(0, .ref (ad 0))] → W p l e (c_rm (3 + dd + 1)) s m ([.ref (ad 0)] : List Value).toArray below meth c H locs 0 0 (MQ below (va_Qi (fun (x : Int32) (_ : Unit) => x = r) (fun _ t => va_P D vwCl (c_ws tc ad TM g') t.heap) A) ([.ref (ad 0)] : List Value).toArray s 0 0 A) (F0 m 63 ls []) := by
  obtain ⟨hx, hb, hr, hml, hts, hown, hlk, hK, hE⟩ := id C
  intro  g hf H locs hP hS ls hl
  unfold fX12_factor_63 at hf
  refine lv_aload_n hx hb dX12_factor_63 rfl (lv_at hl 0 rfl) ?_
  refine c_get hx hb hts i_X12_factor_X12 hown hK hP 0 tM0 rfl 13 (by decide) (hts _ (List.mem_of_getElem? (i := 1) rfl)) (fun _ h9 => h9) rfl (v := .int (g.1 0 13)) rfl dX12_factor_64 ?_
  refine lv_iconst (v := (4 : Int32)) hx hb dX12_factor_67 (by decide) ?_
  refine lv_icmp_ge (tgt := 124) hx hb dX12_factor_68 (by decide) (fun c63001 => ?_) (fun c63001 => ?_)
  · have hf := c_it c63001 hf
    exact jX12_factor_124 C hD hF0 hF1 hF2 g hf _ _ hP hS _ (lv_sub hl [0] rfl)
  · have hf := c_ie c63001 hf
    refine lv_aload_n hx hb dX12_factor_71 rfl (lv_at hl 0 rfl) ?_
    refine lv_bipush (v := (40 : Int32)) hx hb dX12_factor_72 (by decide) ?_
    obtain ⟨r63002, hc63003, hf⟩ := c_bd hf
    refine c_goi (va_runV (As := [.int (40 : Int32)]) (rest := []) ⟨hx, hb, hml, hown, hts⟩ (kX12_isAt hD hc63003) (cwV 1 hts gX12_factor_X12_isAt rfl rfl rfl (by decide +kernel) ⟨by simp only [c_rm]; omega, by simp only [c_rm]; omega⟩) (c_preV hK hP hE hS tM0 rfl) rfl rfl hl.1 rfl (lv_room (Nat.le_of_ble_eq_true rfl)) dX12_factor_74 ⟨Nat.zero_le _, Nat.zero_le _⟩) hS (fun H locs hP hS => ?_)
    refine lv_if_eq (tgt := 124) hx hb dX12_factor_77 (by decide) (fun c63004 => ?_) (fun c63004 => ?_)
    · have hf := c_it c63004 hf
      exact jX12_factor_124 C hD hF0 hF1 hF2 g hf _ _ hP hS _ (lv_sub hl [0] rfl)
    · have hf := c_ie c63004 hf
      refine lv_aload_n hx hb dX12_factor_80 rfl (lv_at hl 0 rfl) ?_
      refine lv_dup hx hb dX12_factor_81 rfl ?_
      refine c_get hx hb hts i_X12_factor_X12 hown hK hP 0 tM0 rfl 11 (by decide) (hts _ (List.mem_of_getElem? (i := 2) rfl)) (fun _ h9 => h9) rfl (v := .int (g.1 0 11)) rfl dX12_factor_82 ?_
      refine lv_iconst (v := (1 : Int32)) hx hb dX12_factor_85 (by decide) ?_
      refine lv_iadd hx hb dX12_factor_86 ?_
      obtain ⟨v63005, ev63005, hf⟩ := c_letE hf
      refine c_topi ev63005 ?_
      obtain ⟨g63006, eg63006, hf⟩ := c_letE hf
      refine c_put hx hb hts i_X12_factor_X12 tyX12 tyX12_ok nmX12 hown hK hP hD hS 0 tM0 rfl 11 (by decide) (hts _ (List.mem_of_getElem? (i := 2) rfl)) (fun _ h9 => h9) rfl (ty := .int) (by decide +kernel) rfl rfl rfl eg63006 dX12_factor_87 (fun H locs hP hS => ?_)
      refine lv_aload_n hx hb dX12_factor_90 rfl (lv_at hl 0 rfl) ?_
      refine lv_dup hx hb dX12_factor_91 rfl ?_
      refine c_get hx hb hts i_X12_factor_X12 hown hK hP 0 tM0 rfl 13 (by decide) (hts _ (List.mem_of_getElem? (i := 1) rfl)) (fun _ h9 => h9) rfl (v := .int (g63006.1 0 13)) rfl dX12_factor_92 ?_
      refine lv_iconst (v := (1 : Int32)) hx hb dX12_factor_95 (by decide) ?_
      refine lv_iadd hx hb dX12_factor_96 ?_
      obtain ⟨v63007, ev63007, hf⟩ := c_letE hf
      refine c_topi ev63007 ?_
      obtain ⟨g63008, eg63008, hf⟩ := c_letE hf
      refine c_put hx hb hts i_X12_factor_X12 tyX12 tyX12_ok nmX12 hown hK hP hD hS 0 tM0 rfl 13 (by decide) (hts _ (List.mem_of_getElem? (i := 1) rfl)) (fun _ h9 => h9) rfl (ty := .int) (by decide +kernel) rfl rfl rfl eg63008 dX12_factor_97 (fun H locs hP hS => ?_)
      refine lv_aload_n hx hb dX12_factor_100 rfl (lv_at hl 0 rfl) ?_
      obtain ⟨g63010, r63011, hc63009, hf⟩ := c_b2E hf
      refine c_goi (va_runV (As := []) (rest := []) ⟨hx, hb, hml, hown, hts⟩ (hF0 hc63009) (cwV 0 hts gX12_factor_X12_any rfl rfl rfl (by decide +kernel) ⟨by simp only [c_rm]; omega, by simp only [c_rm]; omega⟩) (c_preV hK hP hE hS tM0 rfl) rfl rfl hl.1 rfl (lv_room (Nat.le_of_ble_eq_true rfl)) dX12_factor_101 ⟨Nat.zero_le _, Nat.zero_le _⟩) hS (fun H locs hP hS => ?_)
      refine lv_istore_n (lv' := [(1, .int r63011), (0, .ref (ad 0))]) hx hb dX12_factor_104 rfl hl (by decide) rfl (fun ls hl => ?_)
      refine lv_aload_n hx hb dX12_factor_105 rfl (lv_at hl 1 rfl) ?_
      refine lv_dup hx hb dX12_factor_106 rfl ?_
      refine c_get hx hb hts i_X12_factor_X12 hown hK hP 0 tM0 rfl 13 (by decide) (hts _ (List.mem_of_getElem? (i := 1) rfl)) (fun _ h9 => h9) rfl (v := .int (g63010.1 0 13)) rfl dX12_factor_107 ?_
      refine lv_iconst (v := (1 : Int32)) hx hb dX12_factor_110 (by decide) ?_
      refine lv_isub hx hb dX12_factor_111 ?_
      obtain ⟨v63012, ev63012, hf⟩ := c_letE hf
      refine c_topi ev63012 ?_
      obtain ⟨g63013, eg63013, hf⟩ := c_letE hf
      refine c_put hx hb hts i_X12_factor_X12 tyX12 tyX12_ok nmX12 hown hK hP hD hS 0 tM0 rfl 13 (by decide) (hts _ (List.mem_of_getElem? (i := 1) rfl)) (fun _ h9 => h9) rfl (ty := .int) (by decide +kernel) rfl rfl rfl eg63013 dX12_factor_112 (fun H locs hP hS => ?_)
      refine lv_aload_n hx hb dX12_factor_115 rfl (lv_at hl 1 rfl) ?_
      refine lv_bipush (v := (41 : Int32)) hx hb dX12_factor_116 (by decide) ?_
      obtain ⟨g63015, hc63014, hf⟩ := c_bd hf
      refine c_gov (va_runV (As := [.int (41 : Int32)]) (rest := []) ⟨hx, hb, hml, hown, hts⟩ (kX12_takes hD hc63014) (cwV 1 hts gX12_factor_X12_takes rfl rfl rfl (by decide +kernel) ⟨by simp only [c_rm]; omega, by simp only [c_rm]; omega⟩) (c_preV hK hP hE hS tM0 rfl) rfl rfl hl.1 rfl (lv_room (Nat.le_of_ble_eq_true rfl)) dX12_factor_118 ⟨Nat.zero_le _, Nat.zero_le _⟩) hS (fun H locs hP hS => ?_)
      refine lv_goto (tgt := 129) hx hb dX12_factor_121 (by decide) ?_
      refine lv_iload_n hx hb dX12_factor_129 rfl (lv_at hl 0 rfl) ?_
      obtain ⟨hb63016, hf⟩ := c_gd hf
      exact c_iret hx hb hr hlk hP hS (c_boE hb63016) (c_inj hf) dX12_factor_130
def fX12_factor_49 (F : Nat → c_G → Option (c_G × Int32))   (y0 : Int32) (g : c_G) : Option (c_G × Int32) :=
  c_let (((g.1 0 13) - (1 : Int32))) fun v49001 => c_let (c_si g 0 13 v49001) fun g49002 => if c_bo y0 = true then some (g49002, y0) else none
set_option maxRecDepth 100000 in
set_option maxHeartbeats 4000000 in
theorem jX12_factor_49 {p : Program} {l : Launch} {e : Env} {s : State} {m : MethodId} {below : List Frame} {meth : Method} {c : Code} {D : va_G} {tc : Nat → ClassId} {ad : Nat → Nat} {A : Nat → Prop} {E : (Nat → Nat) × (Nat → Nat) × Nat} {F : Nat → c_G → Option (c_G × Int32)} {dd : Nat} {g' : c_G} {r : Int32} (C : c_C p s m meth c D tc A E RX12 wsX12_factor cX12_factor 2 (some .boolean) ([.ref (ad 0)] : List Value).toArray) (hD : c_D A ad TM) (hF0 : ∀ {g g' : c_G}  {r : Int32}, F 0 g  = some (g', r) → c_Mi l yX12_any wsX12_any (c_rm (3 + dd)) D tc ad A E TM [.ref (ad 0)] g g' r) (hF1 : ∀ {g g' : c_G}  {r : Int32}, F 1 g  = some (g', r) → c_Mi l yX12_both wsX12_both (c_rm (3 + dd)) D tc ad A E TM [.ref (ad 0)] g g' r) (hF2 : ∀ {g g' : c_G}  {r : Int32}, F 2 g  = some (g', r) → c_Mi l yX12_factor wsX12_factor (c_rm (3 + dd)) D tc ad A E TM [.ref (ad 0)] g g' r)  : ∀ (y0 : Int32) (g : c_G), fX12_factor_49 F y0 g = some (g', r) → ∀ (H : Heap) (locs : List Loc), va_P D vwCl (c_ws tc ad TM g) H → va_S A s.heap H locs → ∀ ls : Array Slot, lv_has ls 2 [(0, .ref (ad 0))] → W p l e (c_rm (3 + dd + 1)) s m ([.ref (ad 0)] : List Value).toArray below meth c H locs 0 0 (MQ below (va_Qi (fun (x : Int32) (_ : Unit) => x = r) (fun _ t => va_P D vwCl (c_ws tc ad TM g') t.heap) A) ([.ref (ad 0)] : List Value).toArray s 0 0 A) (F0 m 49 ls [.int y0]) := by
  obtain ⟨hx, hb, hr, hml, hts, hown, hlk, hK, hE⟩ := id C
  intro y0 g hf H locs hP hS ls hl
  unfold fX12_factor_49 at hf
  refine lv_istore_n (lv' := [(1, .int y0), (0, .ref (ad 0))]) hx hb dX12_factor_49 rfl hl (by decide) rfl (fun ls hl => ?_)
  refine lv_aload_n hx hb dX12_factor_50 rfl (lv_at hl 1 rfl) ?_
  refine lv_dup hx hb dX12_factor_51 rfl ?_
  refine c_get hx hb hts i_X12_factor_X12 hown hK hP 0 tM0 rfl 13 (by decide) (hts _ (List.mem_of_getElem? (i := 1) rfl)) (fun _ h9 => h9) rfl (v := .int (g.1 0 13)) rfl dX12_factor_52 ?_
  refine lv_iconst (v := (1 : Int32)) hx hb dX12_factor_55 (by decide) ?_
  refine lv_isub hx hb dX12_factor_56 ?_
  obtain ⟨v49001, ev49001, hf⟩ := c_letE hf
  refine c_topi ev49001 ?_
  obtain ⟨g49002, eg49002, hf⟩ := c_letE hf
  refine c_put hx hb hts i_X12_factor_X12 tyX12 tyX12_ok nmX12 hown hK hP hD hS 0 tM0 rfl 13 (by decide) (hts _ (List.mem_of_getElem? (i := 1) rfl)) (fun _ h9 => h9) rfl (ty := .int) (by decide +kernel) rfl rfl rfl eg49002 dX12_factor_57 (fun H locs hP hS => ?_)
  refine lv_goto (tgt := 129) hx hb dX12_factor_60 (by decide) ?_
  refine lv_iload_n hx hb dX12_factor_129 rfl (lv_at hl 0 rfl) ?_
  obtain ⟨hb49003, hf⟩ := c_gd hf
  exact c_iret hx hb hr hlk hP hS (c_boE hb49003) (c_inj hf) dX12_factor_130
def fX12_factor (F : Nat → c_G → Option (c_G × Int32)) (g : c_G)  : Option (c_G × Int32) :=
  if (4 : Int32) ≤ (g.1 0 13) then (fX12_factor_63 F g) else ((fX12_isAt g ((33 : Int32))).bind fun r2 => if r2 = 0 then (fX12_factor_63 F g) else (c_let (((g.1 0 11) + (1 : Int32))) fun v5 => c_let (c_si g 0 11 v5) fun g6 => c_let (((g6.1 0 13) + (1 : Int32))) fun v7 => c_let (c_si g6 0 13 v7) fun g8 => c_b2 (F 2 g8 ) fun g10 r11 => if r11 = 0 then (fX12_factor_49 F ((1 : Int32)) g10) else (fX12_factor_49 F ((0 : Int32)) g10)))
set_option maxRecDepth 100000 in
set_option maxHeartbeats 4000000 in
theorem kX12_factor {l : Launch} {D : va_G} {tc : Nat → ClassId} {ad : Nat → Nat} {A : Nat → Prop} {E : (Nat → Nat) × (Nat → Nat) × Nat} {F : Nat → c_G → Option (c_G × Int32)} {dd : Nat} (hF0 : ∀ {g g' : c_G}  {r : Int32}, F 0 g  = some (g', r) → c_Mi l yX12_any wsX12_any (c_rm (3 + dd)) D tc ad A E TM [.ref (ad 0)] g g' r) (hF1 : ∀ {g g' : c_G}  {r : Int32}, F 1 g  = some (g', r) → c_Mi l yX12_both wsX12_both (c_rm (3 + dd)) D tc ad A E TM [.ref (ad 0)] g g' r) (hF2 : ∀ {g g' : c_G}  {r : Int32}, F 2 g  = some (g', r) → c_Mi l yX12_factor wsX12_factor (c_rm (3 + dd)) D tc ad A E TM [.ref (ad 0)] g g' r) (hD : c_D A ad TM)  {g g' : c_G} {r : Int32} (hf : fX12_factor F g  = some (g', r)) : c_Mi l yX12_factor wsX12_factor (c_rm (3 + dd + 1)) D tc ad A E TM ([.ref (ad 0)] : List Value) g g' r := by
  refine c_ofW (bytes := cX12_factor) (maxL := 2) (ret := (some .boolean)) (by decide) rfl (Nat.le_of_ble_eq_true rfl) ?_
  intro p e s m below meth c ls C hP hS hl
  unfold fX12_factor at hf
  obtain ⟨hx, hb, hr, hml, hts, hown, hlk, hK, hE⟩ := id C
  have hl : lv_has ls 2 [(0, .ref (ad 0))] := hl
  refine lv_aload_n hx hb dX12_factor_0 rfl (lv_at hl 0 rfl) ?_
  refine c_get hx hb hts i_X12_factor_X12 hown hK hP 0 tM0 rfl 13 (by decide) (hts _ (List.mem_of_getElem? (i := 1) rfl)) (fun _ h9 => h9) rfl (v := .int (g.1 0 13)) rfl dX12_factor_1 ?_
  refine lv_iconst (v := (4 : Int32)) hx hb dX12_factor_4 (by decide) ?_
  refine lv_icmp_ge (tgt := 63) hx hb dX12_factor_5 (by decide) (fun c1 => ?_) (fun c1 => ?_)
  · have hf := c_it c1 hf
    exact jX12_factor_63 C hD hF0 hF1 hF2 g hf _ _ hP hS _ (lv_sub hl [0] rfl)
  · have hf := c_ie c1 hf
    refine lv_aload_n hx hb dX12_factor_8 rfl (lv_at hl 0 rfl) ?_
    refine lv_bipush (v := (33 : Int32)) hx hb dX12_factor_9 (by decide) ?_
    obtain ⟨r2, hc3, hf⟩ := c_bd hf
    refine c_goi (va_runV (As := [.int (33 : Int32)]) (rest := []) ⟨hx, hb, hml, hown, hts⟩ (kX12_isAt hD hc3) (cwV 1 hts gX12_factor_X12_isAt rfl rfl rfl (by decide +kernel) ⟨by simp only [c_rm]; omega, by simp only [c_rm]; omega⟩) (c_preV hK hP hE hS tM0 rfl) rfl rfl hl.1 rfl (lv_room (Nat.le_of_ble_eq_true rfl)) dX12_factor_11 ⟨Nat.zero_le _, Nat.zero_le _⟩) hS (fun H locs hP hS => ?_)
    refine lv_if_eq (tgt := 63) hx hb dX12_factor_14 (by decide) (fun c4 => ?_) (fun c4 => ?_)
    · have hf := c_it c4 hf
      exact jX12_factor_63 C hD hF0 hF1 hF2 g hf _ _ hP hS _ (lv_sub hl [0] rfl)
    · have hf := c_ie c4 hf
      refine lv_aload_n hx hb dX12_factor_17 rfl (lv_at hl 0 rfl) ?_
      refine lv_dup hx hb dX12_factor_18 rfl ?_
      refine c_get hx hb hts i_X12_factor_X12 hown hK hP 0 tM0 rfl 11 (by decide) (hts _ (List.mem_of_getElem? (i := 2) rfl)) (fun _ h9 => h9) rfl (v := .int (g.1 0 11)) rfl dX12_factor_19 ?_
      refine lv_iconst (v := (1 : Int32)) hx hb dX12_factor_22 (by decide) ?_
      refine lv_iadd hx hb dX12_factor_23 ?_
      obtain ⟨v5, ev5, hf⟩ := c_letE hf
      refine c_topi ev5 ?_
      obtain ⟨g6, eg6, hf⟩ := c_letE hf
      refine c_put hx hb hts i_X12_factor_X12 tyX12 tyX12_ok nmX12 hown hK hP hD hS 0 tM0 rfl 11 (by decide) (hts _ (List.mem_of_getElem? (i := 2) rfl)) (fun _ h9 => h9) rfl (ty := .int) (by decide +kernel) rfl rfl rfl eg6 dX12_factor_24 (fun H locs hP hS => ?_)
      refine lv_aload_n hx hb dX12_factor_27 rfl (lv_at hl 0 rfl) ?_
      refine lv_dup hx hb dX12_factor_28 rfl ?_
      refine c_get hx hb hts i_X12_factor_X12 hown hK hP 0 tM0 rfl 13 (by decide) (hts _ (List.mem_of_getElem? (i := 1) rfl)) (fun _ h9 => h9) rfl (v := .int (g6.1 0 13)) rfl dX12_factor_29 ?_
      refine lv_iconst (v := (1 : Int32)) hx hb dX12_factor_32 (by decide) ?_
      refine lv_iadd hx hb dX12_factor_33 ?_
      obtain ⟨v7, ev7, hf⟩ := c_letE hf
      refine c_topi ev7 ?_
      obtain ⟨g8, eg8, hf⟩ := c_letE hf
      refine c_put hx hb hts i_X12_factor_X12 tyX12 tyX12_ok nmX12 hown hK hP hD hS 0 tM0 rfl 13 (by decide) (hts _ (List.mem_of_getElem? (i := 1) rfl)) (fun _ h9 => h9) rfl (ty := .int) (by decide +kernel) rfl rfl rfl eg8 dX12_factor_34 (fun H locs hP hS => ?_)
      refine lv_aload_n hx hb dX12_factor_37 rfl (lv_at hl 0 rfl) ?_
      obtain ⟨g10, r11, hc9, hf⟩ := c_b2E hf
      refine c_goi (va_runV (As := []) (rest := []) ⟨hx, hb, hml, hown, hts⟩ (hF2 hc9) (cwV 0 hts gX12_factor_X12_factor rfl rfl rfl (by decide +kernel) ⟨by simp only [c_rm]; omega, by simp only [c_rm]; omega⟩) (c_preV hK hP hE hS tM0 rfl) rfl rfl hl.1 rfl (lv_room (Nat.le_of_ble_eq_true rfl)) dX12_factor_38 ⟨Nat.zero_le _, Nat.zero_le _⟩) hS (fun H locs hP hS => ?_)
      refine lv_if_ne (tgt := 48) hx hb dX12_factor_41 (by decide) (fun c12 => ?_) (fun c12 => ?_)
      · have hf := c_ie c12 hf
        refine lv_iconst (v := (0 : Int32)) hx hb dX12_factor_48 (by decide) ?_
        exact jX12_factor_49 C hD hF0 hF1 hF2 ((0 : Int32)) g10 hf _ _ hP hS _ (lv_sub hl [0] rfl)
      · have hf := c_it c12 hf
        refine lv_iconst (v := (1 : Int32)) hx hb dX12_factor_44 (by decide) ?_
        refine lv_goto (tgt := 49) hx hb dX12_factor_45 (by decide) ?_
        exact jX12_factor_49 C hD hF0 hF1 hF2 ((1 : Int32)) g10 hf _ _ hP hS _ (lv_sub hl [0] rfl)
def fG3 : Nat → Nat → c_G → Option (c_G × Int32)
  | 0, _, _ => none
  | n + 1, t, g => if t = 0 then fX12_any (fG3 n) g  else if t = 1 then fX12_both (fG3 n) g  else if t = 2 then fX12_factor (fG3 n) g  else none
set_option maxRecDepth 100000 in
set_option maxHeartbeats 4000000 in
theorem kG3_all {l : Launch} {D : va_G} {tc : Nat → ClassId} {ad : Nat → Nat} {A : Nat → Prop} {E : (Nat → Nat) × (Nat → Nat) × Nat} (hD : c_D A ad TM) : ∀ n : Nat, (∀ {g g' : c_G}  {r : Int32}, fG3 n 0 g  = some (g', r) → c_Mi l yX12_any wsX12_any (c_rm (3 + n)) D tc ad A E TM [.ref (ad 0)] g g' r) ∧ (∀ {g g' : c_G}  {r : Int32}, fG3 n 1 g  = some (g', r) → c_Mi l yX12_both wsX12_both (c_rm (3 + n)) D tc ad A E TM [.ref (ad 0)] g g' r) ∧ (∀ {g g' : c_G}  {r : Int32}, fG3 n 2 g  = some (g', r) → c_Mi l yX12_factor wsX12_factor (c_rm (3 + n)) D tc ad A E TM [.ref (ad 0)] g g' r) := by
  intro n
  induction n with
  | zero =>
    exact ⟨@fun _ _ _ hf => (by cases hf), @fun _ _ _ hf => (by cases hf), @fun _ _ _ hf => (by cases hf)⟩
  | succ n ih =>
    exact ⟨@fun _ _ _ hf => kX12_any (ih.1) (ih.2.1) (ih.2.2) hD (by have h9 := hf; unfold fG3 at h9; exact c_it rfl h9), @fun _ _ _ hf => kX12_both (ih.1) (ih.2.1) (ih.2.2) hD (by have h9 := hf; unfold fG3 at h9; replace h9 := c_ie (by decide) h9; exact c_it rfl h9), @fun _ _ _ hf => kX12_factor (ih.1) (ih.2.1) (ih.2.2) hD (by have h9 := hf; unfold fG3 at h9; replace h9 := c_ie (by decide) h9; replace h9 := c_ie (by decide) h9; exact c_it rfl h9)⟩
theorem kG3_0 {l : Launch} {D : va_G} {tc : Nat → ClassId} {ad : Nat → Nat} {A : Nat → Prop} {E : (Nat → Nat) × (Nat → Nat) × Nat} (hD : c_D A ad TM) : ∀ {g g' : c_G}  {r : Int32}, fG3 40 0 g  = some (g', r) → c_Mi l yX12_any wsX12_any (c_rm (3 + 40)) D tc ad A E TM [.ref (ad 0)] g g' r := (kG3_all hD 40).1
theorem kG3_1 {l : Launch} {D : va_G} {tc : Nat → ClassId} {ad : Nat → Nat} {A : Nat → Prop} {E : (Nat → Nat) × (Nat → Nat) × Nat} (hD : c_D A ad TM) : ∀ {g g' : c_G}  {r : Int32}, fG3 40 1 g  = some (g', r) → c_Mi l yX12_both wsX12_both (c_rm (3 + 40)) D tc ad A E TM [.ref (ad 0)] g g' r := (kG3_all hD 40).2.1
theorem kG3_2 {l : Launch} {D : va_G} {tc : Nat → ClassId} {ad : Nat → Nat} {A : Nat → Prop} {E : (Nat → Nat) × (Nat → Nat) × Nat} (hD : c_D A ad TM) : ∀ {g g' : c_G}  {r : Int32}, fG3 40 2 g  = some (g', r) → c_Mi l yX12_factor wsX12_factor (c_rm (3 + 40)) D tc ad A E TM [.ref (ad 0)] g g' r := (kG3_all hD 40).2.2
theorem i_X12_clause_X12 : ∀ w ∈ u_ws RX12 TX12 32, w ∈ wsX12_clause := c_inP [45, 46, 47, 48, 49, 50, 51, 52, 53, 54, 55, 56, 57, 58, 59, 60, 61, 62, 63, 64, 65, 66, 67, 68, 69, 70, 71, 72, 73, 74, 75, 76] (by decide +kernel)
theorem dX12_clause_0 : decode cX12_clause 0 = .ok (.iconst (-1), 1) := by decide +kernel
theorem dX12_clause_1 : decode cX12_clause 1 = .ok (.istore_n 1, 1) := by decide +kernel
theorem dX12_clause_2 : decode cX12_clause 2 = .ok (.iconst 0, 1) := by decide +kernel
theorem dX12_clause_3 : decode cX12_clause 3 = .ok (.istore_n 2, 1) := by decide +kernel
theorem dX12_clause_4 : decode cX12_clause 4 = .ok (.iload_n 2, 1) := by decide +kernel
theorem dX12_clause_5 : decode cX12_clause 5 = .ok (.iconst 3, 1) := by decide +kernel
theorem dX12_clause_6 : decode cX12_clause 6 = .ok (.if_icmp .ge 28, 3) := by decide +kernel
theorem dX12_clause_9 : decode cX12_clause 9 = .ok (.aload_n 0, 1) := by decide +kernel
theorem dX12_clause_10 : decode cX12_clause 10 = .ok (.aload_n 0, 1) := by decide +kernel
theorem dX12_clause_11 : decode cX12_clause 11 = .ok (.getfield 44, 3) := by decide +kernel
theorem dX12_clause_14 : decode cX12_clause 14 = .ok (.iload_n 2, 1) := by decide +kernel
theorem dX12_clause_15 : decode cX12_clause 15 = .ok (.caload, 1) := by decide +kernel
theorem dX12_clause_16 : decode cX12_clause 16 = .ok (.invokevirtual 150, 3) := by decide +kernel
theorem dX12_clause_19 : decode cX12_clause 19 = .ok (.ifCond .eq 7, 3) := by decide +kernel
theorem dX12_clause_22 : decode cX12_clause 22 = .ok (.iload_n 2, 1) := by decide +kernel
theorem dX12_clause_23 : decode cX12_clause 23 = .ok (.goto 4, 3) := by decide +kernel
theorem dX12_clause_26 : decode cX12_clause 26 = .ok (.iload_n 1, 1) := by decide +kernel
theorem dX12_clause_27 : decode cX12_clause 27 = .ok (.istore_n 1, 1) := by decide +kernel
theorem dX12_clause_28 : decode cX12_clause 28 = .ok (.iinc 2 1, 3) := by decide +kernel
theorem dX12_clause_31 : decode cX12_clause 31 = .ok (.goto (-27), 3) := by decide +kernel
theorem dX12_clause_34 : decode cX12_clause 34 = .ok (.iload_n 1, 1) := by decide +kernel
theorem dX12_clause_35 : decode cX12_clause 35 = .ok (.iconst (-1), 1) := by decide +kernel
theorem dX12_clause_36 : decode cX12_clause 36 = .ok (.if_icmp .ne 9, 3) := by decide +kernel
theorem dX12_clause_39 : decode cX12_clause 39 = .ok (.aload_n 0, 1) := by decide +kernel
theorem dX12_clause_40 : decode cX12_clause 40 = .ok (.iconst 0, 1) := by decide +kernel
theorem dX12_clause_41 : decode cX12_clause 41 = .ok (.putfield 141, 3) := by decide +kernel
theorem dX12_clause_44 : decode cX12_clause 44 = .ok (.return_, 1) := by decide +kernel
theorem dX12_clause_45 : decode cX12_clause 45 = .ok (.iconst 0, 1) := by decide +kernel
theorem dX12_clause_46 : decode cX12_clause 46 = .ok (.istore_n 2, 1) := by decide +kernel
theorem dX12_clause_47 : decode cX12_clause 47 = .ok (.iload_n 2, 1) := by decide +kernel
theorem dX12_clause_48 : decode cX12_clause 48 = .ok (.iconst 5, 1) := by decide +kernel
theorem dX12_clause_49 : decode cX12_clause 49 = .ok (.if_icmp .ge 36, 3) := by decide +kernel
theorem dX12_clause_52 : decode cX12_clause 52 = .ok (.aload_n 0, 1) := by decide +kernel
theorem dX12_clause_53 : decode cX12_clause 53 = .ok (.getfield 47, 3) := by decide +kernel
theorem dX12_clause_56 : decode cX12_clause 56 = .ok (.iconst 5, 1) := by decide +kernel
theorem dX12_clause_57 : decode cX12_clause 57 = .ok (.iload_n 1, 1) := by decide +kernel
theorem dX12_clause_58 : decode cX12_clause 58 = .ok (.imul, 1) := by decide +kernel
theorem dX12_clause_59 : decode cX12_clause 59 = .ok (.iload_n 2, 1) := by decide +kernel
theorem dX12_clause_60 : decode cX12_clause 60 = .ok (.iadd, 1) := by decide +kernel
theorem dX12_clause_61 : decode cX12_clause 61 = .ok (.caload, 1) := by decide +kernel
theorem dX12_clause_62 : decode cX12_clause 62 = .ok (.ifCond .eq 23, 3) := by decide +kernel
theorem dX12_clause_65 : decode cX12_clause 65 = .ok (.aload_n 0, 1) := by decide +kernel
theorem dX12_clause_66 : decode cX12_clause 66 = .ok (.aload_n 0, 1) := by decide +kernel
theorem dX12_clause_67 : decode cX12_clause 67 = .ok (.getfield 47, 3) := by decide +kernel
theorem dX12_clause_70 : decode cX12_clause 70 = .ok (.iconst 5, 1) := by decide +kernel
theorem dX12_clause_71 : decode cX12_clause 71 = .ok (.iload_n 1, 1) := by decide +kernel
theorem dX12_clause_72 : decode cX12_clause 72 = .ok (.imul, 1) := by decide +kernel
theorem dX12_clause_73 : decode cX12_clause 73 = .ok (.iload_n 2, 1) := by decide +kernel
theorem dX12_clause_74 : decode cX12_clause 74 = .ok (.iadd, 1) := by decide +kernel
theorem dX12_clause_75 : decode cX12_clause 75 = .ok (.caload, 1) := by decide +kernel
theorem dX12_clause_76 : decode cX12_clause 76 = .ok (.invokevirtual 157, 3) := by decide +kernel
theorem dX12_clause_79 : decode cX12_clause 79 = .ok (.iinc 2 1, 3) := by decide +kernel
theorem dX12_clause_82 : decode cX12_clause 82 = .ok (.goto (-35), 3) := by decide +kernel
theorem dX12_clause_85 : decode cX12_clause 85 = .ok (.aload_n 0, 1) := by decide +kernel
theorem dX12_clause_86 : decode cX12_clause 86 = .ok (.bipush 32, 2) := by decide +kernel
theorem dX12_clause_88 : decode cX12_clause 88 = .ok (.invokevirtual 157, 3) := by decide +kernel
theorem dX12_clause_91 : decode cX12_clause 91 = .ok (.aload_n 0, 1) := by decide +kernel
theorem dX12_clause_92 : decode cX12_clause 92 = .ok (.invokevirtual 160, 3) := by decide +kernel
theorem dX12_clause_95 : decode cX12_clause 95 = .ok (.istore_n 2, 1) := by decide +kernel
theorem dX12_clause_96 : decode cX12_clause 96 = .ok (.iload_n 1, 1) := by decide +kernel
theorem dX12_clause_97 : decode cX12_clause 97 = .ok (.iconst 2, 1) := by decide +kernel
theorem dX12_clause_98 : decode cX12_clause 98 = .ok (.if_icmp .ne 9, 3) := by decide +kernel
theorem dX12_clause_101 : decode cX12_clause 101 = .ok (.aload_n 0, 1) := by decide +kernel
theorem dX12_clause_102 : decode cX12_clause 102 = .ok (.iload_n 2, 1) := by decide +kernel
theorem dX12_clause_103 : decode cX12_clause 103 = .ok (.putfield 179, 3) := by decide +kernel
theorem dX12_clause_106 : decode cX12_clause 106 = .ok (.return_, 1) := by decide +kernel
theorem dX12_clause_107 : decode cX12_clause 107 = .ok (.aload_n 0, 1) := by decide +kernel
theorem dX12_clause_108 : decode cX12_clause 108 = .ok (.bipush 32, 2) := by decide +kernel
theorem dX12_clause_110 : decode cX12_clause 110 = .ok (.invokevirtual 157, 3) := by decide +kernel
theorem dX12_clause_113 : decode cX12_clause 113 = .ok (.aload_n 0, 1) := by decide +kernel
theorem dX12_clause_114 : decode cX12_clause 114 = .ok (.iconst 0, 1) := by decide +kernel
theorem dX12_clause_115 : decode cX12_clause 115 = .ok (.putfield 164, 3) := by decide +kernel
theorem dX12_clause_118 : decode cX12_clause 118 = .ok (.aload_n 0, 1) := by decide +kernel
theorem dX12_clause_119 : decode cX12_clause 119 = .ok (.invokevirtual 170, 3) := by decide +kernel
theorem dX12_clause_122 : decode cX12_clause 122 = .ok (.istore_n 3, 1) := by decide +kernel
theorem dX12_clause_123 : decode cX12_clause 123 = .ok (.aload_n 0, 1) := by decide +kernel
theorem dX12_clause_124 : decode cX12_clause 124 = .ok (.dup, 1) := by decide +kernel
theorem dX12_clause_125 : decode cX12_clause 125 = .ok (.getfield 182, 3) := by decide +kernel
theorem dX12_clause_128 : decode cX12_clause 128 = .ok (.iload_n 3, 1) := by decide +kernel
theorem dX12_clause_129 : decode cX12_clause 129 = .ok (.ifCond .ne 7, 3) := by decide +kernel
theorem dX12_clause_132 : decode cX12_clause 132 = .ok (.iconst 0, 1) := by decide +kernel
theorem dX12_clause_133 : decode cX12_clause 133 = .ok (.goto 13, 3) := by decide +kernel
theorem dX12_clause_136 : decode cX12_clause 136 = .ok (.iload_n 1, 1) := by decide +kernel
theorem dX12_clause_137 : decode cX12_clause 137 = .ok (.ifCond .ne 7, 3) := by decide +kernel
theorem dX12_clause_140 : decode cX12_clause 140 = .ok (.iload_n 2, 1) := by decide +kernel
theorem dX12_clause_141 : decode cX12_clause 141 = .ok (.goto 5, 3) := by decide +kernel
theorem dX12_clause_144 : decode cX12_clause 144 = .ok (.iload_n 2, 1) := by decide +kernel
theorem dX12_clause_145 : decode cX12_clause 145 = .ok (.ineg, 1) := by decide +kernel
theorem dX12_clause_146 : decode cX12_clause 146 = .ok (.iadd, 1) := by decide +kernel
theorem dX12_clause_147 : decode cX12_clause 147 = .ok (.putfield 182, 3) := by decide +kernel
theorem dX12_clause_150 : decode cX12_clause 150 = .ok (.return_, 1) := by decide +kernel
set_option maxRecDepth 20000 in
theorem ggX12_clause_X12_isAt : GoodIn wsX12_clause wsX12_isAt := goodIn_r _ [11, 2, 12, 13, 14, 45, 46, 47, 48, 49, 50, 51, 52, 53, 54, 55, 56, 57, 58, 59, 60, 61, 62, 63, 64, 65, 66, 67, 68, 69, 70, 71, 72, 73, 74, 75, 76] (by decide +kernel) (by decide +kernel)
set_option maxRecDepth 20000 in
theorem gX12_clause_X12_isAt : GoodIn wsX12_clause (wsV RX12 150 RX12 yX12_isAt wsX12_isAt) := goodIn_app (goodIn_of _ (by decide +kernel)) ggX12_clause_X12_isAt
set_option maxRecDepth 20000 in
theorem ggX12_clause_X12_takes : GoodIn wsX12_clause wsX12_takes := goodIn_r _ [18, 12, 2, 7, 8, 9, 10, 11, 13, 14, 45, 46, 47, 48, 49, 50, 51, 52, 53, 54, 55, 56, 57, 58, 59, 60, 61, 62, 63, 64, 65, 66, 67, 68, 69, 70, 71, 72, 73, 74, 75, 76] (by decide +kernel) (by decide +kernel)
set_option maxRecDepth 20000 in
theorem gX12_clause_X12_takes : GoodIn wsX12_clause (wsV RX12 157 RX12 yX12_takes wsX12_takes) := goodIn_app (goodIn_of _ (by decide +kernel)) ggX12_clause_X12_takes
set_option maxRecDepth 20000 in
theorem ggX12_clause_X12_number : GoodIn wsX12_clause wsX12_number := goodIn_r _ [22, 2, 14, 12, 23, 24, 25, 10, 26, 13, 45, 46, 47, 48, 49, 50, 51, 52, 53, 54, 55, 56, 57, 58, 59, 60, 61, 62, 63, 64, 65, 66, 67, 68, 69, 70, 71, 72, 73, 74, 75, 76] (by decide +kernel) (by decide +kernel)
set_option maxRecDepth 20000 in
theorem gX12_clause_X12_number : GoodIn wsX12_clause (wsV RX12 160 RX12 yX12_number wsX12_number) := goodIn_app (goodIn_of _ (by decide +kernel)) ggX12_clause_X12_number
set_option maxRecDepth 20000 in
theorem ggX12_clause_X12_any : GoodIn wsX12_clause wsX12_any := goodIn_r _ [30, 12, 31, 32, 33, 10, 7, 8, 9, 11, 2, 13, 14, 34, 35, 36, 37, 38, 5, 27, 28, 29, 15, 16, 17, 18, 39, 40, 41, 42, 43, 44, 19, 20, 21, 22, 23, 24, 25, 26, 45, 46, 47, 48, 49, 50, 51, 52, 53, 54, 55, 56, 57, 58, 59, 60, 61, 62, 63, 64, 65, 66, 67, 68, 69, 70, 71, 72, 73, 74, 75, 76] (by decide +kernel) (by decide +kernel)
set_option maxRecDepth 20000 in
theorem gX12_clause_X12_any : GoodIn wsX12_clause (wsV RX12 170 RX12 yX12_any wsX12_any) := goodIn_app (goodIn_of _ (by decide +kernel)) ggX12_clause_X12_any
def fX12_clause_146   (y1 : Int32) (y2 : Int32) (g : c_G) : Option (c_G) :=
  c_let ((y1 + y2)) fun v146001 => c_let (c_si g 0 14 v146001) fun g146002 => some g146002
set_option maxRecDepth 100000 in
set_option maxHeartbeats 4000000 in
theorem jX12_clause_146 {p : Program} {l : Launch} {e : Env} {s : State} {m : MethodId} {below : List Frame} {meth : Method} {c : Code} {D : va_G} {tc : Nat → ClassId} {ad : Nat → Nat} {A : Nat → Prop} {E : (Nat → Nat) × (Nat → Nat) × Nat} {g' : c_G} (C : c_C p s m meth c D tc A E RX12 wsX12_clause cX12_clause 4 none ([.ref (ad 0)] : List Value).toArray) (hD : c_D A ad TM)  : ∀ (y1 : Int32) (y2 : Int32) (g : c_G), fX12_clause_146 y1 y2 g = some g' → ∀ (H : Heap) (locs : List Loc), va_P D vwCl (c_ws tc ad TM g) H → va_S A s.heap H locs → ∀ ls : Array Slot, lv_has ls 4 [] → W p l e (c_rm 44) s m ([.ref (ad 0)] : List Value).toArray below meth c H locs 0 0 (MQ below (va_Qv (fun (_ : Unit) => True) (fun _ t => va_P D vwCl (c_ws tc ad TM g') t.heap) A) ([.ref (ad 0)] : List Value).toArray s 0 0 A) (F0 m 146 ls [.int y2, .int y1, .ref (ad 0)]) := by
  obtain ⟨hx, hb, hr, hml, hts, hown, hlk, hK, hE⟩ := id C
  intro y1 y2 g hf H locs hP hS ls hl
  unfold fX12_clause_146 at hf
  refine lv_iadd hx hb dX12_clause_146 ?_
  obtain ⟨v146001, ev146001, hf⟩ := c_letE hf
  refine c_topi ev146001 ?_
  obtain ⟨g146002, eg146002, hf⟩ := c_letE hf
  refine c_put hx hb hts i_X12_clause_X12 tyX12 tyX12_ok nmX12 hown hK hP hD hS 0 tM0 rfl 14 (by decide) (hts _ (List.mem_of_getElem? (i := 6) rfl)) (fun _ h9 => h9) rfl (ty := .int) (by decide +kernel) rfl rfl rfl eg146002 dX12_clause_147 (fun H locs hP hS => ?_)
  exact c_vret hx hb hr hlk hP hS (Option.some.inj hf) dX12_clause_150
def fX12_clause_85   (x1 : Int32) (g : c_G) : Option (c_G) :=
  (fX12_takes g ((32 : Int32))).bind fun g85002 => c_b2 (fX12_number g85002) fun g85004 r85005 => if x1 = (2 : Int32) then (c_let (c_si g85004 0 15 r85005) fun g85015 => some g85015) else ((fX12_takes g85004 ((32 : Int32))).bind fun g85008 => c_let (c_si g85008 0 13 (0 : Int32)) fun g85009 => c_b2 (fG3 40 0 g85009 ) fun g85011 r85012 => if r85012 = 0 then (fX12_clause_146 ((g85011.1 0 14)) ((0 : Int32)) g85011) else (if x1 = 0 then (fX12_clause_146 ((g85011.1 0 14)) r85005 g85011) else (fX12_clause_146 ((g85011.1 0 14)) ((-r85005)) g85011)))
set_option maxRecDepth 100000 in
set_option maxHeartbeats 4000000 in
theorem jX12_clause_85 {p : Program} {l : Launch} {e : Env} {s : State} {m : MethodId} {below : List Frame} {meth : Method} {c : Code} {D : va_G} {tc : Nat → ClassId} {ad : Nat → Nat} {A : Nat → Prop} {E : (Nat → Nat) × (Nat → Nat) × Nat} {g' : c_G} (C : c_C p s m meth c D tc A E RX12 wsX12_clause cX12_clause 4 none ([.ref (ad 0)] : List Value).toArray) (hD : c_D A ad TM)  : ∀ (x1 : Int32) (g : c_G), fX12_clause_85 x1 g = some g' → ∀ (H : Heap) (locs : List Loc), va_P D vwCl (c_ws tc ad TM g) H → va_S A s.heap H locs → ∀ ls : Array Slot, lv_has ls 4 [(0, .ref (ad 0)), (1, .int x1)] → W p l e (c_rm 44) s m ([.ref (ad 0)] : List Value).toArray below meth c H locs 0 0 (MQ below (va_Qv (fun (_ : Unit) => True) (fun _ t => va_P D vwCl (c_ws tc ad TM g') t.heap) A) ([.ref (ad 0)] : List Value).toArray s 0 0 A) (F0 m 85 ls []) := by
  obtain ⟨hx, hb, hr, hml, hts, hown, hlk, hK, hE⟩ := id C
  intro x1 g hf H locs hP hS ls hl
  unfold fX12_clause_85 at hf
  refine lv_aload_n hx hb dX12_clause_85 rfl (lv_at hl 0 rfl) ?_
  refine lv_bipush (v := (32 : Int32)) hx hb dX12_clause_86 (by decide) ?_
  obtain ⟨g85002, hc85001, hf⟩ := c_bd hf
  refine c_gov (va_runV (As := [.int (32 : Int32)]) (rest := []) ⟨hx, hb, hml, hown, hts⟩ (kX12_takes hD hc85001) (cwV 1 hts gX12_clause_X12_takes rfl rfl rfl (by decide +kernel) ⟨Nat.le_of_ble_eq_true rfl, Nat.le_of_ble_eq_true rfl⟩) (c_preV hK hP hE hS tM0 rfl) rfl rfl hl.1 rfl (lv_room (Nat.le_of_ble_eq_true rfl)) dX12_clause_88 ⟨Nat.zero_le _, Nat.zero_le _⟩) hS (fun H locs hP hS => ?_)
  refine lv_aload_n hx hb dX12_clause_91 rfl (lv_at hl 0 rfl) ?_
  obtain ⟨g85004, r85005, hc85003, hf⟩ := c_b2E hf
  refine c_goi (va_runV (As := []) (rest := []) ⟨hx, hb, hml, hown, hts⟩ (kX12_number hD hc85003) (cwV 0 hts gX12_clause_X12_number rfl rfl rfl (by decide +kernel) ⟨Nat.le_of_ble_eq_true rfl, Nat.le_of_ble_eq_true rfl⟩) (c_preV hK hP hE hS tM0 rfl) rfl rfl hl.1 rfl (lv_room (Nat.le_of_ble_eq_true rfl)) dX12_clause_92 ⟨Nat.zero_le _, Nat.zero_le _⟩) hS (fun H locs hP hS => ?_)
  refine lv_istore_n (lv' := [(2, .int r85005), (0, .ref (ad 0)), (1, .int x1)]) hx hb dX12_clause_95 rfl hl (by decide) rfl (fun ls hl => ?_)
  refine lv_iload_n hx hb dX12_clause_96 rfl (lv_at hl 2 rfl) ?_
  refine lv_iconst (v := (2 : Int32)) hx hb dX12_clause_97 (by decide) ?_
  refine lv_icmp_ne (tgt := 107) hx hb dX12_clause_98 (by decide) (fun c85006 => ?_) (fun c85006 => ?_)
  · have hf := c_ie c85006 hf
    refine lv_aload_n hx hb dX12_clause_107 rfl (lv_at hl 1 rfl) ?_
    refine lv_bipush (v := (32 : Int32)) hx hb dX12_clause_108 (by decide) ?_
    obtain ⟨g85008, hc85007, hf⟩ := c_bd hf
    refine c_gov (va_runV (As := [.int (32 : Int32)]) (rest := []) ⟨hx, hb, hml, hown, hts⟩ (kX12_takes hD hc85007) (cwV 1 hts gX12_clause_X12_takes rfl rfl rfl (by decide +kernel) ⟨Nat.le_of_ble_eq_true rfl, Nat.le_of_ble_eq_true rfl⟩) (c_preV hK hP hE hS tM0 rfl) rfl rfl hl.1 rfl (lv_room (Nat.le_of_ble_eq_true rfl)) dX12_clause_110 ⟨Nat.zero_le _, Nat.zero_le _⟩) hS (fun H locs hP hS => ?_)
    refine lv_aload_n hx hb dX12_clause_113 rfl (lv_at hl 1 rfl) ?_
    refine lv_iconst (v := (0 : Int32)) hx hb dX12_clause_114 (by decide) ?_
    obtain ⟨g85009, eg85009, hf⟩ := c_letE hf
    refine c_put hx hb hts i_X12_clause_X12 tyX12 tyX12_ok nmX12 hown hK hP hD hS 0 tM0 rfl 13 (by decide) (hts _ (List.mem_of_getElem? (i := 5) rfl)) (fun _ h9 => h9) rfl (ty := .int) (by decide +kernel) rfl rfl rfl eg85009 dX12_clause_115 (fun H locs hP hS => ?_)
    refine lv_aload_n hx hb dX12_clause_118 rfl (lv_at hl 1 rfl) ?_
    obtain ⟨g85011, r85012, hc85010, hf⟩ := c_b2E hf
    refine c_goi (va_runV (As := []) (rest := []) ⟨hx, hb, hml, hown, hts⟩ (kG3_0 hD hc85010) (cwV 0 hts gX12_clause_X12_any rfl rfl rfl (by decide +kernel) ⟨Nat.le_of_ble_eq_true rfl, Nat.le_of_ble_eq_true rfl⟩) (c_preV hK hP hE hS tM0 rfl) rfl rfl hl.1 rfl (lv_room (Nat.le_of_ble_eq_true rfl)) dX12_clause_119 ⟨Nat.zero_le _, Nat.zero_le _⟩) hS (fun H locs hP hS => ?_)
    refine lv_istore_n (lv' := [(3, .int r85012), (2, .int r85005), (0, .ref (ad 0)), (1, .int x1)]) hx hb dX12_clause_122 rfl hl (by decide) rfl (fun ls hl => ?_)
    refine lv_aload_n hx hb dX12_clause_123 rfl (lv_at hl 2 rfl) ?_
    refine lv_dup hx hb dX12_clause_124 rfl ?_
    refine c_get hx hb hts i_X12_clause_X12 hown hK hP 0 tM0 rfl 14 (by decide) (hts _ (List.mem_of_getElem? (i := 6) rfl)) (fun _ h9 => h9) rfl (v := .int (g85011.1 0 14)) rfl dX12_clause_125 ?_
    refine lv_iload_n hx hb dX12_clause_128 rfl (lv_at hl 0 rfl) ?_
    refine lv_if_ne (tgt := 136) hx hb dX12_clause_129 (by decide) (fun c85013 => ?_) (fun c85013 => ?_)
    · have hf := c_ie c85013 hf
      refine lv_iload_n hx hb dX12_clause_136 rfl (lv_at hl 3 rfl) ?_
      refine lv_if_ne (tgt := 144) hx hb dX12_clause_137 (by decide) (fun c85014 => ?_) (fun c85014 => ?_)
      · have hf := c_ie c85014 hf
        refine lv_iload_n hx hb dX12_clause_144 rfl (lv_at hl 1 rfl) ?_
        refine lv_ineg hx hb dX12_clause_145 ?_
        exact jX12_clause_146 C hD ((g85011.1 0 14)) ((-r85005)) g85011 hf _ _ hP hS _ (lv_sub hl [] rfl)
      · have hf := c_it c85014 hf
        refine lv_iload_n hx hb dX12_clause_140 rfl (lv_at hl 1 rfl) ?_
        refine lv_goto (tgt := 146) hx hb dX12_clause_141 (by decide) ?_
        exact jX12_clause_146 C hD ((g85011.1 0 14)) r85005 g85011 hf _ _ hP hS _ (lv_sub hl [] rfl)
    · have hf := c_it c85013 hf
      refine lv_iconst (v := (0 : Int32)) hx hb dX12_clause_132 (by decide) ?_
      refine lv_goto (tgt := 146) hx hb dX12_clause_133 (by decide) ?_
      exact jX12_clause_146 C hD ((g85011.1 0 14)) ((0 : Int32)) g85011 hf _ _ hP hS _ (lv_sub hl [] rfl)
  · have hf := c_it c85006 hf
    refine lv_aload_n hx hb dX12_clause_101 rfl (lv_at hl 1 rfl) ?_
    refine lv_iload_n hx hb dX12_clause_102 rfl (lv_at hl 0 rfl) ?_
    obtain ⟨g85015, eg85015, hf⟩ := c_letE hf
    refine c_put hx hb hts i_X12_clause_X12 tyX12 tyX12_ok nmX12 hown hK hP hD hS 0 tM0 rfl 15 (by decide) (hts _ (List.mem_of_getElem? (i := 4) rfl)) (fun _ h9 => h9) rfl (ty := .int) (by decide +kernel) rfl rfl rfl eg85015 dX12_clause_103 (fun H locs hP hS => ?_)
    exact c_vret hx hb hr hlk hP hS (Option.some.inj hf) dX12_clause_106
def fX12_clause_47   : Nat → Int32 → Int32 → c_G → Option (c_G)
  | 0, _, _, _ => none
  | n + 1, x1, x2, g => if (5 : Int32) ≤ x2 then (fX12_clause_85 x1 g) else (if c_in ((((5 : Int32) * x1) + x2)) (15) = true then if (g.1 11 ((((5 : Int32) * x1) + x2)).toNatClampNeg) = 0 then (fX12_clause_85 x1 g) else ((fX12_takes g ((g.1 11 ((((5 : Int32) * x1) + x2)).toNatClampNeg))).bind fun g47005 => c_let (x2 + (1 : Int32)) fun v47006 => (fX12_clause_47 n) x1 v47006 g47005) else none)
set_option maxRecDepth 100000 in
set_option maxHeartbeats 4000000 in
theorem jX12_clause_47 {p : Program} {l : Launch} {e : Env} {s : State} {m : MethodId} {below : List Frame} {meth : Method} {c : Code} {D : va_G} {tc : Nat → ClassId} {ad : Nat → Nat} {A : Nat → Prop} {E : (Nat → Nat) × (Nat → Nat) × Nat} {g' : c_G} (C : c_C p s m meth c D tc A E RX12 wsX12_clause cX12_clause 4 none ([.ref (ad 0)] : List Value).toArray) (hD : c_D A ad TM)  : ∀ (n : Nat) (x1 : Int32) (x2 : Int32) (g : c_G), fX12_clause_47 n x1 x2 g = some g' → ∀ (H : Heap) (locs : List Loc), va_P D vwCl (c_ws tc ad TM g) H → va_S A s.heap H locs → ∀ ls : Array Slot, lv_has ls 4 [(0, .ref (ad 0)), (1, .int x1), (2, .int x2)] → W p l e (c_rm 44) s m ([.ref (ad 0)] : List Value).toArray below meth c H locs 0 0 (MQ below (va_Qv (fun (_ : Unit) => True) (fun _ t => va_P D vwCl (c_ws tc ad TM g') t.heap) A) ([.ref (ad 0)] : List Value).toArray s 0 0 A) (F0 m 47 ls []) := by
  obtain ⟨hx, hb, hr, hml, hts, hown, hlk, hK, hE⟩ := id C
  intro n
  induction n with
  | zero =>
    intro x1 x2 g hf
    cases hf
  | succ n ih =>
    intro x1 x2 g hf H locs hP hS ls hl
    unfold fX12_clause_47 at hf
    refine lv_iload_n hx hb dX12_clause_47 rfl (lv_at hl 2 rfl) ?_
    refine lv_iconst (v := (5 : Int32)) hx hb dX12_clause_48 (by decide) ?_
    refine lv_icmp_ge (tgt := 85) hx hb dX12_clause_49 (by decide) (fun c47001 => ?_) (fun c47001 => ?_)
    · have hf := c_it c47001 hf
      exact jX12_clause_85 C hD x1 g hf _ _ hP hS _ (lv_sub hl [0, 1] rfl)
    · have hf := c_ie c47001 hf
      refine lv_aload_n hx hb dX12_clause_52 rfl (lv_at hl 0 rfl) ?_
      refine c_get hx hb hts i_X12_clause_X12 hown hK hP 0 tM0 rfl 19 (by decide) (hts _ (List.mem_of_getElem? (i := 3) rfl)) (fun _ h9 => h9) rfl (v := .ref (ad 11)) rfl dX12_clause_53 ?_
      refine lv_iconst (v := (5 : Int32)) hx hb dX12_clause_56 (by decide) ?_
      refine lv_iload_n hx hb dX12_clause_57 rfl (lv_at hl 1 rfl) ?_
      refine lv_imul hx hb dX12_clause_58 ?_
      refine lv_iload_n hx hb dX12_clause_59 rfl (lv_at hl 2 rfl) ?_
      refine lv_iadd hx hb dX12_clause_60 ?_
      obtain ⟨hi47002, hf⟩ := c_gd hf
      refine c_cald (j := ((((5 : Int32) * x1) + x2)).toNatClampNeg) hx hb hK hP 11 tM11 rfl (c_inV hi47002) dX12_clause_61 ?_
      refine lv_if_eq (tgt := 85) hx hb dX12_clause_62 (by decide) (fun c47003 => ?_) (fun c47003 => ?_)
      · have hf := c_it c47003 hf
        exact jX12_clause_85 C hD x1 g hf _ _ hP hS _ (lv_sub hl [0, 1] rfl)
      · have hf := c_ie c47003 hf
        refine lv_aload_n hx hb dX12_clause_65 rfl (lv_at hl 0 rfl) ?_
        refine lv_aload_n hx hb dX12_clause_66 rfl (lv_at hl 0 rfl) ?_
        refine c_get hx hb hts i_X12_clause_X12 hown hK hP 0 tM0 rfl 19 (by decide) (hts _ (List.mem_of_getElem? (i := 3) rfl)) (fun _ h9 => h9) rfl (v := .ref (ad 11)) rfl dX12_clause_67 ?_
        refine lv_iconst (v := (5 : Int32)) hx hb dX12_clause_70 (by decide) ?_
        refine lv_iload_n hx hb dX12_clause_71 rfl (lv_at hl 1 rfl) ?_
        refine lv_imul hx hb dX12_clause_72 ?_
        refine lv_iload_n hx hb dX12_clause_73 rfl (lv_at hl 2 rfl) ?_
        refine lv_iadd hx hb dX12_clause_74 ?_
        refine c_cald (j := ((((5 : Int32) * x1) + x2)).toNatClampNeg) hx hb hK hP 11 tM11 rfl (c_inV hi47002) dX12_clause_75 ?_
        obtain ⟨g47005, hc47004, hf⟩ := c_bd hf
        refine c_gov (va_runV (As := [.int (g.1 11 ((((5 : Int32) * x1) + x2)).toNatClampNeg)]) (rest := []) ⟨hx, hb, hml, hown, hts⟩ (kX12_takes hD hc47004) (cwV 1 hts gX12_clause_X12_takes rfl rfl rfl (by decide +kernel) ⟨Nat.le_of_ble_eq_true rfl, Nat.le_of_ble_eq_true rfl⟩) (c_preV hK hP hE hS tM0 rfl) rfl rfl hl.1 rfl (lv_room (Nat.le_of_ble_eq_true rfl)) dX12_clause_76 ⟨Nat.zero_le _, Nat.zero_le _⟩) hS (fun H locs hP hS => ?_)
        obtain ⟨v47006, ev47006, hf⟩ := c_letE hf
        refine lv_iinc (v := v47006) (lv' := [(2, .int v47006), (0, .ref (ad 0)), (1, .int x1)]) hx hb dX12_clause_79 hl (k := 2) rfl (by rw [ev47006]; rfl) (by decide) rfl (fun ls hl => ?_)
        refine lv_goto (tgt := 47) hx hb dX12_clause_82 (by decide) ?_
        exact ih x1 v47006 g47005 hf _ _ hP hS _ (lv_sub hl [1, 2, 0] rfl)
def fX12_clause_27 (rec4 : Int32 → Int32 → c_G → Option (c_G))  (x2 : Int32) (y0 : Int32) (g : c_G) : Option (c_G) :=
  c_let (x2 + (1 : Int32)) fun v27001 => rec4 y0 v27001 g
set_option maxRecDepth 100000 in
set_option maxHeartbeats 4000000 in
theorem jX12_clause_27 {p : Program} {l : Launch} {e : Env} {s : State} {m : MethodId} {below : List Frame} {meth : Method} {c : Code} {D : va_G} {tc : Nat → ClassId} {ad : Nat → Nat} {A : Nat → Prop} {E : (Nat → Nat) × (Nat → Nat) × Nat} {g' : c_G} (C : c_C p s m meth c D tc A E RX12 wsX12_clause cX12_clause 4 none ([.ref (ad 0)] : List Value).toArray) (hD : c_D A ad TM) {rec4 : Int32 → Int32 → c_G → Option (c_G)} (hrec4 : ∀ (x1 : Int32) (x2 : Int32) (g : c_G), rec4 x1 x2 g = some g' → ∀ (H : Heap) (locs : List Loc), va_P D vwCl (c_ws tc ad TM g) H → va_S A s.heap H locs → ∀ ls : Array Slot, lv_has ls 4 [(0, .ref (ad 0)), (1, .int x1), (2, .int x2)] → W p l e (c_rm 44) s m ([.ref (ad 0)] : List Value).toArray below meth c H locs 0 0 (MQ below (va_Qv (fun (_ : Unit) => True) (fun _ t => va_P D vwCl (c_ws tc ad TM g') t.heap) A) ([.ref (ad 0)] : List Value).toArray s 0 0 A) (F0 m 4 ls [])) : ∀ (x2 : Int32) (y0 : Int32) (g : c_G), fX12_clause_27 rec4 x2 y0 g = some g' → ∀ (H : Heap) (locs : List Loc), va_P D vwCl (c_ws tc ad TM g) H → va_S A s.heap H locs → ∀ ls : Array Slot, lv_has ls 4 [(0, .ref (ad 0)), (2, .int x2)] → W p l e (c_rm 44) s m ([.ref (ad 0)] : List Value).toArray below meth c H locs 0 0 (MQ below (va_Qv (fun (_ : Unit) => True) (fun _ t => va_P D vwCl (c_ws tc ad TM g') t.heap) A) ([.ref (ad 0)] : List Value).toArray s 0 0 A) (F0 m 27 ls [.int y0]) := by
  obtain ⟨hx, hb, hr, hml, hts, hown, hlk, hK, hE⟩ := id C
  intro x2 y0 g hf H locs hP hS ls hl
  unfold fX12_clause_27 at hf
  refine lv_istore_n (lv' := [(1, .int y0), (0, .ref (ad 0)), (2, .int x2)]) hx hb dX12_clause_27 rfl hl (by decide) rfl (fun ls hl => ?_)
  obtain ⟨v27001, ev27001, hf⟩ := c_letE hf
  refine lv_iinc (v := v27001) (lv' := [(2, .int v27001), (1, .int y0), (0, .ref (ad 0))]) hx hb dX12_clause_28 hl (k := 2) rfl (by rw [ev27001]; rfl) (by decide) rfl (fun ls hl => ?_)
  refine lv_goto (tgt := 4) hx hb dX12_clause_31 (by decide) ?_
  exact hrec4 y0 v27001 g hf _ _ hP hS _ (lv_sub hl [2, 1, 0] rfl)
def fX12_clause_4   : Nat → Int32 → Int32 → c_G → Option (c_G)
  | 0, _, _, _ => none
  | n + 1, x1, x2, g => if (3 : Int32) ≤ x2 then (if x1 = (-1 : Int32) then (c_let (c_si g 0 12 (0 : Int32)) fun g4003 => some g4003) else (fX12_clause_47 c_F x1 ((0 : Int32)) g)) else (if c_in (x2) (3) = true then (fX12_isAt g ((g.1 10 (x2).toNatClampNeg))).bind fun r4005 => if r4005 = 0 then (fX12_clause_27 (fX12_clause_4 n) x2 x1 g) else (fX12_clause_27 (fX12_clause_4 n) x2 x2 g) else none)
set_option maxRecDepth 100000 in
set_option maxHeartbeats 4000000 in
theorem jX12_clause_4 {p : Program} {l : Launch} {e : Env} {s : State} {m : MethodId} {below : List Frame} {meth : Method} {c : Code} {D : va_G} {tc : Nat → ClassId} {ad : Nat → Nat} {A : Nat → Prop} {E : (Nat → Nat) × (Nat → Nat) × Nat} {g' : c_G} (C : c_C p s m meth c D tc A E RX12 wsX12_clause cX12_clause 4 none ([.ref (ad 0)] : List Value).toArray) (hD : c_D A ad TM)  : ∀ (n : Nat) (x1 : Int32) (x2 : Int32) (g : c_G), fX12_clause_4 n x1 x2 g = some g' → ∀ (H : Heap) (locs : List Loc), va_P D vwCl (c_ws tc ad TM g) H → va_S A s.heap H locs → ∀ ls : Array Slot, lv_has ls 4 [(0, .ref (ad 0)), (1, .int x1), (2, .int x2)] → W p l e (c_rm 44) s m ([.ref (ad 0)] : List Value).toArray below meth c H locs 0 0 (MQ below (va_Qv (fun (_ : Unit) => True) (fun _ t => va_P D vwCl (c_ws tc ad TM g') t.heap) A) ([.ref (ad 0)] : List Value).toArray s 0 0 A) (F0 m 4 ls []) := by
  obtain ⟨hx, hb, hr, hml, hts, hown, hlk, hK, hE⟩ := id C
  intro n
  induction n with
  | zero =>
    intro x1 x2 g hf
    cases hf
  | succ n ih =>
    intro x1 x2 g hf H locs hP hS ls hl
    unfold fX12_clause_4 at hf
    refine lv_iload_n hx hb dX12_clause_4 rfl (lv_at hl 2 rfl) ?_
    refine lv_iconst (v := (3 : Int32)) hx hb dX12_clause_5 (by decide) ?_
    refine lv_icmp_ge (tgt := 34) hx hb dX12_clause_6 (by decide) (fun c4001 => ?_) (fun c4001 => ?_)
    · have hf := c_it c4001 hf
      refine lv_iload_n hx hb dX12_clause_34 rfl (lv_at hl 1 rfl) ?_
      refine lv_iconst (v := (-1 : Int32)) hx hb dX12_clause_35 (by decide) ?_
      refine lv_icmp_ne (tgt := 45) hx hb dX12_clause_36 (by decide) (fun c4002 => ?_) (fun c4002 => ?_)
      · have hf := c_ie c4002 hf
        refine lv_iconst (v := (0 : Int32)) hx hb dX12_clause_45 (by decide) ?_
        refine lv_istore_n (lv' := [(2, .int (0 : Int32)), (0, .ref (ad 0)), (1, .int x1)]) hx hb dX12_clause_46 rfl hl (by decide) rfl (fun ls hl => ?_)
        exact jX12_clause_47 C hD c_F x1 ((0 : Int32)) g hf _ _ hP hS _ (lv_sub hl [1, 2, 0] rfl)
      · have hf := c_it c4002 hf
        refine lv_aload_n hx hb dX12_clause_39 rfl (lv_at hl 0 rfl) ?_
        refine lv_iconst (v := (0 : Int32)) hx hb dX12_clause_40 (by decide) ?_
        obtain ⟨g4003, eg4003, hf⟩ := c_letE hf
        refine c_put hx hb hts i_X12_clause_X12 tyX12 tyX12_ok nmX12 hown hK hP hD hS 0 tM0 rfl 12 (by decide) (hts _ (List.mem_of_getElem? (i := 2) rfl)) (fun _ h9 => h9) rfl (ty := .boolean) (by decide +kernel) rfl rfl rfl eg4003 dX12_clause_41 (fun H locs hP hS => ?_)
        exact c_vret hx hb hr hlk hP hS (Option.some.inj hf) dX12_clause_44
    · have hf := c_ie c4001 hf
      refine lv_aload_n hx hb dX12_clause_9 rfl (lv_at hl 0 rfl) ?_
      refine lv_aload_n hx hb dX12_clause_10 rfl (lv_at hl 0 rfl) ?_
      refine c_get hx hb hts i_X12_clause_X12 hown hK hP 0 tM0 rfl 18 (by decide) (hts _ (List.mem_of_getElem? (i := 1) rfl)) (fun _ h9 => h9) rfl (v := .ref (ad 10)) rfl dX12_clause_11 ?_
      refine lv_iload_n hx hb dX12_clause_14 rfl (lv_at hl 2 rfl) ?_
      obtain ⟨hi4004, hf⟩ := c_gd hf
      refine c_cald (j := (x2).toNatClampNeg) hx hb hK hP 10 tM10 rfl (c_inV hi4004) dX12_clause_15 ?_
      obtain ⟨r4005, hc4006, hf⟩ := c_bd hf
      refine c_goi (va_runV (As := [.int (g.1 10 (x2).toNatClampNeg)]) (rest := []) ⟨hx, hb, hml, hown, hts⟩ (kX12_isAt hD hc4006) (cwV 1 hts gX12_clause_X12_isAt rfl rfl rfl (by decide +kernel) ⟨Nat.le_of_ble_eq_true rfl, Nat.le_of_ble_eq_true rfl⟩) (c_preV hK hP hE hS tM0 rfl) rfl rfl hl.1 rfl (lv_room (Nat.le_of_ble_eq_true rfl)) dX12_clause_16 ⟨Nat.zero_le _, Nat.zero_le _⟩) hS (fun H locs hP hS => ?_)
      refine lv_if_eq (tgt := 26) hx hb dX12_clause_19 (by decide) (fun c4007 => ?_) (fun c4007 => ?_)
      · have hf := c_it c4007 hf
        refine lv_iload_n hx hb dX12_clause_26 rfl (lv_at hl 1 rfl) ?_
        exact jX12_clause_27 C hD ih x2 x1 g hf _ _ hP hS _ (lv_sub hl [0, 2] rfl)
      · have hf := c_ie c4007 hf
        refine lv_iload_n hx hb dX12_clause_22 rfl (lv_at hl 2 rfl) ?_
        refine lv_goto (tgt := 27) hx hb dX12_clause_23 (by decide) ?_
        exact jX12_clause_27 C hD ih x2 x2 g hf _ _ hP hS _ (lv_sub hl [0, 2] rfl)
def fX12_clause (g : c_G)  : Option (c_G) :=
  fX12_clause_4 c_F ((-1 : Int32)) ((0 : Int32)) g
set_option maxRecDepth 100000 in
set_option maxHeartbeats 4000000 in
theorem kX12_clause {l : Launch} {D : va_G} {tc : Nat → ClassId} {ad : Nat → Nat} {A : Nat → Prop} {E : (Nat → Nat) × (Nat → Nat) × Nat} (hD : c_D A ad TM)  {g g' : c_G} (hf : fX12_clause g  = some g') : c_Mv l yX12_clause wsX12_clause (c_rm 44) D tc ad A E TM ([.ref (ad 0)] : List Value) g g' := by
  refine c_ofW (bytes := cX12_clause) (maxL := 4) (ret := none) (by decide) rfl (Nat.le_of_ble_eq_true rfl) ?_
  intro p e s m below meth c ls C hP hS hl
  unfold fX12_clause at hf
  obtain ⟨hx, hb, hr, hml, hts, hown, hlk, hK, hE⟩ := id C
  have hl : lv_has ls 4 [(0, .ref (ad 0))] := hl
  refine lv_iconst (v := (-1 : Int32)) hx hb dX12_clause_0 (by decide) ?_
  refine lv_istore_n (lv' := [(1, .int (-1 : Int32)), (0, .ref (ad 0))]) hx hb dX12_clause_1 rfl hl (by decide) rfl (fun ls hl => ?_)
  refine lv_iconst (v := (0 : Int32)) hx hb dX12_clause_2 (by decide) ?_
  refine lv_istore_n (lv' := [(2, .int (0 : Int32)), (1, .int (-1 : Int32)), (0, .ref (ad 0))]) hx hb dX12_clause_3 rfl hl (by decide) rfl (fun ls hl => ?_)
  exact jX12_clause_4 C hD c_F ((-1 : Int32)) ((0 : Int32)) g hf _ _ hP hS _ (lv_sub hl [2, 1, 0] rfl)
theorem i_X12_readAll_X12 : ∀ w ∈ u_ws RX12 TX12 32, w ∈ wsX12_readAll := c_inP [49, 50, 51, 52, 53, 54, 55, 56, 57, 58, 59, 60, 61, 62, 63, 64, 65, 66, 67, 68, 69, 70, 71, 72, 73, 74, 75, 76, 77, 78, 79, 80] (by decide +kernel)
theorem dX12_readAll_0 : decode cX12_readAll 0 = .ok (.aload_n 0, 1) := by decide +kernel
theorem dX12_readAll_1 : decode cX12_readAll 1 = .ok (.iconst 0, 1) := by decide +kernel
theorem dX12_readAll_2 : decode cX12_readAll 2 = .ok (.putfield 144, 3) := by decide +kernel
theorem dX12_readAll_5 : decode cX12_readAll 5 = .ok (.aload_n 0, 1) := by decide +kernel
theorem dX12_readAll_6 : decode cX12_readAll 6 = .ok (.iconst 1, 1) := by decide +kernel
theorem dX12_readAll_7 : decode cX12_readAll 7 = .ok (.putfield 141, 3) := by decide +kernel
theorem dX12_readAll_10 : decode cX12_readAll 10 = .ok (.aload_n 0, 1) := by decide +kernel
theorem dX12_readAll_11 : decode cX12_readAll 11 = .ok (.aload_n 0, 1) := by decide +kernel
theorem dX12_readAll_12 : decode cX12_readAll 12 = .ok (.getfield 37, 3) := by decide +kernel
theorem dX12_readAll_15 : decode cX12_readAll 15 = .ok (.iconst 4, 1) := by decide +kernel
theorem dX12_readAll_16 : decode cX12_readAll 16 = .ok (.iaload, 1) := by decide +kernel
theorem dX12_readAll_17 : decode cX12_readAll 17 = .ok (.putfield 182, 3) := by decide +kernel
theorem dX12_readAll_20 : decode cX12_readAll 20 = .ok (.aload_n 0, 1) := by decide +kernel
theorem dX12_readAll_21 : decode cX12_readAll 21 = .ok (.iconst 0, 1) := by decide +kernel
theorem dX12_readAll_22 : decode cX12_readAll 22 = .ok (.putfield 179, 3) := by decide +kernel
theorem dX12_readAll_25 : decode cX12_readAll 25 = .ok (.iconst 1, 1) := by decide +kernel
theorem dX12_readAll_26 : decode cX12_readAll 26 = .ok (.istore_n 1, 1) := by decide +kernel
theorem dX12_readAll_27 : decode cX12_readAll 27 = .ok (.aload_n 0, 1) := by decide +kernel
theorem dX12_readAll_28 : decode cX12_readAll 28 = .ok (.invokevirtual 185, 3) := by decide +kernel
theorem dX12_readAll_31 : decode cX12_readAll 31 = .ok (.iload_n 1, 1) := by decide +kernel
theorem dX12_readAll_32 : decode cX12_readAll 32 = .ok (.bipush 10, 2) := by decide +kernel
theorem dX12_readAll_34 : decode cX12_readAll 34 = .ok (.if_icmp .ge 32, 3) := by decide +kernel
theorem dX12_readAll_37 : decode cX12_readAll 37 = .ok (.aload_n 0, 1) := by decide +kernel
theorem dX12_readAll_38 : decode cX12_readAll 38 = .ok (.bipush 59, 2) := by decide +kernel
theorem dX12_readAll_40 : decode cX12_readAll 40 = .ok (.invokevirtual 150, 3) := by decide +kernel
theorem dX12_readAll_43 : decode cX12_readAll 43 = .ok (.ifCond .eq 23, 3) := by decide +kernel
theorem dX12_readAll_46 : decode cX12_readAll 46 = .ok (.aload_n 0, 1) := by decide +kernel
theorem dX12_readAll_47 : decode cX12_readAll 47 = .ok (.dup, 1) := by decide +kernel
theorem dX12_readAll_48 : decode cX12_readAll 48 = .ok (.getfield 144, 3) := by decide +kernel
theorem dX12_readAll_51 : decode cX12_readAll 51 = .ok (.iconst 1, 1) := by decide +kernel
theorem dX12_readAll_52 : decode cX12_readAll 52 = .ok (.iadd, 1) := by decide +kernel
theorem dX12_readAll_53 : decode cX12_readAll 53 = .ok (.putfield 144, 3) := by decide +kernel
theorem dX12_readAll_56 : decode cX12_readAll 56 = .ok (.aload_n 0, 1) := by decide +kernel
theorem dX12_readAll_57 : decode cX12_readAll 57 = .ok (.invokevirtual 185, 3) := by decide +kernel
theorem dX12_readAll_60 : decode cX12_readAll 60 = .ok (.iinc 1 1, 3) := by decide +kernel
theorem dX12_readAll_63 : decode cX12_readAll 63 = .ok (.goto (-32), 3) := by decide +kernel
theorem dX12_readAll_66 : decode cX12_readAll 66 = .ok (.aload_n 0, 1) := by decide +kernel
theorem dX12_readAll_67 : decode cX12_readAll 67 = .ok (.getfield 141, 3) := by decide +kernel
theorem dX12_readAll_70 : decode cX12_readAll 70 = .ok (.ifCond .eq 18, 3) := by decide +kernel
theorem dX12_readAll_73 : decode cX12_readAll 73 = .ok (.aload_n 0, 1) := by decide +kernel
theorem dX12_readAll_74 : decode cX12_readAll 74 = .ok (.getfield 144, 3) := by decide +kernel
theorem dX12_readAll_77 : decode cX12_readAll 77 = .ok (.aload_n 0, 1) := by decide +kernel
theorem dX12_readAll_78 : decode cX12_readAll 78 = .ok (.getfield 147, 3) := by decide +kernel
theorem dX12_readAll_81 : decode cX12_readAll 81 = .ok (.if_icmp .ne 7, 3) := by decide +kernel
theorem dX12_readAll_84 : decode cX12_readAll 84 = .ok (.iconst 1, 1) := by decide +kernel
theorem dX12_readAll_85 : decode cX12_readAll 85 = .ok (.goto 4, 3) := by decide +kernel
theorem dX12_readAll_88 : decode cX12_readAll 88 = .ok (.iconst 0, 1) := by decide +kernel
theorem dX12_readAll_89 : decode cX12_readAll 89 = .ok (.ireturn, 1) := by decide +kernel
set_option maxRecDepth 20000 in
theorem ggX12_readAll_X12_clause : GoodIn wsX12_readAll wsX12_clause := goodIn_r _ [11, 12, 2, 13, 5, 14, 4, 15, 16, 17, 10, 18, 1, 6, 19, 20, 21, 22, 23, 24, 25, 26, 27, 28, 29, 30, 31, 32, 33, 34, 35, 36, 37, 38, 39, 40, 41, 42, 43, 44, 45, 46, 47, 48, 3, 49, 50, 51, 52, 53, 54, 55, 56, 57, 58, 59, 60, 61, 62, 63, 64, 65, 66, 67, 68, 69, 70, 71, 72, 73, 74, 75, 76, 77, 78, 79, 80] (by decide +kernel) (by decide +kernel)
set_option maxRecDepth 20000 in
theorem gX12_readAll_X12_clause : GoodIn wsX12_readAll (wsV RX12 185 RX12 yX12_clause wsX12_clause) := goodIn_app (goodIn_of _ (by decide +kernel)) ggX12_readAll_X12_clause
set_option maxRecDepth 20000 in
theorem ggX12_readAll_X12_isAt : GoodIn wsX12_readAll wsX12_isAt := goodIn_r _ [18, 2, 1, 6, 19, 49, 50, 51, 52, 53, 54, 55, 56, 57, 58, 59, 60, 61, 62, 63, 64, 65, 66, 67, 68, 69, 70, 71, 72, 73, 74, 75, 76, 77, 78, 79, 80] (by decide +kernel) (by decide +kernel)
set_option maxRecDepth 20000 in
theorem gX12_readAll_X12_isAt : GoodIn wsX12_readAll (wsV RX12 150 RX12 yX12_isAt wsX12_isAt) := goodIn_app (goodIn_of _ (by decide +kernel)) ggX12_readAll_X12_isAt
def fX12_readAll_66    (g : c_G) : Option (c_G × Int32) :=
  if (g.1 0 12) = 0 then (some (g, (0 : Int32))) else (if (g.1 0 11) = (g.1 0 10) then (some (g, (1 : Int32))) else (some (g, (0 : Int32))))
set_option maxRecDepth 100000 in
set_option maxHeartbeats 4000000 in
theorem jX12_readAll_66 {p : Program} {l : Launch} {e : Env} {s : State} {m : MethodId} {below : List Frame} {meth : Method} {c : Code} {D : va_G} {tc : Nat → ClassId} {ad : Nat → Nat} {A : Nat → Prop} {E : (Nat → Nat) × (Nat → Nat) × Nat} {g' : c_G} {r : Int32} (C : c_C p s m meth c D tc A E RX12 wsX12_readAll cX12_readAll 2 (some .boolean) ([.ref (ad 0)] : List Value).toArray) (hD : c_D A ad TM)  : ∀  (g : c_G), fX12_readAll_66 g = some (g', r) → ∀ (H : Heap) (locs : List Loc), va_P D vwCl (c_ws tc ad TM g) H → va_S A s.heap H locs → ∀ ls : Array Slot, lv_has ls 2 [(0, .ref (ad 0))] → W p l e (c_rm 45) s m ([.ref (ad 0)] : List Value).toArray below meth c H locs 0 0 (MQ below (va_Qi (fun (x : Int32) (_ : Unit) => x = r) (fun _ t => va_P D vwCl (c_ws tc ad TM g') t.heap) A) ([.ref (ad 0)] : List Value).toArray s 0 0 A) (F0 m 66 ls []) := by
  obtain ⟨hx, hb, hr, hml, hts, hown, hlk, hK, hE⟩ := id C
  intro  g hf H locs hP hS ls hl
  unfold fX12_readAll_66 at hf
  refine lv_aload_n hx hb dX12_readAll_66 rfl (lv_at hl 0 rfl) ?_
  refine c_get hx hb hts i_X12_readAll_X12 hown hK hP 0 tM0 rfl 12 (by decide) (hts _ (List.mem_of_getElem? (i := 2) rfl)) (fun _ h9 => h9) rfl (v := .int (g.1 0 12)) rfl dX12_readAll_67 ?_
  refine lv_if_eq (tgt := 88) hx hb dX12_readAll_70 (by decide) (fun c66001 => ?_) (fun c66001 => ?_)
  · have hf := c_it c66001 hf
    refine lv_iconst (v := (0 : Int32)) hx hb dX12_readAll_88 (by decide) ?_
    exact c_iret hx hb hr hlk hP hS rfl (c_inj hf) dX12_readAll_89
  · have hf := c_ie c66001 hf
    refine lv_aload_n hx hb dX12_readAll_73 rfl (lv_at hl 0 rfl) ?_
    refine c_get hx hb hts i_X12_readAll_X12 hown hK hP 0 tM0 rfl 11 (by decide) (hts _ (List.mem_of_getElem? (i := 1) rfl)) (fun _ h9 => h9) rfl (v := .int (g.1 0 11)) rfl dX12_readAll_74 ?_
    refine lv_aload_n hx hb dX12_readAll_77 rfl (lv_at hl 0 rfl) ?_
    refine c_get hx hb hts i_X12_readAll_X12 hown hK hP 0 tM0 rfl 10 (by decide) (hts _ (List.mem_of_getElem? (i := 6) rfl)) (fun _ h9 => h9) rfl (v := .int (g.1 0 10)) rfl dX12_readAll_78 ?_
    refine lv_icmp_ne (tgt := 88) hx hb dX12_readAll_81 (by decide) (fun c66002 => ?_) (fun c66002 => ?_)
    · have hf := c_ie c66002 hf
      refine lv_iconst (v := (0 : Int32)) hx hb dX12_readAll_88 (by decide) ?_
      exact c_iret hx hb hr hlk hP hS rfl (c_inj hf) dX12_readAll_89
    · have hf := c_it c66002 hf
      refine lv_iconst (v := (1 : Int32)) hx hb dX12_readAll_84 (by decide) ?_
      refine lv_goto (tgt := 89) hx hb dX12_readAll_85 (by decide) ?_
      exact c_iret hx hb hr hlk hP hS rfl (c_inj hf) dX12_readAll_89
def fX12_readAll_31   : Nat → Int32 → c_G → Option (c_G × Int32)
  | 0, _, _ => none
  | n + 1, x1, g => if (10 : Int32) ≤ x1 then (fX12_readAll_66 g) else ((fX12_isAt g ((59 : Int32))).bind fun r31002 => if r31002 = 0 then (fX12_readAll_66 g) else (c_let (((g.1 0 11) + (1 : Int32))) fun v31005 => c_let (c_si g 0 11 v31005) fun g31006 => (fX12_clause g31006).bind fun g31008 => c_let (x1 + (1 : Int32)) fun v31009 => (fX12_readAll_31 n) v31009 g31008))
set_option maxRecDepth 100000 in
set_option maxHeartbeats 4000000 in
theorem jX12_readAll_31 {p : Program} {l : Launch} {e : Env} {s : State} {m : MethodId} {below : List Frame} {meth : Method} {c : Code} {D : va_G} {tc : Nat → ClassId} {ad : Nat → Nat} {A : Nat → Prop} {E : (Nat → Nat) × (Nat → Nat) × Nat} {g' : c_G} {r : Int32} (C : c_C p s m meth c D tc A E RX12 wsX12_readAll cX12_readAll 2 (some .boolean) ([.ref (ad 0)] : List Value).toArray) (hD : c_D A ad TM)  : ∀ (n : Nat) (x1 : Int32) (g : c_G), fX12_readAll_31 n x1 g = some (g', r) → ∀ (H : Heap) (locs : List Loc), va_P D vwCl (c_ws tc ad TM g) H → va_S A s.heap H locs → ∀ ls : Array Slot, lv_has ls 2 [(0, .ref (ad 0)), (1, .int x1)] → W p l e (c_rm 45) s m ([.ref (ad 0)] : List Value).toArray below meth c H locs 0 0 (MQ below (va_Qi (fun (x : Int32) (_ : Unit) => x = r) (fun _ t => va_P D vwCl (c_ws tc ad TM g') t.heap) A) ([.ref (ad 0)] : List Value).toArray s 0 0 A) (F0 m 31 ls []) := by
  obtain ⟨hx, hb, hr, hml, hts, hown, hlk, hK, hE⟩ := id C
  intro n
  induction n with
  | zero =>
    intro x1 g hf
    cases hf
  | succ n ih =>
    intro x1 g hf H locs hP hS ls hl
    unfold fX12_readAll_31 at hf
    refine lv_iload_n hx hb dX12_readAll_31 rfl (lv_at hl 1 rfl) ?_
    refine lv_bipush (v := (10 : Int32)) hx hb dX12_readAll_32 (by decide) ?_
    refine lv_icmp_ge (tgt := 66) hx hb dX12_readAll_34 (by decide) (fun c31001 => ?_) (fun c31001 => ?_)
    · have hf := c_it c31001 hf
      exact jX12_readAll_66 C hD g hf _ _ hP hS _ (lv_sub hl [0] rfl)
    · have hf := c_ie c31001 hf
      refine lv_aload_n hx hb dX12_readAll_37 rfl (lv_at hl 0 rfl) ?_
      refine lv_bipush (v := (59 : Int32)) hx hb dX12_readAll_38 (by decide) ?_
      obtain ⟨r31002, hc31003, hf⟩ := c_bd hf
      refine c_goi (va_runV (As := [.int (59 : Int32)]) (rest := []) ⟨hx, hb, hml, hown, hts⟩ (kX12_isAt hD hc31003) (cwV 1 hts gX12_readAll_X12_isAt rfl rfl rfl (by decide +kernel) ⟨Nat.le_of_ble_eq_true rfl, Nat.le_of_ble_eq_true rfl⟩) (c_preV hK hP hE hS tM0 rfl) rfl rfl hl.1 rfl (lv_room (Nat.le_of_ble_eq_true rfl)) dX12_readAll_40 ⟨Nat.zero_le _, Nat.zero_le _⟩) hS (fun H locs hP hS => ?_)
      refine lv_if_eq (tgt := 66) hx hb dX12_readAll_43 (by decide) (fun c31004 => ?_) (fun c31004 => ?_)
      · have hf := c_it c31004 hf
        exact jX12_readAll_66 C hD g hf _ _ hP hS _ (lv_sub hl [0] rfl)
      · have hf := c_ie c31004 hf
        refine lv_aload_n hx hb dX12_readAll_46 rfl (lv_at hl 0 rfl) ?_
        refine lv_dup hx hb dX12_readAll_47 rfl ?_
        refine c_get hx hb hts i_X12_readAll_X12 hown hK hP 0 tM0 rfl 11 (by decide) (hts _ (List.mem_of_getElem? (i := 1) rfl)) (fun _ h9 => h9) rfl (v := .int (g.1 0 11)) rfl dX12_readAll_48 ?_
        refine lv_iconst (v := (1 : Int32)) hx hb dX12_readAll_51 (by decide) ?_
        refine lv_iadd hx hb dX12_readAll_52 ?_
        obtain ⟨v31005, ev31005, hf⟩ := c_letE hf
        refine c_topi ev31005 ?_
        obtain ⟨g31006, eg31006, hf⟩ := c_letE hf
        refine c_put hx hb hts i_X12_readAll_X12 tyX12 tyX12_ok nmX12 hown hK hP hD hS 0 tM0 rfl 11 (by decide) (hts _ (List.mem_of_getElem? (i := 1) rfl)) (fun _ h9 => h9) rfl (ty := .int) (by decide +kernel) rfl rfl rfl eg31006 dX12_readAll_53 (fun H locs hP hS => ?_)
        refine lv_aload_n hx hb dX12_readAll_56 rfl (lv_at hl 0 rfl) ?_
        obtain ⟨g31008, hc31007, hf⟩ := c_bd hf
        refine c_gov (va_runV (As := []) (rest := []) ⟨hx, hb, hml, hown, hts⟩ (kX12_clause hD hc31007) (cwV 0 hts gX12_readAll_X12_clause rfl rfl rfl (by decide +kernel) ⟨Nat.le_of_ble_eq_true rfl, Nat.le_of_ble_eq_true rfl⟩) (c_preV hK hP hE hS tM0 rfl) rfl rfl hl.1 rfl (lv_room (Nat.le_of_ble_eq_true rfl)) dX12_readAll_57 ⟨Nat.zero_le _, Nat.zero_le _⟩) hS (fun H locs hP hS => ?_)
        obtain ⟨v31009, ev31009, hf⟩ := c_letE hf
        refine lv_iinc (v := v31009) (lv' := [(1, .int v31009), (0, .ref (ad 0))]) hx hb dX12_readAll_60 hl (k := 1) rfl (by rw [ev31009]; rfl) (by decide) rfl (fun ls hl => ?_)
        refine lv_goto (tgt := 31) hx hb dX12_readAll_63 (by decide) ?_
        exact ih v31009 g31008 hf _ _ hP hS _ (lv_sub hl [1, 0] rfl)
def fX12_readAll (g : c_G)  : Option (c_G × Int32) :=
  c_let (c_si g 0 11 (0 : Int32)) fun g1 => c_let (c_si g1 0 12 (1 : Int32)) fun g2 => c_let (c_si g2 0 14 (g2.1 8 4)) fun g3 => c_let (c_si g3 0 15 (0 : Int32)) fun g4 => (fX12_clause g4).bind fun g6 => fX12_readAll_31 c_F ((1 : Int32)) g6
set_option maxRecDepth 100000 in
set_option maxHeartbeats 4000000 in
theorem kX12_readAll {l : Launch} {D : va_G} {tc : Nat → ClassId} {ad : Nat → Nat} {A : Nat → Prop} {E : (Nat → Nat) × (Nat → Nat) × Nat} (hD : c_D A ad TM)  {g g' : c_G} {r : Int32} (hf : fX12_readAll g  = some (g', r)) : c_Mi l yX12_readAll wsX12_readAll (c_rm 45) D tc ad A E TM ([.ref (ad 0)] : List Value) g g' r := by
  refine c_ofW (bytes := cX12_readAll) (maxL := 2) (ret := (some .boolean)) (by decide) rfl (Nat.le_of_ble_eq_true rfl) ?_
  intro p e s m below meth c ls C hP hS hl
  unfold fX12_readAll at hf
  obtain ⟨hx, hb, hr, hml, hts, hown, hlk, hK, hE⟩ := id C
  have hl : lv_has ls 2 [(0, .ref (ad 0))] := hl
  refine lv_aload_n hx hb dX12_readAll_0 rfl (lv_at hl 0 rfl) ?_
  refine lv_iconst (v := (0 : Int32)) hx hb dX12_readAll_1 (by decide) ?_
  obtain ⟨g1, eg1, hf⟩ := c_letE hf
  refine c_put hx hb hts i_X12_readAll_X12 tyX12 tyX12_ok nmX12 hown hK hP hD hS 0 tM0 rfl 11 (by decide) (hts _ (List.mem_of_getElem? (i := 1) rfl)) (fun _ h9 => h9) rfl (ty := .int) (by decide +kernel) rfl rfl rfl eg1 dX12_readAll_2 (fun H locs hP hS => ?_)
  refine lv_aload_n hx hb dX12_readAll_5 rfl (lv_at hl 0 rfl) ?_
  refine lv_iconst (v := (1 : Int32)) hx hb dX12_readAll_6 (by decide) ?_
  obtain ⟨g2, eg2, hf⟩ := c_letE hf
  refine c_put hx hb hts i_X12_readAll_X12 tyX12 tyX12_ok nmX12 hown hK hP hD hS 0 tM0 rfl 12 (by decide) (hts _ (List.mem_of_getElem? (i := 2) rfl)) (fun _ h9 => h9) rfl (ty := .boolean) (by decide +kernel) rfl rfl rfl eg2 dX12_readAll_7 (fun H locs hP hS => ?_)
  refine lv_aload_n hx hb dX12_readAll_10 rfl (lv_at hl 0 rfl) ?_
  refine lv_aload_n hx hb dX12_readAll_11 rfl (lv_at hl 0 rfl) ?_
  refine c_get hx hb hts i_X12_readAll_X12 hown hK hP 0 tM0 rfl 16 (by decide) (hts _ (List.mem_of_getElem? (i := 3) rfl)) (fun _ h9 => h9) rfl (v := .ref (ad 8)) rfl dX12_readAll_12 ?_
  refine lv_iconst (v := (4 : Int32)) hx hb dX12_readAll_15 (by decide) ?_
  refine c_iald (j := 4) hx hb hK hP 8 tM8 (by decide) (c_inV (by decide)) dX12_readAll_16 ?_
  obtain ⟨g3, eg3, hf⟩ := c_letE hf
  refine c_put hx hb hts i_X12_readAll_X12 tyX12 tyX12_ok nmX12 hown hK hP hD hS 0 tM0 rfl 14 (by decide) (hts _ (List.mem_of_getElem? (i := 4) rfl)) (fun _ h9 => h9) rfl (ty := .int) (by decide +kernel) rfl rfl rfl eg3 dX12_readAll_17 (fun H locs hP hS => ?_)
  refine lv_aload_n hx hb dX12_readAll_20 rfl (lv_at hl 0 rfl) ?_
  refine lv_iconst (v := (0 : Int32)) hx hb dX12_readAll_21 (by decide) ?_
  obtain ⟨g4, eg4, hf⟩ := c_letE hf
  refine c_put hx hb hts i_X12_readAll_X12 tyX12 tyX12_ok nmX12 hown hK hP hD hS 0 tM0 rfl 15 (by decide) (hts _ (List.mem_of_getElem? (i := 5) rfl)) (fun _ h9 => h9) rfl (ty := .int) (by decide +kernel) rfl rfl rfl eg4 dX12_readAll_22 (fun H locs hP hS => ?_)
  refine lv_iconst (v := (1 : Int32)) hx hb dX12_readAll_25 (by decide) ?_
  refine lv_istore_n (lv' := [(1, .int (1 : Int32)), (0, .ref (ad 0))]) hx hb dX12_readAll_26 rfl hl (by decide) rfl (fun ls hl => ?_)
  refine lv_aload_n hx hb dX12_readAll_27 rfl (lv_at hl 1 rfl) ?_
  obtain ⟨g6, hc5, hf⟩ := c_bd hf
  refine c_gov (va_runV (As := []) (rest := []) ⟨hx, hb, hml, hown, hts⟩ (kX12_clause hD hc5) (cwV 0 hts gX12_readAll_X12_clause rfl rfl rfl (by decide +kernel) ⟨Nat.le_of_ble_eq_true rfl, Nat.le_of_ble_eq_true rfl⟩) (c_preV hK hP hE hS tM0 rfl) rfl rfl hl.1 rfl (lv_room (Nat.le_of_ble_eq_true rfl)) dX12_readAll_28 ⟨Nat.zero_le _, Nat.zero_le _⟩) hS (fun H locs hP hS => ?_)
  exact jX12_readAll_31 C hD c_F ((1 : Int32)) g6 hf _ _ hP hS _ (lv_sub hl [1, 0] rfl)
theorem i_X12_readFor_X12 : ∀ w ∈ u_ws RX12 TX12 32, w ∈ wsX12_readFor := c_inP [64, 65, 66, 67, 68, 69, 70, 71, 72, 73, 74, 75, 76, 77, 78, 79, 80, 81, 82, 83, 84, 85, 86, 87, 88, 89, 90, 91, 92, 93, 94, 95] (by decide +kernel)
theorem dX12_readFor_0 : decode cX12_readFor 0 = .ok (.aload_n 0, 1) := by decide +kernel
theorem dX12_readFor_1 : decode cX12_readFor 1 = .ok (.getfield 37, 3) := by decide +kernel
theorem dX12_readFor_4 : decode cX12_readFor 4 = .ok (.iconst 0, 1) := by decide +kernel
theorem dX12_readFor_5 : decode cX12_readFor 5 = .ok (.iload_n 1, 1) := by decide +kernel
theorem dX12_readFor_6 : decode cX12_readFor 6 = .ok (.iastore, 1) := by decide +kernel
theorem dX12_readFor_7 : decode cX12_readFor 7 = .ok (.aload_n 0, 1) := by decide +kernel
theorem dX12_readFor_8 : decode cX12_readFor 8 = .ok (.getfield 37, 3) := by decide +kernel
theorem dX12_readFor_11 : decode cX12_readFor 11 = .ok (.iconst 1, 1) := by decide +kernel
theorem dX12_readFor_12 : decode cX12_readFor 12 = .ok (.aload_n 0, 1) := by decide +kernel
theorem dX12_readFor_13 : decode cX12_readFor 13 = .ok (.iload_n 1, 1) := by decide +kernel
theorem dX12_readFor_14 : decode cX12_readFor 14 = .ok (.iconst 0, 1) := by decide +kernel
theorem dX12_readFor_15 : decode cX12_readFor 15 = .ok (.invokevirtual 89, 3) := by decide +kernel
theorem dX12_readFor_18 : decode cX12_readFor 18 = .ok (.iastore, 1) := by decide +kernel
theorem dX12_readFor_19 : decode cX12_readFor 19 = .ok (.aload_n 0, 1) := by decide +kernel
theorem dX12_readFor_20 : decode cX12_readFor 20 = .ok (.getfield 37, 3) := by decide +kernel
theorem dX12_readFor_23 : decode cX12_readFor 23 = .ok (.iconst 2, 1) := by decide +kernel
theorem dX12_readFor_24 : decode cX12_readFor 24 = .ok (.aload_n 0, 1) := by decide +kernel
theorem dX12_readFor_25 : decode cX12_readFor 25 = .ok (.iload_n 1, 1) := by decide +kernel
theorem dX12_readFor_26 : decode cX12_readFor 26 = .ok (.iconst 1, 1) := by decide +kernel
theorem dX12_readFor_27 : decode cX12_readFor 27 = .ok (.invokevirtual 89, 3) := by decide +kernel
theorem dX12_readFor_30 : decode cX12_readFor 30 = .ok (.iastore, 1) := by decide +kernel
theorem dX12_readFor_31 : decode cX12_readFor 31 = .ok (.aload_n 0, 1) := by decide +kernel
theorem dX12_readFor_32 : decode cX12_readFor 32 = .ok (.getfield 37, 3) := by decide +kernel
theorem dX12_readFor_35 : decode cX12_readFor 35 = .ok (.iconst 3, 1) := by decide +kernel
theorem dX12_readFor_36 : decode cX12_readFor 36 = .ok (.iload_n 2, 1) := by decide +kernel
theorem dX12_readFor_37 : decode cX12_readFor 37 = .ok (.iastore, 1) := by decide +kernel
theorem dX12_readFor_38 : decode cX12_readFor 38 = .ok (.aload_n 0, 1) := by decide +kernel
theorem dX12_readFor_39 : decode cX12_readFor 39 = .ok (.getfield 37, 3) := by decide +kernel
theorem dX12_readFor_42 : decode cX12_readFor 42 = .ok (.iconst 4, 1) := by decide +kernel
theorem dX12_readFor_43 : decode cX12_readFor 43 = .ok (.aload_n 0, 1) := by decide +kernel
theorem dX12_readFor_44 : decode cX12_readFor 44 = .ok (.aload_n 0, 1) := by decide +kernel
theorem dX12_readFor_45 : decode cX12_readFor 45 = .ok (.getfield 15, 3) := by decide +kernel
theorem dX12_readFor_48 : decode cX12_readFor 48 = .ok (.iload_n 3, 1) := by decide +kernel
theorem dX12_readFor_49 : decode cX12_readFor 49 = .ok (.iconst 0, 1) := by decide +kernel
theorem dX12_readFor_50 : decode cX12_readFor 50 = .ok (.invokevirtual 118, 3) := by decide +kernel
theorem dX12_readFor_53 : decode cX12_readFor 53 = .ok (.iastore, 1) := by decide +kernel
theorem dX12_readFor_54 : decode cX12_readFor 54 = .ok (.aload_n 0, 1) := by decide +kernel
theorem dX12_readFor_55 : decode cX12_readFor 55 = .ok (.getfield 37, 3) := by decide +kernel
theorem dX12_readFor_58 : decode cX12_readFor 58 = .ok (.iconst 5, 1) := by decide +kernel
theorem dX12_readFor_59 : decode cX12_readFor 59 = .ok (.aload_n 0, 1) := by decide +kernel
theorem dX12_readFor_60 : decode cX12_readFor 60 = .ok (.iload_n 1, 1) := by decide +kernel
theorem dX12_readFor_61 : decode cX12_readFor 61 = .ok (.iconst 3, 1) := by decide +kernel
theorem dX12_readFor_62 : decode cX12_readFor 62 = .ok (.invokevirtual 89, 3) := by decide +kernel
theorem dX12_readFor_65 : decode cX12_readFor 65 = .ok (.bipush 10, 2) := by decide +kernel
theorem dX12_readFor_67 : decode cX12_readFor 67 = .ok (.irem, 1) := by decide +kernel
theorem dX12_readFor_68 : decode cX12_readFor 68 = .ok (.iastore, 1) := by decide +kernel
theorem dX12_readFor_69 : decode cX12_readFor 69 = .ok (.aload_n 0, 1) := by decide +kernel
theorem dX12_readFor_70 : decode cX12_readFor 70 = .ok (.getfield 15, 3) := by decide +kernel
theorem dX12_readFor_73 : decode cX12_readFor 73 = .ok (.bipush 81, 2) := by decide +kernel
theorem dX12_readFor_75 : decode cX12_readFor 75 = .ok (.iaload, 1) := by decide +kernel
theorem dX12_readFor_76 : decode cX12_readFor 76 = .ok (.ifCond .ne 19, 3) := by decide +kernel
theorem dX12_readFor_79 : decode cX12_readFor 79 = .ok (.aload_n 0, 1) := by decide +kernel
theorem dX12_readFor_80 : decode cX12_readFor 80 = .ok (.aload_n 0, 1) := by decide +kernel
theorem dX12_readFor_81 : decode cX12_readFor 81 = .ok (.getfield 37, 3) := by decide +kernel
theorem dX12_readFor_84 : decode cX12_readFor 84 = .ok (.iconst 4, 1) := by decide +kernel
theorem dX12_readFor_85 : decode cX12_readFor 85 = .ok (.iaload, 1) := by decide +kernel
theorem dX12_readFor_86 : decode cX12_readFor 86 = .ok (.putfield 182, 3) := by decide +kernel
theorem dX12_readFor_89 : decode cX12_readFor 89 = .ok (.aload_n 0, 1) := by decide +kernel
theorem dX12_readFor_90 : decode cX12_readFor 90 = .ok (.iconst 0, 1) := by decide +kernel
theorem dX12_readFor_91 : decode cX12_readFor 91 = .ok (.putfield 179, 3) := by decide +kernel
theorem dX12_readFor_94 : decode cX12_readFor 94 = .ok (.return_, 1) := by decide +kernel
theorem dX12_readFor_95 : decode cX12_readFor 95 = .ok (.aload_n 0, 1) := by decide +kernel
theorem dX12_readFor_96 : decode cX12_readFor 96 = .ok (.getfield 15, 3) := by decide +kernel
theorem dX12_readFor_99 : decode cX12_readFor 99 = .ok (.bipush 81, 2) := by decide +kernel
theorem dX12_readFor_101 : decode cX12_readFor 101 = .ok (.iaload, 1) := by decide +kernel
theorem dX12_readFor_102 : decode cX12_readFor 102 = .ok (.iconst 1, 1) := by decide +kernel
theorem dX12_readFor_103 : decode cX12_readFor 103 = .ok (.isub, 1) := by decide +kernel
theorem dX12_readFor_104 : decode cX12_readFor 104 = .ok (.istore 4, 2) := by decide +kernel
theorem dX12_readFor_106 : decode cX12_readFor 106 = .ok (.aload_n 0, 1) := by decide +kernel
theorem dX12_readFor_107 : decode cX12_readFor 107 = .ok (.aload_n 0, 1) := by decide +kernel
theorem dX12_readFor_108 : decode cX12_readFor 108 = .ok (.getfield 31, 3) := by decide +kernel
theorem dX12_readFor_111 : decode cX12_readFor 111 = .ok (.iload 4, 2) := by decide +kernel
theorem dX12_readFor_113 : decode cX12_readFor 113 = .ok (.iaload, 1) := by decide +kernel
theorem dX12_readFor_114 : decode cX12_readFor 114 = .ok (.putfield 147, 3) := by decide +kernel
theorem dX12_readFor_117 : decode cX12_readFor 117 = .ok (.iconst 0, 1) := by decide +kernel
theorem dX12_readFor_118 : decode cX12_readFor 118 = .ok (.istore 5, 2) := by decide +kernel
theorem dX12_readFor_120 : decode cX12_readFor 120 = .ok (.iload 5, 2) := by decide +kernel
theorem dX12_readFor_122 : decode cX12_readFor 122 = .ok (.aload_n 0, 1) := by decide +kernel
theorem dX12_readFor_123 : decode cX12_readFor 123 = .ok (.getfield 147, 3) := by decide +kernel
theorem dX12_readFor_126 : decode cX12_readFor 126 = .ok (.if_icmp .ge 29, 3) := by decide +kernel
theorem dX12_readFor_129 : decode cX12_readFor 129 = .ok (.aload_n 0, 1) := by decide +kernel
theorem dX12_readFor_130 : decode cX12_readFor 130 = .ok (.getfield 34, 3) := by decide +kernel
theorem dX12_readFor_133 : decode cX12_readFor 133 = .ok (.iload 5, 2) := by decide +kernel
theorem dX12_readFor_135 : decode cX12_readFor 135 = .ok (.aload_n 0, 1) := by decide +kernel
theorem dX12_readFor_136 : decode cX12_readFor 136 = .ok (.getfield 28, 3) := by decide +kernel
theorem dX12_readFor_139 : decode cX12_readFor 139 = .ok (.bipush 100, 2) := by decide +kernel
theorem dX12_readFor_141 : decode cX12_readFor 141 = .ok (.iload 4, 2) := by decide +kernel
theorem dX12_readFor_143 : decode cX12_readFor 143 = .ok (.imul, 1) := by decide +kernel
theorem dX12_readFor_144 : decode cX12_readFor 144 = .ok (.iload 5, 2) := by decide +kernel
theorem dX12_readFor_146 : decode cX12_readFor 146 = .ok (.iadd, 1) := by decide +kernel
theorem dX12_readFor_147 : decode cX12_readFor 147 = .ok (.iaload, 1) := by decide +kernel
theorem dX12_readFor_148 : decode cX12_readFor 148 = .ok (.iastore, 1) := by decide +kernel
theorem dX12_readFor_149 : decode cX12_readFor 149 = .ok (.iinc 5 1, 3) := by decide +kernel
theorem dX12_readFor_152 : decode cX12_readFor 152 = .ok (.goto (-32), 3) := by decide +kernel
theorem dX12_readFor_155 : decode cX12_readFor 155 = .ok (.aload_n 0, 1) := by decide +kernel
theorem dX12_readFor_156 : decode cX12_readFor 156 = .ok (.invokevirtual 188, 3) := by decide +kernel
theorem dX12_readFor_159 : decode cX12_readFor 159 = .ok (.pop, 1) := by decide +kernel
theorem dX12_readFor_160 : decode cX12_readFor 160 = .ok (.return_, 1) := by decide +kernel
set_option maxRecDepth 20000 in
theorem ggX12_readFor_X12_one : GoodIn wsX12_readFor wsX12_one := goodIn_r _ [13, 2, 64, 65, 66, 67, 68, 69, 70, 71, 72, 73, 74, 75, 76, 77, 78, 79, 80, 81, 82, 83, 84, 85, 86, 87, 88, 89, 90, 91, 92, 93, 94, 95] (by decide +kernel) (by decide +kernel)
set_option maxRecDepth 20000 in
theorem gX12_readFor_X12_one : GoodIn wsX12_readFor (wsV RX12 89 RX12 yX12_one wsX12_one) := goodIn_app (goodIn_of _ (by decide +kernel)) ggX12_readFor_X12_one
set_option maxRecDepth 20000 in
theorem ggX12_readFor_X12_of : GoodIn wsX12_readFor wsX12_of := goodIn_r _ [17] (by decide +kernel) (by decide +kernel)
set_option maxRecDepth 20000 in
theorem gX12_readFor_X12_of : GoodIn wsX12_readFor (wsV RX12 118 RX12 yX12_of wsX12_of) := goodIn_app (goodIn_of _ (by decide +kernel)) ggX12_readFor_X12_of
set_option maxRecDepth 20000 in
theorem ggX12_readFor_X12_readAll : GoodIn wsX12_readFor wsX12_readAll := goodIn_r _ [21, 22, 23, 1, 3, 4, 6, 24, 25, 26, 12, 27, 28, 29, 30, 31, 32, 33, 34, 7, 35, 36, 37, 38, 39, 40, 41, 42, 43, 44, 45, 46, 47, 48, 49, 50, 51, 52, 53, 54, 55, 56, 57, 58, 59, 60, 61, 62, 63, 64, 65, 66, 67, 68, 69, 70, 71, 72, 73, 74, 75, 76, 77, 78, 79, 80, 81, 82, 83, 84, 85, 86, 87, 88, 89, 90, 91, 92, 93, 94, 95] (by decide +kernel) (by decide +kernel)
set_option maxRecDepth 20000 in
theorem gX12_readFor_X12_readAll : GoodIn wsX12_readFor (wsV RX12 188 RX12 yX12_readAll wsX12_readAll) := goodIn_app (goodIn_of _ (by decide +kernel)) ggX12_readFor_X12_readAll
def fX12_readFor_120  (a1 : Int32) (a2 : Int32) (a3 : Int32) : Nat → Int32 → Int32 → c_G → Option (c_G)
  | 0, _, _, _ => none
  | n + 1, x4, x5, g => if (g.1 0 10) ≤ x5 then (c_b2 (fX12_readAll g) fun g120003 r120004 => some g120003) else (if c_in ((((100 : Int32) * x4) + x5)) (600) = true then if c_in (x5) (100) = true then c_let (c_si g 7 (x5).toNatClampNeg (g.1 5 ((((100 : Int32) * x4) + x5)).toNatClampNeg)) fun g120007 => c_let (x5 + (1 : Int32)) fun v120008 => (fX12_readFor_120 a1 a2 a3 n) x4 v120008 g120007 else none else none)
set_option maxRecDepth 100000 in
set_option maxHeartbeats 4000000 in
theorem jX12_readFor_120 {p : Program} {l : Launch} {e : Env} {s : State} {m : MethodId} {below : List Frame} {meth : Method} {c : Code} {D : va_G} {tc : Nat → ClassId} {ad : Nat → Nat} {A : Nat → Prop} {E : (Nat → Nat) × (Nat → Nat) × Nat} {a1 : Int32} {a2 : Int32} {a3 : Int32} {g' : c_G} (C : c_C p s m meth c D tc A E RX12 wsX12_readFor cX12_readFor 6 none ([.ref (ad 0), .int a1, .int a2, .int a3] : List Value).toArray) (hD : c_D A ad TM)  : ∀ (n : Nat) (x4 : Int32) (x5 : Int32) (g : c_G), fX12_readFor_120 a1 a2 a3 n x4 x5 g = some g' → ∀ (H : Heap) (locs : List Loc), va_P D vwCl (c_ws tc ad TM g) H → va_S A s.heap H locs → ∀ ls : Array Slot, lv_has ls 6 [(0, .ref (ad 0)), (4, .int x4), (5, .int x5)] → W p l e (c_rm 46) s m ([.ref (ad 0), .int a1, .int a2, .int a3] : List Value).toArray below meth c H locs 0 0 (MQ below (va_Qv (fun (_ : Unit) => True) (fun _ t => va_P D vwCl (c_ws tc ad TM g') t.heap) A) ([.ref (ad 0), .int a1, .int a2, .int a3] : List Value).toArray s 0 0 A) (F0 m 120 ls []) := by
  obtain ⟨hx, hb, hr, hml, hts, hown, hlk, hK, hE⟩ := id C
  intro n
  induction n with
  | zero =>
    intro x4 x5 g hf
    cases hf
  | succ n ih =>
    intro x4 x5 g hf H locs hP hS ls hl
    unfold fX12_readFor_120 at hf
    refine lv_iload hx hb dX12_readFor_120 (lv_at hl 2 rfl) ?_
    refine lv_aload_n hx hb dX12_readFor_122 rfl (lv_at hl 0 rfl) ?_
    refine c_get hx hb hts i_X12_readFor_X12 hown hK hP 0 tM0 rfl 10 (by decide) (hts _ (List.mem_of_getElem? (i := 6) rfl)) (fun _ h9 => h9) rfl (v := .int (g.1 0 10)) rfl dX12_readFor_123 ?_
    refine lv_icmp_ge (tgt := 155) hx hb dX12_readFor_126 (by decide) (fun c120001 => ?_) (fun c120001 => ?_)
    · have hf := c_it c120001 hf
      refine lv_aload_n hx hb dX12_readFor_155 rfl (lv_at hl 0 rfl) ?_
      obtain ⟨g120003, r120004, hc120002, hf⟩ := c_b2E hf
      refine c_goi (va_runV (As := []) (rest := []) ⟨hx, hb, hml, hown, hts⟩ (kX12_readAll hD hc120002) (cwV 0 hts gX12_readFor_X12_readAll rfl rfl rfl (by decide +kernel) ⟨Nat.le_of_ble_eq_true rfl, Nat.le_of_ble_eq_true rfl⟩) (c_preV hK hP hE hS tM0 rfl) rfl rfl hl.1 rfl (lv_room (Nat.le_of_ble_eq_true rfl)) dX12_readFor_156 ⟨Nat.zero_le _, Nat.zero_le _⟩) hS (fun H locs hP hS => ?_)
      refine lv_pop hx hb dX12_readFor_159 rfl ?_
      exact c_vret hx hb hr hlk hP hS (Option.some.inj hf) dX12_readFor_160
    · have hf := c_ie c120001 hf
      refine lv_aload_n hx hb dX12_readFor_129 rfl (lv_at hl 0 rfl) ?_
      refine c_get hx hb hts i_X12_readFor_X12 hown hK hP 0 tM0 rfl 9 (by decide) (hts _ (List.mem_of_getElem? (i := 7) rfl)) (fun _ h9 => h9) rfl (v := .ref (ad 7)) rfl dX12_readFor_130 ?_
      refine lv_iload hx hb dX12_readFor_133 (lv_at hl 2 rfl) ?_
      refine lv_aload_n hx hb dX12_readFor_135 rfl (lv_at hl 0 rfl) ?_
      refine c_get hx hb hts i_X12_readFor_X12 hown hK hP 0 tM0 rfl 6 (by decide) (hts _ (List.mem_of_getElem? (i := 8) rfl)) (fun _ h9 => h9) rfl (v := .ref (ad 5)) rfl dX12_readFor_136 ?_
      refine lv_bipush (v := (100 : Int32)) hx hb dX12_readFor_139 (by decide) ?_
      refine lv_iload hx hb dX12_readFor_141 (lv_at hl 1 rfl) ?_
      refine lv_imul hx hb dX12_readFor_143 ?_
      refine lv_iload hx hb dX12_readFor_144 (lv_at hl 2 rfl) ?_
      refine lv_iadd hx hb dX12_readFor_146 ?_
      obtain ⟨hi120005, hf⟩ := c_gd hf
      refine c_iald (j := ((((100 : Int32) * x4) + x5)).toNatClampNeg) hx hb hK hP 5 tM5 rfl (c_inV hi120005) dX12_readFor_147 ?_
      obtain ⟨hi120006, hf⟩ := c_gd hf
      obtain ⟨g120007, eg120007, hf⟩ := c_letE hf
      refine c_iast (j := (x5).toNatClampNeg) hx hb hK hP hD hS 7 tM7 rfl (c_inV hi120006) eg120007 dX12_readFor_148 (fun H locs hP hS => ?_)
      obtain ⟨v120008, ev120008, hf⟩ := c_letE hf
      refine lv_iinc (v := v120008) (lv' := [(5, .int v120008), (0, .ref (ad 0)), (4, .int x4)]) hx hb dX12_readFor_149 hl (k := 2) rfl (by rw [ev120008]; rfl) (by decide) rfl (fun ls hl => ?_)
      refine lv_goto (tgt := 120) hx hb dX12_readFor_152 (by decide) ?_
      exact ih x4 v120008 g120007 hf _ _ hP hS _ (lv_sub hl [1, 2, 0] rfl)
def fX12_readFor (g : c_G) (a1 : Int32) (a2 : Int32) (a3 : Int32) : Option (c_G) :=
  c_let (c_si g 8 0 a1) fun g1 => (fX12_one g1 a1 ((0 : Int32))).bind fun r2 => c_let (c_si g1 8 1 r2) fun g4 => (fX12_one g4 a1 ((1 : Int32))).bind fun r5 => c_let (c_si g4 8 2 r5) fun g7 => c_let (c_si g7 8 3 a2) fun g8 => (fX12_of g8 a3 ((0 : Int32))).bind fun r9 => c_let (c_si g8 8 4 r9) fun g11 => (fX12_one g11 a1 ((3 : Int32))).bind fun r12 => c_let ((r12 - r12 / (10 : Int32) * (10 : Int32))) fun v14 => c_let (c_si g11 8 5 v14) fun g15 => if (g15.1 1 81) = 0 then (c_let (c_si g15 0 14 (g15.1 8 4)) fun g20 => c_let (c_si g20 0 15 (0 : Int32)) fun g21 => some g21) else (c_let (((g15.1 1 81) - (1 : Int32))) fun v17 => if c_in (v17) (6) = true then c_let (c_si g15 0 10 (g15.1 6 (v17).toNatClampNeg)) fun g19 => fX12_readFor_120 a1 a2 a3 c_F v17 ((0 : Int32)) g19 else none)
set_option maxRecDepth 100000 in
set_option maxHeartbeats 4000000 in
theorem kX12_readFor {l : Launch} {D : va_G} {tc : Nat → ClassId} {ad : Nat → Nat} {A : Nat → Prop} {E : (Nat → Nat) × (Nat → Nat) × Nat} (hD : c_D A ad TM) {a1 : Int32} {a2 : Int32} {a3 : Int32} {g g' : c_G} (hf : fX12_readFor g a1 a2 a3 = some g') : c_Mv l yX12_readFor wsX12_readFor (c_rm 46) D tc ad A E TM ([.ref (ad 0), .int a1, .int a2, .int a3] : List Value) g g' := by
  refine c_ofW (bytes := cX12_readFor) (maxL := 6) (ret := none) (by decide) rfl (Nat.le_of_ble_eq_true rfl) ?_
  intro p e s m below meth c ls C hP hS hl
  unfold fX12_readFor at hf
  obtain ⟨hx, hb, hr, hml, hts, hown, hlk, hK, hE⟩ := id C
  have hl : lv_has ls 6 [(0, .ref (ad 0)), (1, .int a1), (2, .int a2), (3, .int a3)] := hl
  refine lv_aload_n hx hb dX12_readFor_0 rfl (lv_at hl 0 rfl) ?_
  refine c_get hx hb hts i_X12_readFor_X12 hown hK hP 0 tM0 rfl 16 (by decide) (hts _ (List.mem_of_getElem? (i := 1) rfl)) (fun _ h9 => h9) rfl (v := .ref (ad 8)) rfl dX12_readFor_1 ?_
  refine lv_iconst (v := (0 : Int32)) hx hb dX12_readFor_4 (by decide) ?_
  refine lv_iload_n hx hb dX12_readFor_5 rfl (lv_at hl 1 rfl) ?_
  obtain ⟨g1, eg1, hf⟩ := c_letE hf
  refine c_iast (j := 0) hx hb hK hP hD hS 8 tM8 (by decide) (c_inV (by decide)) eg1 dX12_readFor_6 (fun H locs hP hS => ?_)
  refine lv_aload_n hx hb dX12_readFor_7 rfl (lv_at hl 0 rfl) ?_
  refine c_get hx hb hts i_X12_readFor_X12 hown hK hP 0 tM0 rfl 16 (by decide) (hts _ (List.mem_of_getElem? (i := 1) rfl)) (fun _ h9 => h9) rfl (v := .ref (ad 8)) rfl dX12_readFor_8 ?_
  refine lv_iconst (v := (1 : Int32)) hx hb dX12_readFor_11 (by decide) ?_
  refine lv_aload_n hx hb dX12_readFor_12 rfl (lv_at hl 0 rfl) ?_
  refine lv_iload_n hx hb dX12_readFor_13 rfl (lv_at hl 1 rfl) ?_
  refine lv_iconst (v := (0 : Int32)) hx hb dX12_readFor_14 (by decide) ?_
  obtain ⟨r2, hc3, hf⟩ := c_bd hf
  refine c_goi (va_runV (As := [.int a1, .int (0 : Int32)]) (rest := [.int (1 : Int32), .ref (ad 8)]) ⟨hx, hb, hml, hown, hts⟩ (kX12_one hD hc3) (cwV 2 hts gX12_readFor_X12_one rfl rfl rfl (by decide +kernel) ⟨Nat.le_of_ble_eq_true rfl, Nat.le_of_ble_eq_true rfl⟩) (c_preV hK hP hE hS tM0 rfl) rfl rfl hl.1 rfl (lv_room (Nat.le_of_ble_eq_true rfl)) dX12_readFor_15 ⟨Nat.zero_le _, Nat.zero_le _⟩) hS (fun H locs hP hS => ?_)
  obtain ⟨g4, eg4, hf⟩ := c_letE hf
  refine c_iast (j := 1) hx hb hK hP hD hS 8 tM8 (by decide) (c_inV (by decide)) eg4 dX12_readFor_18 (fun H locs hP hS => ?_)
  refine lv_aload_n hx hb dX12_readFor_19 rfl (lv_at hl 0 rfl) ?_
  refine c_get hx hb hts i_X12_readFor_X12 hown hK hP 0 tM0 rfl 16 (by decide) (hts _ (List.mem_of_getElem? (i := 1) rfl)) (fun _ h9 => h9) rfl (v := .ref (ad 8)) rfl dX12_readFor_20 ?_
  refine lv_iconst (v := (2 : Int32)) hx hb dX12_readFor_23 (by decide) ?_
  refine lv_aload_n hx hb dX12_readFor_24 rfl (lv_at hl 0 rfl) ?_
  refine lv_iload_n hx hb dX12_readFor_25 rfl (lv_at hl 1 rfl) ?_
  refine lv_iconst (v := (1 : Int32)) hx hb dX12_readFor_26 (by decide) ?_
  obtain ⟨r5, hc6, hf⟩ := c_bd hf
  refine c_goi (va_runV (As := [.int a1, .int (1 : Int32)]) (rest := [.int (2 : Int32), .ref (ad 8)]) ⟨hx, hb, hml, hown, hts⟩ (kX12_one hD hc6) (cwV 2 hts gX12_readFor_X12_one rfl rfl rfl (by decide +kernel) ⟨Nat.le_of_ble_eq_true rfl, Nat.le_of_ble_eq_true rfl⟩) (c_preV hK hP hE hS tM0 rfl) rfl rfl hl.1 rfl (lv_room (Nat.le_of_ble_eq_true rfl)) dX12_readFor_27 ⟨Nat.zero_le _, Nat.zero_le _⟩) hS (fun H locs hP hS => ?_)
  obtain ⟨g7, eg7, hf⟩ := c_letE hf
  refine c_iast (j := 2) hx hb hK hP hD hS 8 tM8 (by decide) (c_inV (by decide)) eg7 dX12_readFor_30 (fun H locs hP hS => ?_)
  refine lv_aload_n hx hb dX12_readFor_31 rfl (lv_at hl 0 rfl) ?_
  refine c_get hx hb hts i_X12_readFor_X12 hown hK hP 0 tM0 rfl 16 (by decide) (hts _ (List.mem_of_getElem? (i := 1) rfl)) (fun _ h9 => h9) rfl (v := .ref (ad 8)) rfl dX12_readFor_32 ?_
  refine lv_iconst (v := (3 : Int32)) hx hb dX12_readFor_35 (by decide) ?_
  refine lv_iload_n hx hb dX12_readFor_36 rfl (lv_at hl 2 rfl) ?_
  obtain ⟨g8, eg8, hf⟩ := c_letE hf
  refine c_iast (j := 3) hx hb hK hP hD hS 8 tM8 (by decide) (c_inV (by decide)) eg8 dX12_readFor_37 (fun H locs hP hS => ?_)
  refine lv_aload_n hx hb dX12_readFor_38 rfl (lv_at hl 0 rfl) ?_
  refine c_get hx hb hts i_X12_readFor_X12 hown hK hP 0 tM0 rfl 16 (by decide) (hts _ (List.mem_of_getElem? (i := 1) rfl)) (fun _ h9 => h9) rfl (v := .ref (ad 8)) rfl dX12_readFor_39 ?_
  refine lv_iconst (v := (4 : Int32)) hx hb dX12_readFor_42 (by decide) ?_
  refine lv_aload_n hx hb dX12_readFor_43 rfl (lv_at hl 0 rfl) ?_
  refine lv_aload_n hx hb dX12_readFor_44 rfl (lv_at hl 0 rfl) ?_
  refine c_get hx hb hts i_X12_readFor_X12 hown hK hP 0 tM0 rfl 0 (by decide) (hts _ (List.mem_of_getElem? (i := 2) rfl)) (fun _ h9 => h9) rfl (v := .ref (ad 1)) rfl dX12_readFor_45 ?_
  refine lv_iload_n hx hb dX12_readFor_48 rfl (lv_at hl 3 rfl) ?_
  refine lv_iconst (v := (0 : Int32)) hx hb dX12_readFor_49 (by decide) ?_
  obtain ⟨r9, hc10, hf⟩ := c_bd hf
  refine c_goi (va_runV (As := [.ref (ad 1), .int a3, .int (0 : Int32)]) (rest := [.int (4 : Int32), .ref (ad 8)]) ⟨hx, hb, hml, hown, hts⟩ (kX12_of hD hc10) (cwV 3 hts gX12_readFor_X12_of rfl rfl rfl (by decide +kernel) ⟨Nat.le_of_ble_eq_true rfl, Nat.le_of_ble_eq_true rfl⟩) (c_preV hK hP hE hS tM0 rfl) rfl rfl hl.1 rfl (lv_room (Nat.le_of_ble_eq_true rfl)) dX12_readFor_50 ⟨Nat.zero_le _, Nat.zero_le _⟩) hS (fun H locs hP hS => ?_)
  obtain ⟨g11, eg11, hf⟩ := c_letE hf
  refine c_iast (j := 4) hx hb hK hP hD hS 8 tM8 (by decide) (c_inV (by decide)) eg11 dX12_readFor_53 (fun H locs hP hS => ?_)
  refine lv_aload_n hx hb dX12_readFor_54 rfl (lv_at hl 0 rfl) ?_
  refine c_get hx hb hts i_X12_readFor_X12 hown hK hP 0 tM0 rfl 16 (by decide) (hts _ (List.mem_of_getElem? (i := 1) rfl)) (fun _ h9 => h9) rfl (v := .ref (ad 8)) rfl dX12_readFor_55 ?_
  refine lv_iconst (v := (5 : Int32)) hx hb dX12_readFor_58 (by decide) ?_
  refine lv_aload_n hx hb dX12_readFor_59 rfl (lv_at hl 0 rfl) ?_
  refine lv_iload_n hx hb dX12_readFor_60 rfl (lv_at hl 1 rfl) ?_
  refine lv_iconst (v := (3 : Int32)) hx hb dX12_readFor_61 (by decide) ?_
  obtain ⟨r12, hc13, hf⟩ := c_bd hf
  refine c_goi (va_runV (As := [.int a1, .int (3 : Int32)]) (rest := [.int (5 : Int32), .ref (ad 8)]) ⟨hx, hb, hml, hown, hts⟩ (kX12_one hD hc13) (cwV 2 hts gX12_readFor_X12_one rfl rfl rfl (by decide +kernel) ⟨Nat.le_of_ble_eq_true rfl, Nat.le_of_ble_eq_true rfl⟩) (c_preV hK hP hE hS tM0 rfl) rfl rfl hl.1 rfl (lv_room (Nat.le_of_ble_eq_true rfl)) dX12_readFor_62 ⟨Nat.zero_le _, Nat.zero_le _⟩) hS (fun H locs hP hS => ?_)
  refine lv_bipush (v := (10 : Int32)) hx hb dX12_readFor_65 (by decide) ?_
  refine lv_irem hx hb dX12_readFor_67 (by decide) ?_
  obtain ⟨v14, ev14, hf⟩ := c_letE hf
  refine c_topi ev14 ?_
  obtain ⟨g15, eg15, hf⟩ := c_letE hf
  refine c_iast (j := 5) hx hb hK hP hD hS 8 tM8 (by decide) (c_inV (by decide)) eg15 dX12_readFor_68 (fun H locs hP hS => ?_)
  refine lv_aload_n hx hb dX12_readFor_69 rfl (lv_at hl 0 rfl) ?_
  refine c_get hx hb hts i_X12_readFor_X12 hown hK hP 0 tM0 rfl 0 (by decide) (hts _ (List.mem_of_getElem? (i := 2) rfl)) (fun _ h9 => h9) rfl (v := .ref (ad 1)) rfl dX12_readFor_70 ?_
  refine lv_bipush (v := (81 : Int32)) hx hb dX12_readFor_73 (by decide) ?_
  refine c_iald (j := 81) hx hb hK hP 1 tM1 (by decide) (c_inV (by decide)) dX12_readFor_75 ?_
  refine lv_if_ne (tgt := 95) hx hb dX12_readFor_76 (by decide) (fun c16 => ?_) (fun c16 => ?_)
  · have hf := c_ie c16 hf
    refine lv_aload_n hx hb dX12_readFor_95 rfl (lv_at hl 0 rfl) ?_
    refine c_get hx hb hts i_X12_readFor_X12 hown hK hP 0 tM0 rfl 0 (by decide) (hts _ (List.mem_of_getElem? (i := 2) rfl)) (fun _ h9 => h9) rfl (v := .ref (ad 1)) rfl dX12_readFor_96 ?_
    refine lv_bipush (v := (81 : Int32)) hx hb dX12_readFor_99 (by decide) ?_
    refine c_iald (j := 81) hx hb hK hP 1 tM1 (by decide) (c_inV (by decide)) dX12_readFor_101 ?_
    refine lv_iconst (v := (1 : Int32)) hx hb dX12_readFor_102 (by decide) ?_
    refine lv_isub hx hb dX12_readFor_103 ?_
    obtain ⟨v17, ev17, hf⟩ := c_letE hf
    refine c_topi ev17 ?_
    refine lv_istore (lv' := [(4, .int v17), (0, .ref (ad 0)), (1, .int a1), (2, .int a2), (3, .int a3)]) hx hb dX12_readFor_104 hl (by decide) rfl (fun ls hl => ?_)
    refine lv_aload_n hx hb dX12_readFor_106 rfl (lv_at hl 1 rfl) ?_
    refine lv_aload_n hx hb dX12_readFor_107 rfl (lv_at hl 1 rfl) ?_
    refine c_get hx hb hts i_X12_readFor_X12 hown hK hP 0 tM0 rfl 7 (by decide) (hts _ (List.mem_of_getElem? (i := 5) rfl)) (fun _ h9 => h9) rfl (v := .ref (ad 6)) rfl dX12_readFor_108 ?_
    refine lv_iload hx hb dX12_readFor_111 (lv_at hl 0 rfl) ?_
    obtain ⟨hi18, hf⟩ := c_gd hf
    refine c_iald (j := (v17).toNatClampNeg) hx hb hK hP 6 tM6 rfl (c_inV hi18) dX12_readFor_113 ?_
    obtain ⟨g19, eg19, hf⟩ := c_letE hf
    refine c_put hx hb hts i_X12_readFor_X12 tyX12 tyX12_ok nmX12 hown hK hP hD hS 0 tM0 rfl 10 (by decide) (hts _ (List.mem_of_getElem? (i := 6) rfl)) (fun _ h9 => h9) rfl (ty := .int) (by decide +kernel) rfl rfl rfl eg19 dX12_readFor_114 (fun H locs hP hS => ?_)
    refine lv_iconst (v := (0 : Int32)) hx hb dX12_readFor_117 (by decide) ?_
    refine lv_istore (lv' := [(5, .int (0 : Int32)), (4, .int v17), (0, .ref (ad 0)), (1, .int a1), (2, .int a2), (3, .int a3)]) hx hb dX12_readFor_118 hl (by decide) rfl (fun ls hl => ?_)
    exact jX12_readFor_120 C hD c_F v17 ((0 : Int32)) g19 hf _ _ hP hS _ (lv_sub hl [2, 1, 0] rfl)
  · have hf := c_it c16 hf
    refine lv_aload_n hx hb dX12_readFor_79 rfl (lv_at hl 0 rfl) ?_
    refine lv_aload_n hx hb dX12_readFor_80 rfl (lv_at hl 0 rfl) ?_
    refine c_get hx hb hts i_X12_readFor_X12 hown hK hP 0 tM0 rfl 16 (by decide) (hts _ (List.mem_of_getElem? (i := 1) rfl)) (fun _ h9 => h9) rfl (v := .ref (ad 8)) rfl dX12_readFor_81 ?_
    refine lv_iconst (v := (4 : Int32)) hx hb dX12_readFor_84 (by decide) ?_
    refine c_iald (j := 4) hx hb hK hP 8 tM8 (by decide) (c_inV (by decide)) dX12_readFor_85 ?_
    obtain ⟨g20, eg20, hf⟩ := c_letE hf
    refine c_put hx hb hts i_X12_readFor_X12 tyX12 tyX12_ok nmX12 hown hK hP hD hS 0 tM0 rfl 14 (by decide) (hts _ (List.mem_of_getElem? (i := 3) rfl)) (fun _ h9 => h9) rfl (ty := .int) (by decide +kernel) rfl rfl rfl eg20 dX12_readFor_86 (fun H locs hP hS => ?_)
    refine lv_aload_n hx hb dX12_readFor_89 rfl (lv_at hl 0 rfl) ?_
    refine lv_iconst (v := (0 : Int32)) hx hb dX12_readFor_90 (by decide) ?_
    obtain ⟨g21, eg21, hf⟩ := c_letE hf
    refine c_put hx hb hts i_X12_readFor_X12 tyX12 tyX12_ok nmX12 hown hK hP hD hS 0 tM0 rfl 15 (by decide) (hts _ (List.mem_of_getElem? (i := 4) rfl)) (fun _ h9 => h9) rfl (ty := .int) (by decide +kernel) rfl rfl rfl eg21 dX12_readFor_91 (fun H locs hP hS => ?_)
    exact c_vret hx hb hr hlk hP hS (Option.some.inj hf) dX12_readFor_94
theorem i_X12_fit_X12 : ∀ w ∈ u_ws RX12 TX12 32, w ∈ wsX12_fit := c_inP [68, 69, 70, 71, 72, 73, 74, 75, 76, 77, 78, 79, 80, 81, 82, 83, 84, 85, 86, 87, 88, 89, 90, 91, 92, 93, 94, 95, 96, 97, 98, 99] (by decide +kernel)
theorem dX12_fit_0 : decode cX12_fit 0 = .ok (.aload_n 0, 1) := by decide +kernel
theorem dX12_fit_1 : decode cX12_fit 1 = .ok (.iload_n 1, 1) := by decide +kernel
theorem dX12_fit_2 : decode cX12_fit 2 = .ok (.iload_n 2, 1) := by decide +kernel
theorem dX12_fit_3 : decode cX12_fit 3 = .ok (.iload_n 3, 1) := by decide +kernel
theorem dX12_fit_4 : decode cX12_fit 4 = .ok (.invokevirtual 194, 3) := by decide +kernel
theorem dX12_fit_7 : decode cX12_fit 7 = .ok (.aload_n 0, 1) := by decide +kernel
theorem dX12_fit_8 : decode cX12_fit 8 = .ok (.getfield 182, 3) := by decide +kernel
theorem dX12_fit_11 : decode cX12_fit 11 = .ok (.iload_n 2, 1) := by decide +kernel
theorem dX12_fit_12 : decode cX12_fit 12 = .ok (.bipush 6, 2) := by decide +kernel
theorem dX12_fit_14 : decode cX12_fit 14 = .ok (.if_icmp .ge 12, 3) := by decide +kernel
theorem dX12_fit_17 : decode cX12_fit 17 = .ok (.aload_n 0, 1) := by decide +kernel
theorem dX12_fit_18 : decode cX12_fit 18 = .ok (.iload_n 1, 1) := by decide +kernel
theorem dX12_fit_19 : decode cX12_fit 19 = .ok (.iconst 1, 1) := by decide +kernel
theorem dX12_fit_20 : decode cX12_fit 20 = .ok (.invokevirtual 89, 3) := by decide +kernel
theorem dX12_fit_23 : decode cX12_fit 23 = .ok (.goto 4, 3) := by decide +kernel
theorem dX12_fit_26 : decode cX12_fit 26 = .ok (.iconst 0, 1) := by decide +kernel
theorem dX12_fit_27 : decode cX12_fit 27 = .ok (.iadd, 1) := by decide +kernel
theorem dX12_fit_28 : decode cX12_fit 28 = .ok (.istore 4, 2) := by decide +kernel
theorem dX12_fit_30 : decode cX12_fit 30 = .ok (.aload_n 0, 1) := by decide +kernel
theorem dX12_fit_31 : decode cX12_fit 31 = .ok (.getfield 182, 3) := by decide +kernel
theorem dX12_fit_34 : decode cX12_fit 34 = .ok (.iconst 2, 1) := by decide +kernel
theorem dX12_fit_35 : decode cX12_fit 35 = .ok (.aload_n 0, 1) := by decide +kernel
theorem dX12_fit_36 : decode cX12_fit 36 = .ok (.aload_n 0, 1) := by decide +kernel
theorem dX12_fit_37 : decode cX12_fit 37 = .ok (.getfield 15, 3) := by decide +kernel
theorem dX12_fit_40 : decode cX12_fit 40 = .ok (.iload_n 3, 1) := by decide +kernel
theorem dX12_fit_41 : decode cX12_fit 41 = .ok (.iconst 0, 1) := by decide +kernel
theorem dX12_fit_42 : decode cX12_fit 42 = .ok (.invokevirtual 118, 3) := by decide +kernel
theorem dX12_fit_45 : decode cX12_fit 45 = .ok (.imul, 1) := by decide +kernel
theorem dX12_fit_46 : decode cX12_fit 46 = .ok (.isub, 1) := by decide +kernel
theorem dX12_fit_47 : decode cX12_fit 47 = .ok (.istore 5, 2) := by decide +kernel
theorem dX12_fit_49 : decode cX12_fit 49 = .ok (.aload_n 0, 1) := by decide +kernel
theorem dX12_fit_50 : decode cX12_fit 50 = .ok (.iload_n 1, 1) := by decide +kernel
theorem dX12_fit_51 : decode cX12_fit 51 = .ok (.iconst 0, 1) := by decide +kernel
theorem dX12_fit_52 : decode cX12_fit 52 = .ok (.invokevirtual 89, 3) := by decide +kernel
theorem dX12_fit_55 : decode cX12_fit 55 = .ok (.tableswitch 94 1 6 #[37, 40, 47, 50, 72, 80], 37) := by decide +kernel
theorem dX12_fit_92 : decode cX12_fit 92 = .ok (.iload 4, 2) := by decide +kernel
theorem dX12_fit_94 : decode cX12_fit 94 = .ok (.ireturn, 1) := by decide +kernel
theorem dX12_fit_95 : decode cX12_fit 95 = .ok (.aload_n 0, 1) := by decide +kernel
theorem dX12_fit_96 : decode cX12_fit 96 = .ok (.getfield 182, 3) := by decide +kernel
theorem dX12_fit_99 : decode cX12_fit 99 = .ok (.iconst 2, 1) := by decide +kernel
theorem dX12_fit_100 : decode cX12_fit 100 = .ok (.idiv, 1) := by decide +kernel
theorem dX12_fit_101 : decode cX12_fit 101 = .ok (.ireturn, 1) := by decide +kernel
theorem dX12_fit_102 : decode cX12_fit 102 = .ok (.iload 5, 2) := by decide +kernel
theorem dX12_fit_104 : decode cX12_fit 104 = .ok (.ireturn, 1) := by decide +kernel
theorem dX12_fit_105 : decode cX12_fit 105 = .ok (.aload_n 0, 1) := by decide +kernel
theorem dX12_fit_106 : decode cX12_fit 106 = .ok (.iload_n 1, 1) := by decide +kernel
theorem dX12_fit_107 : decode cX12_fit 107 = .ok (.iconst 3, 1) := by decide +kernel
theorem dX12_fit_108 : decode cX12_fit 108 = .ok (.invokevirtual 89, 3) := by decide +kernel
theorem dX12_fit_111 : decode cX12_fit 111 = .ok (.aload_n 0, 1) := by decide +kernel
theorem dX12_fit_112 : decode cX12_fit 112 = .ok (.iload_n 1, 1) := by decide +kernel
theorem dX12_fit_113 : decode cX12_fit 113 = .ok (.iconst 1, 1) := by decide +kernel
theorem dX12_fit_114 : decode cX12_fit 114 = .ok (.invokevirtual 89, 3) := by decide +kernel
theorem dX12_fit_117 : decode cX12_fit 117 = .ok (.if_icmp .ge 7, 3) := by decide +kernel
theorem dX12_fit_120 : decode cX12_fit 120 = .ok (.iconst 0, 1) := by decide +kernel
theorem dX12_fit_121 : decode cX12_fit 121 = .ok (.goto 5, 3) := by decide +kernel
theorem dX12_fit_124 : decode cX12_fit 124 = .ok (.iload 4, 2) := by decide +kernel
theorem dX12_fit_126 : decode cX12_fit 126 = .ok (.ireturn, 1) := by decide +kernel
theorem dX12_fit_127 : decode cX12_fit 127 = .ok (.aload_n 0, 1) := by decide +kernel
theorem dX12_fit_128 : decode cX12_fit 128 = .ok (.getfield 182, 3) := by decide +kernel
theorem dX12_fit_131 : decode cX12_fit 131 = .ok (.iconst 2, 1) := by decide +kernel
theorem dX12_fit_132 : decode cX12_fit 132 = .ok (.idiv, 1) := by decide +kernel
theorem dX12_fit_133 : decode cX12_fit 133 = .ok (.ineg, 1) := by decide +kernel
theorem dX12_fit_134 : decode cX12_fit 134 = .ok (.ireturn, 1) := by decide +kernel
theorem dX12_fit_135 : decode cX12_fit 135 = .ok (.iload 5, 2) := by decide +kernel
theorem dX12_fit_137 : decode cX12_fit 137 = .ok (.aload_n 0, 1) := by decide +kernel
theorem dX12_fit_138 : decode cX12_fit 138 = .ok (.iload_n 1, 1) := by decide +kernel
theorem dX12_fit_139 : decode cX12_fit 139 = .ok (.iconst 5, 1) := by decide +kernel
theorem dX12_fit_140 : decode cX12_fit 140 = .ok (.iload_n 2, 1) := by decide +kernel
theorem dX12_fit_141 : decode cX12_fit 141 = .ok (.iconst 4, 1) := by decide +kernel
theorem dX12_fit_142 : decode cX12_fit 142 = .ok (.irem, 1) := by decide +kernel
theorem dX12_fit_143 : decode cX12_fit 143 = .ok (.iadd, 1) := by decide +kernel
theorem dX12_fit_144 : decode cX12_fit 144 = .ok (.invokevirtual 89, 3) := by decide +kernel
theorem dX12_fit_147 : decode cX12_fit 147 = .ok (.iadd, 1) := by decide +kernel
theorem dX12_fit_148 : decode cX12_fit 148 = .ok (.ireturn, 1) := by decide +kernel
theorem dX12_fit_149 : decode cX12_fit 149 = .ok (.aload_n 0, 1) := by decide +kernel
theorem dX12_fit_150 : decode cX12_fit 150 = .ok (.getfield 182, 3) := by decide +kernel
theorem dX12_fit_153 : decode cX12_fit 153 = .ok (.ireturn, 1) := by decide +kernel
set_option maxRecDepth 20000 in
theorem ggX12_fit_X12_readFor : GoodIn wsX12_fit wsX12_readFor := goodIn_r _ [7, 8, 2, 1, 9, 10, 11, 12, 13, 14, 15, 16, 6, 17, 18, 19, 20, 21, 22, 23, 24, 25, 26, 27, 28, 29, 30, 31, 32, 33, 34, 35, 36, 37, 38, 39, 40, 41, 42, 43, 44, 45, 46, 47, 48, 49, 50, 51, 52, 53, 54, 55, 56, 57, 58, 59, 60, 61, 62, 63, 64, 65, 66, 67, 68, 69, 70, 71, 72, 73, 74, 75, 76, 77, 78, 79, 80, 81, 82, 83, 84, 85, 86, 87, 88, 89, 90, 91, 92, 93, 94, 95, 96, 97, 98, 99] (by decide +kernel) (by decide +kernel)
set_option maxRecDepth 20000 in
theorem gX12_fit_X12_readFor : GoodIn wsX12_fit (wsV RX12 194 RX12 yX12_readFor wsX12_readFor) := goodIn_app (goodIn_of _ (by decide +kernel)) ggX12_fit_X12_readFor
set_option maxRecDepth 20000 in
theorem ggX12_fit_X12_one : GoodIn wsX12_fit wsX12_one := goodIn_r _ [17, 2, 68, 69, 70, 71, 72, 73, 74, 75, 76, 77, 78, 79, 80, 81, 82, 83, 84, 85, 86, 87, 88, 89, 90, 91, 92, 93, 94, 95, 96, 97, 98, 99] (by decide +kernel) (by decide +kernel)
set_option maxRecDepth 20000 in
theorem gX12_fit_X12_one : GoodIn wsX12_fit (wsV RX12 89 RX12 yX12_one wsX12_one) := goodIn_app (goodIn_of _ (by decide +kernel)) ggX12_fit_X12_one
set_option maxRecDepth 20000 in
theorem ggX12_fit_X12_of : GoodIn wsX12_fit wsX12_of := goodIn_r _ [21] (by decide +kernel) (by decide +kernel)
set_option maxRecDepth 20000 in
theorem gX12_fit_X12_of : GoodIn wsX12_fit (wsV RX12 118 RX12 yX12_of wsX12_of) := goodIn_app (goodIn_of _ (by decide +kernel)) ggX12_fit_X12_of
def fX12_fit_27  (a1 : Int32) (a2 : Int32) (a3 : Int32) (x1 : Int32) (x2 : Int32) (x3 : Int32) (y0 : Int32) (y1 : Int32) (g : c_G) : Option (c_G × Int32) :=
  c_let ((y0 + y1)) fun v27001 => (fX12_of g x3 ((0 : Int32))).bind fun r27002 => c_let (((g.1 0 14) - ((2 : Int32) * r27002))) fun v27004 => (fX12_one g x1 ((0 : Int32))).bind fun r27005 => if r27005 = (1 : Int32) then (some (g, v27001)) else if r27005 = (2 : Int32) then (some (g, ((g.1 0 14) / (2 : Int32)))) else if r27005 = (3 : Int32) then (some (g, v27004)) else if r27005 = (4 : Int32) then ((fX12_one g x1 ((3 : Int32))).bind fun r27011 => (fX12_one g x1 ((1 : Int32))).bind fun r27013 => if r27013 ≤ r27011 then (some (g, v27001)) else (some (g, (0 : Int32)))) else if r27005 = (5 : Int32) then (some (g, (-((g.1 0 14) / (2 : Int32))))) else if r27005 = (6 : Int32) then ((fX12_one g x1 (((5 : Int32) + (x2 - x2 / (4 : Int32) * (4 : Int32))))).bind fun r27018 => some (g, (v27004 + r27018))) else (some (g, (g.1 0 14)))
set_option maxRecDepth 100000 in
set_option maxHeartbeats 4000000 in
theorem jX12_fit_27 {p : Program} {l : Launch} {e : Env} {s : State} {m : MethodId} {below : List Frame} {meth : Method} {c : Code} {D : va_G} {tc : Nat → ClassId} {ad : Nat → Nat} {A : Nat → Prop} {E : (Nat → Nat) × (Nat → Nat) × Nat} {a1 : Int32} {a2 : Int32} {a3 : Int32} {g' : c_G} {r : Int32} (C : c_C p s m meth c D tc A E RX12 wsX12_fit cX12_fit 6 (some .int) ([.ref (ad 0), .int a1, .int a2, .int a3] : List Value).toArray) (hD : c_D A ad TM)  : ∀ (x1 : Int32) (x2 : Int32) (x3 : Int32) (y0 : Int32) (y1 : Int32) (g : c_G), fX12_fit_27 a1 a2 a3 x1 x2 x3 y0 y1 g = some (g', r) → ∀ (H : Heap) (locs : List Loc), va_P D vwCl (c_ws tc ad TM g) H → va_S A s.heap H locs → ∀ ls : Array Slot, lv_has ls 6 [(0, .ref (ad 0)), (1, .int x1), (2, .int x2), (3, .int x3)] → W p l e (c_rm 47) s m ([.ref (ad 0), .int a1, .int a2, .int a3] : List Value).toArray below meth c H locs 0 0 (MQ below (va_Qi (fun (x : Int32) (_ : Unit) => x = r) (fun _ t => va_P D vwCl (c_ws tc ad TM g') t.heap) A) ([.ref (ad 0), .int a1, .int a2, .int a3] : List Value).toArray s 0 0 A) (F0 m 27 ls [.int y1, .int y0]) := by
  obtain ⟨hx, hb, hr, hml, hts, hown, hlk, hK, hE⟩ := id C
  intro x1 x2 x3 y0 y1 g hf H locs hP hS ls hl
  unfold fX12_fit_27 at hf
  refine lv_iadd hx hb dX12_fit_27 ?_
  obtain ⟨v27001, ev27001, hf⟩ := c_letE hf
  refine c_topi ev27001 ?_
  refine lv_istore (lv' := [(4, .int v27001), (0, .ref (ad 0)), (1, .int x1), (2, .int x2), (3, .int x3)]) hx hb dX12_fit_28 hl (by decide) rfl (fun ls hl => ?_)
  refine lv_aload_n hx hb dX12_fit_30 rfl (lv_at hl 1 rfl) ?_
  refine c_get hx hb hts i_X12_fit_X12 hown hK hP 0 tM0 rfl 14 (by decide) (hts _ (List.mem_of_getElem? (i := 1) rfl)) (fun _ h9 => h9) rfl (v := .int (g.1 0 14)) rfl dX12_fit_31 ?_
  refine lv_iconst (v := (2 : Int32)) hx hb dX12_fit_34 (by decide) ?_
  refine lv_aload_n hx hb dX12_fit_35 rfl (lv_at hl 1 rfl) ?_
  refine lv_aload_n hx hb dX12_fit_36 rfl (lv_at hl 1 rfl) ?_
  refine c_get hx hb hts i_X12_fit_X12 hown hK hP 0 tM0 rfl 0 (by decide) (hts _ (List.mem_of_getElem? (i := 2) rfl)) (fun _ h9 => h9) rfl (v := .ref (ad 1)) rfl dX12_fit_37 ?_
  refine lv_iload_n hx hb dX12_fit_40 rfl (lv_at hl 4 rfl) ?_
  refine lv_iconst (v := (0 : Int32)) hx hb dX12_fit_41 (by decide) ?_
  obtain ⟨r27002, hc27003, hf⟩ := c_bd hf
  refine c_goi (va_runV (As := [.ref (ad 1), .int x3, .int (0 : Int32)]) (rest := [.int (2 : Int32), .int (g.1 0 14)]) ⟨hx, hb, hml, hown, hts⟩ (kX12_of hD hc27003) (cwV 3 hts gX12_fit_X12_of rfl rfl rfl (by decide +kernel) ⟨Nat.le_of_ble_eq_true rfl, Nat.le_of_ble_eq_true rfl⟩) (c_preV hK hP hE hS tM0 rfl) rfl rfl hl.1 rfl (lv_room (Nat.le_of_ble_eq_true rfl)) dX12_fit_42 ⟨Nat.zero_le _, Nat.zero_le _⟩) hS (fun H locs hP hS => ?_)
  refine lv_imul hx hb dX12_fit_45 ?_
  refine lv_isub hx hb dX12_fit_46 ?_
  obtain ⟨v27004, ev27004, hf⟩ := c_letE hf
  refine c_topi ev27004 ?_
  refine lv_istore (lv' := [(5, .int v27004), (4, .int v27001), (0, .ref (ad 0)), (1, .int x1), (2, .int x2), (3, .int x3)]) hx hb dX12_fit_47 hl (by decide) rfl (fun ls hl => ?_)
  refine lv_aload_n hx hb dX12_fit_49 rfl (lv_at hl 2 rfl) ?_
  refine lv_iload_n hx hb dX12_fit_50 rfl (lv_at hl 3 rfl) ?_
  refine lv_iconst (v := (0 : Int32)) hx hb dX12_fit_51 (by decide) ?_
  obtain ⟨r27005, hc27006, hf⟩ := c_bd hf
  refine c_goi (va_runV (As := [.int x1, .int (0 : Int32)]) (rest := []) ⟨hx, hb, hml, hown, hts⟩ (kX12_one hD hc27006) (cwV 2 hts gX12_fit_X12_one rfl rfl rfl (by decide +kernel) ⟨Nat.le_of_ble_eq_true rfl, Nat.le_of_ble_eq_true rfl⟩) (c_preV hK hP hE hS tM0 rfl) rfl rfl hl.1 rfl (lv_room (Nat.le_of_ble_eq_true rfl)) dX12_fit_52 ⟨Nat.zero_le _, Nat.zero_le _⟩) hS (fun H locs hP hS => ?_)
  by_cases c27007 : r27005 = (1 : Int32)
  · have hf := c_it c27007 hf
    refine lv_tableIn (off := 37) (tgt := 92) hx hb dX12_fit_55 (by rw [c27007]; decide) (by rw [c27007]; decide) (by rw [c27007]; rfl) (by decide) ?_
    refine lv_iload hx hb dX12_fit_92 (lv_at hl 1 rfl) ?_
    exact c_iret hx hb hr hlk hP hS rfl (c_inj hf) dX12_fit_94
  have hf := c_ie c27007 hf
  by_cases c27008 : r27005 = (2 : Int32)
  · have hf := c_it c27008 hf
    refine lv_tableIn (off := 40) (tgt := 95) hx hb dX12_fit_55 (by rw [c27008]; decide) (by rw [c27008]; decide) (by rw [c27008]; rfl) (by decide) ?_
    refine lv_aload_n hx hb dX12_fit_95 rfl (lv_at hl 2 rfl) ?_
    refine c_get hx hb hts i_X12_fit_X12 hown hK hP 0 tM0 rfl 14 (by decide) (hts _ (List.mem_of_getElem? (i := 1) rfl)) (fun _ h9 => h9) rfl (v := .int (g.1 0 14)) rfl dX12_fit_96 ?_
    refine lv_iconst (v := (2 : Int32)) hx hb dX12_fit_99 (by decide) ?_
    refine lv_idiv hx hb dX12_fit_100 (by decide) ?_
    exact c_iret hx hb hr hlk hP hS rfl (c_inj hf) dX12_fit_101
  have hf := c_ie c27008 hf
  by_cases c27009 : r27005 = (3 : Int32)
  · have hf := c_it c27009 hf
    refine lv_tableIn (off := 47) (tgt := 102) hx hb dX12_fit_55 (by rw [c27009]; decide) (by rw [c27009]; decide) (by rw [c27009]; rfl) (by decide) ?_
    refine lv_iload hx hb dX12_fit_102 (lv_at hl 0 rfl) ?_
    exact c_iret hx hb hr hlk hP hS rfl (c_inj hf) dX12_fit_104
  have hf := c_ie c27009 hf
  by_cases c27010 : r27005 = (4 : Int32)
  · have hf := c_it c27010 hf
    refine lv_tableIn (off := 50) (tgt := 105) hx hb dX12_fit_55 (by rw [c27010]; decide) (by rw [c27010]; decide) (by rw [c27010]; rfl) (by decide) ?_
    refine lv_aload_n hx hb dX12_fit_105 rfl (lv_at hl 2 rfl) ?_
    refine lv_iload_n hx hb dX12_fit_106 rfl (lv_at hl 3 rfl) ?_
    refine lv_iconst (v := (3 : Int32)) hx hb dX12_fit_107 (by decide) ?_
    obtain ⟨r27011, hc27012, hf⟩ := c_bd hf
    refine c_goi (va_runV (As := [.int x1, .int (3 : Int32)]) (rest := []) ⟨hx, hb, hml, hown, hts⟩ (kX12_one hD hc27012) (cwV 2 hts gX12_fit_X12_one rfl rfl rfl (by decide +kernel) ⟨Nat.le_of_ble_eq_true rfl, Nat.le_of_ble_eq_true rfl⟩) (c_preV hK hP hE hS tM0 rfl) rfl rfl hl.1 rfl (lv_room (Nat.le_of_ble_eq_true rfl)) dX12_fit_108 ⟨Nat.zero_le _, Nat.zero_le _⟩) hS (fun H locs hP hS => ?_)
    refine lv_aload_n hx hb dX12_fit_111 rfl (lv_at hl 2 rfl) ?_
    refine lv_iload_n hx hb dX12_fit_112 rfl (lv_at hl 3 rfl) ?_
    refine lv_iconst (v := (1 : Int32)) hx hb dX12_fit_113 (by decide) ?_
    obtain ⟨r27013, hc27014, hf⟩ := c_bd hf
    refine c_goi (va_runV (As := [.int x1, .int (1 : Int32)]) (rest := [.int r27011]) ⟨hx, hb, hml, hown, hts⟩ (kX12_one hD hc27014) (cwV 2 hts gX12_fit_X12_one rfl rfl rfl (by decide +kernel) ⟨Nat.le_of_ble_eq_true rfl, Nat.le_of_ble_eq_true rfl⟩) (c_preV hK hP hE hS tM0 rfl) rfl rfl hl.1 rfl (lv_room (Nat.le_of_ble_eq_true rfl)) dX12_fit_114 ⟨Nat.zero_le _, Nat.zero_le _⟩) hS (fun H locs hP hS => ?_)
    refine lv_icmp_ge (tgt := 124) hx hb dX12_fit_117 (by decide) (fun c27015 => ?_) (fun c27015 => ?_)
    · have hf := c_it c27015 hf
      refine lv_iload hx hb dX12_fit_124 (lv_at hl 1 rfl) ?_
      exact c_iret hx hb hr hlk hP hS rfl (c_inj hf) dX12_fit_126
    · have hf := c_ie c27015 hf
      refine lv_iconst (v := (0 : Int32)) hx hb dX12_fit_120 (by decide) ?_
      refine lv_goto (tgt := 126) hx hb dX12_fit_121 (by decide) ?_
      exact c_iret hx hb hr hlk hP hS rfl (c_inj hf) dX12_fit_126
  have hf := c_ie c27010 hf
  by_cases c27016 : r27005 = (5 : Int32)
  · have hf := c_it c27016 hf
    refine lv_tableIn (off := 72) (tgt := 127) hx hb dX12_fit_55 (by rw [c27016]; decide) (by rw [c27016]; decide) (by rw [c27016]; rfl) (by decide) ?_
    refine lv_aload_n hx hb dX12_fit_127 rfl (lv_at hl 2 rfl) ?_
    refine c_get hx hb hts i_X12_fit_X12 hown hK hP 0 tM0 rfl 14 (by decide) (hts _ (List.mem_of_getElem? (i := 1) rfl)) (fun _ h9 => h9) rfl (v := .int (g.1 0 14)) rfl dX12_fit_128 ?_
    refine lv_iconst (v := (2 : Int32)) hx hb dX12_fit_131 (by decide) ?_
    refine lv_idiv hx hb dX12_fit_132 (by decide) ?_
    refine lv_ineg hx hb dX12_fit_133 ?_
    exact c_iret hx hb hr hlk hP hS rfl (c_inj hf) dX12_fit_134
  have hf := c_ie c27016 hf
  by_cases c27017 : r27005 = (6 : Int32)
  · have hf := c_it c27017 hf
    refine lv_tableIn (off := 80) (tgt := 135) hx hb dX12_fit_55 (by rw [c27017]; decide) (by rw [c27017]; decide) (by rw [c27017]; rfl) (by decide) ?_
    refine lv_iload hx hb dX12_fit_135 (lv_at hl 0 rfl) ?_
    refine lv_aload_n hx hb dX12_fit_137 rfl (lv_at hl 2 rfl) ?_
    refine lv_iload_n hx hb dX12_fit_138 rfl (lv_at hl 3 rfl) ?_
    refine lv_iconst (v := (5 : Int32)) hx hb dX12_fit_139 (by decide) ?_
    refine lv_iload_n hx hb dX12_fit_140 rfl (lv_at hl 4 rfl) ?_
    refine lv_iconst (v := (4 : Int32)) hx hb dX12_fit_141 (by decide) ?_
    refine lv_irem hx hb dX12_fit_142 (by decide) ?_
    refine lv_iadd hx hb dX12_fit_143 ?_
    obtain ⟨r27018, hc27019, hf⟩ := c_bd hf
    refine c_goi (va_runV (As := [.int x1, .int ((5 : Int32) + (x2 - x2 / (4 : Int32) * (4 : Int32)))]) (rest := [.int v27004]) ⟨hx, hb, hml, hown, hts⟩ (kX12_one hD hc27019) (cwV 2 hts gX12_fit_X12_one rfl rfl rfl (by decide +kernel) ⟨Nat.le_of_ble_eq_true rfl, Nat.le_of_ble_eq_true rfl⟩) (c_preV hK hP hE hS tM0 rfl) rfl rfl hl.1 rfl (lv_room (Nat.le_of_ble_eq_true rfl)) dX12_fit_144 ⟨Nat.zero_le _, Nat.zero_le _⟩) hS (fun H locs hP hS => ?_)
    refine lv_iadd hx hb dX12_fit_147 ?_
    exact c_iret hx hb hr hlk hP hS rfl (c_inj hf) dX12_fit_148
  have hf := c_ie c27017 hf
  have h9 := c_sw (x := r27005) (lo := 1) (n := 6) (by decide) (fun k hj hk => by rcases (show k = 1 ∨ k = 2 ∨ k = 3 ∨ k = 4 ∨ k = 5 ∨ k = 6 by omega) with rfl | rfl | rfl | rfl | rfl | rfl <;> assumption)
  refine lv_tableOut (tgt := 149) hx hb dX12_fit_55 (by omega) (by decide) ?_
  refine lv_aload_n hx hb dX12_fit_149 rfl (lv_at hl 2 rfl) ?_
  refine c_get hx hb hts i_X12_fit_X12 hown hK hP 0 tM0 rfl 14 (by decide) (hts _ (List.mem_of_getElem? (i := 1) rfl)) (fun _ h9 => h9) rfl (v := .int (g.1 0 14)) rfl dX12_fit_150 ?_
  exact c_iret hx hb hr hlk hP hS rfl (c_inj hf) dX12_fit_153
def fX12_fit (g : c_G) (a1 : Int32) (a2 : Int32) (a3 : Int32) : Option (c_G × Int32) :=
  (fX12_readFor g a1 a2 a3).bind fun g2 => if (6 : Int32) ≤ a2 then (fX12_fit_27 a1 a2 a3 a1 a2 a3 ((g2.1 0 14)) ((0 : Int32)) g2) else ((fX12_one g2 a1 ((1 : Int32))).bind fun r4 => fX12_fit_27 a1 a2 a3 a1 a2 a3 ((g2.1 0 14)) r4 g2)
set_option maxRecDepth 100000 in
set_option maxHeartbeats 4000000 in
theorem kX12_fit {l : Launch} {D : va_G} {tc : Nat → ClassId} {ad : Nat → Nat} {A : Nat → Prop} {E : (Nat → Nat) × (Nat → Nat) × Nat} (hD : c_D A ad TM) {a1 : Int32} {a2 : Int32} {a3 : Int32} {g g' : c_G} {r : Int32} (hf : fX12_fit g a1 a2 a3 = some (g', r)) : c_Mi l yX12_fit wsX12_fit (c_rm 47) D tc ad A E TM ([.ref (ad 0), .int a1, .int a2, .int a3] : List Value) g g' r := by
  refine c_ofW (bytes := cX12_fit) (maxL := 6) (ret := (some .int)) (by decide) rfl (Nat.le_of_ble_eq_true rfl) ?_
  intro p e s m below meth c ls C hP hS hl
  unfold fX12_fit at hf
  obtain ⟨hx, hb, hr, hml, hts, hown, hlk, hK, hE⟩ := id C
  have hl : lv_has ls 6 [(0, .ref (ad 0)), (1, .int a1), (2, .int a2), (3, .int a3)] := hl
  refine lv_aload_n hx hb dX12_fit_0 rfl (lv_at hl 0 rfl) ?_
  refine lv_iload_n hx hb dX12_fit_1 rfl (lv_at hl 1 rfl) ?_
  refine lv_iload_n hx hb dX12_fit_2 rfl (lv_at hl 2 rfl) ?_
  refine lv_iload_n hx hb dX12_fit_3 rfl (lv_at hl 3 rfl) ?_
  obtain ⟨g2, hc1, hf⟩ := c_bd hf
  refine c_gov (va_runV (As := [.int a1, .int a2, .int a3]) (rest := []) ⟨hx, hb, hml, hown, hts⟩ (kX12_readFor hD hc1) (cwV 3 hts gX12_fit_X12_readFor rfl rfl rfl (by decide +kernel) ⟨Nat.le_of_ble_eq_true rfl, Nat.le_of_ble_eq_true rfl⟩) (c_preV hK hP hE hS tM0 rfl) rfl rfl hl.1 rfl (lv_room (Nat.le_of_ble_eq_true rfl)) dX12_fit_4 ⟨Nat.zero_le _, Nat.zero_le _⟩) hS (fun H locs hP hS => ?_)
  refine lv_aload_n hx hb dX12_fit_7 rfl (lv_at hl 0 rfl) ?_
  refine c_get hx hb hts i_X12_fit_X12 hown hK hP 0 tM0 rfl 14 (by decide) (hts _ (List.mem_of_getElem? (i := 1) rfl)) (fun _ h9 => h9) rfl (v := .int (g2.1 0 14)) rfl dX12_fit_8 ?_
  refine lv_iload_n hx hb dX12_fit_11 rfl (lv_at hl 2 rfl) ?_
  refine lv_bipush (v := (6 : Int32)) hx hb dX12_fit_12 (by decide) ?_
  refine lv_icmp_ge (tgt := 26) hx hb dX12_fit_14 (by decide) (fun c3 => ?_) (fun c3 => ?_)
  · have hf := c_it c3 hf
    refine lv_iconst (v := (0 : Int32)) hx hb dX12_fit_26 (by decide) ?_
    exact jX12_fit_27 C hD a1 a2 a3 ((g2.1 0 14)) ((0 : Int32)) g2 hf _ _ hP hS _ (lv_sub hl [0, 1, 2, 3] rfl)
  · have hf := c_ie c3 hf
    refine lv_aload_n hx hb dX12_fit_17 rfl (lv_at hl 0 rfl) ?_
    refine lv_iload_n hx hb dX12_fit_18 rfl (lv_at hl 1 rfl) ?_
    refine lv_iconst (v := (1 : Int32)) hx hb dX12_fit_19 (by decide) ?_
    obtain ⟨r4, hc5, hf⟩ := c_bd hf
    refine c_goi (va_runV (As := [.int a1, .int (1 : Int32)]) (rest := [.int (g2.1 0 14)]) ⟨hx, hb, hml, hown, hts⟩ (kX12_one hD hc5) (cwV 2 hts gX12_fit_X12_one rfl rfl rfl (by decide +kernel) ⟨Nat.le_of_ble_eq_true rfl, Nat.le_of_ble_eq_true rfl⟩) (c_preV hK hP hE hS tM0 rfl) rfl rfl hl.1 rfl (lv_room (Nat.le_of_ble_eq_true rfl)) dX12_fit_20 ⟨Nat.zero_le _, Nat.zero_le _⟩) hS (fun H locs hP hS => ?_)
    refine lv_goto (tgt := 27) hx hb dX12_fit_23 (by decide) ?_
    exact jX12_fit_27 C hD a1 a2 a3 ((g2.1 0 14)) r4 g2 hf _ _ hP hS _ (lv_sub hl [0, 1, 2, 3] rfl)
theorem i_X12_tell_X12 : ∀ w ∈ u_ws RX12 TX12 32, w ∈ wsX12_tell := c_inP [73, 74, 75, 76, 77, 78, 79, 80, 81, 82, 83, 84, 85, 86, 87, 88, 89, 90, 91, 92, 93, 94, 95, 96, 97, 98, 99, 100, 101, 102, 103, 104] (by decide +kernel)
theorem dX12_tell_0 : decode cX12_tell 0 = .ok (.iconst 0, 1) := by decide +kernel
theorem dX12_tell_1 : decode cX12_tell 1 = .ok (.istore_n 3, 1) := by decide +kernel
theorem dX12_tell_2 : decode cX12_tell 2 = .ok (.iload_n 3, 1) := by decide +kernel
theorem dX12_tell_3 : decode cX12_tell 3 = .ok (.bipush 12, 2) := by decide +kernel
theorem dX12_tell_5 : decode cX12_tell 5 = .ok (.if_icmp .ge 27, 3) := by decide +kernel
theorem dX12_tell_8 : decode cX12_tell 8 = .ok (.aload_n 0, 1) := by decide +kernel
theorem dX12_tell_9 : decode cX12_tell 9 = .ok (.getfield 50, 3) := by decide +kernel
theorem dX12_tell_12 : decode cX12_tell 12 = .ok (.bipush 12, 2) := by decide +kernel
theorem dX12_tell_14 : decode cX12_tell 14 = .ok (.iload_n 2, 1) := by decide +kernel
theorem dX12_tell_15 : decode cX12_tell 15 = .ok (.imul, 1) := by decide +kernel
theorem dX12_tell_16 : decode cX12_tell 16 = .ok (.iload_n 3, 1) := by decide +kernel
theorem dX12_tell_17 : decode cX12_tell 17 = .ok (.iadd, 1) := by decide +kernel
theorem dX12_tell_18 : decode cX12_tell 18 = .ok (.aload_n 0, 1) := by decide +kernel
theorem dX12_tell_19 : decode cX12_tell 19 = .ok (.iload_n 1, 1) := by decide +kernel
theorem dX12_tell_20 : decode cX12_tell 20 = .ok (.iload_n 3, 1) := by decide +kernel
theorem dX12_tell_21 : decode cX12_tell 21 = .ok (.iload_n 2, 1) := by decide +kernel
theorem dX12_tell_22 : decode cX12_tell 22 = .ok (.invokevirtual 128, 3) := by decide +kernel
theorem dX12_tell_25 : decode cX12_tell 25 = .ok (.iastore, 1) := by decide +kernel
theorem dX12_tell_26 : decode cX12_tell 26 = .ok (.iinc 3 1, 3) := by decide +kernel
theorem dX12_tell_29 : decode cX12_tell 29 = .ok (.goto (-27), 3) := by decide +kernel
theorem dX12_tell_32 : decode cX12_tell 32 = .ok (.return_, 1) := by decide +kernel
set_option maxRecDepth 20000 in
theorem ggX12_tell_X12_fit : GoodIn wsX12_tell wsX12_fit := goodIn_r _ [6, 7, 8, 9, 10, 11, 5, 12, 13, 14, 15, 16, 17, 18, 19, 20, 21, 22, 23, 24, 25, 26, 27, 28, 29, 30, 31, 32, 33, 34, 35, 36, 37, 38, 39, 40, 41, 42, 43, 44, 45, 46, 47, 48, 49, 50, 51, 52, 53, 54, 55, 56, 57, 58, 59, 60, 61, 62, 63, 64, 65, 66, 67, 68, 69, 70, 71, 72, 73, 74, 75, 76, 77, 78, 79, 80, 81, 82, 83, 84, 85, 86, 87, 88, 89, 90, 91, 92, 93, 94, 95, 96, 97, 98, 99, 100, 101, 102, 103, 104] (by decide +kernel) (by decide +kernel)
set_option maxRecDepth 20000 in
theorem gX12_tell_X12_fit : GoodIn wsX12_tell (wsV RX12 128 RX12 yX12_fit wsX12_fit) := goodIn_app (goodIn_of _ (by decide +kernel)) ggX12_tell_X12_fit
def fX12_tell_2  (a1 : Int32) (a2 : Int32) : Nat → Int32 → Int32 → Int32 → c_G → Option (c_G)
  | 0, _, _, _, _ => none
  | n + 1, x1, x2, x3, g => if (12 : Int32) ≤ x3 then (some g) else (c_b2 (fX12_fit g x1 x3 x2) fun g2003 r2004 => if c_in ((((12 : Int32) * x2) + x3)) (72) = true then c_let (c_si g2003 12 ((((12 : Int32) * x2) + x3)).toNatClampNeg r2004) fun g2006 => c_let (x3 + (1 : Int32)) fun v2007 => (fX12_tell_2 a1 a2 n) x1 x2 v2007 g2006 else none)
set_option maxRecDepth 100000 in
set_option maxHeartbeats 4000000 in
theorem jX12_tell_2 {p : Program} {l : Launch} {e : Env} {s : State} {m : MethodId} {below : List Frame} {meth : Method} {c : Code} {D : va_G} {tc : Nat → ClassId} {ad : Nat → Nat} {A : Nat → Prop} {E : (Nat → Nat) × (Nat → Nat) × Nat} {a1 : Int32} {a2 : Int32} {g' : c_G} (C : c_C p s m meth c D tc A E RX12 wsX12_tell cX12_tell 4 none ([.ref (ad 0), .int a1, .int a2] : List Value).toArray) (hD : c_D A ad TM)  : ∀ (n : Nat) (x1 : Int32) (x2 : Int32) (x3 : Int32) (g : c_G), fX12_tell_2 a1 a2 n x1 x2 x3 g = some g' → ∀ (H : Heap) (locs : List Loc), va_P D vwCl (c_ws tc ad TM g) H → va_S A s.heap H locs → ∀ ls : Array Slot, lv_has ls 4 [(0, .ref (ad 0)), (1, .int x1), (2, .int x2), (3, .int x3)] → W p l e (c_rm 48) s m ([.ref (ad 0), .int a1, .int a2] : List Value).toArray below meth c H locs 0 0 (MQ below (va_Qv (fun (_ : Unit) => True) (fun _ t => va_P D vwCl (c_ws tc ad TM g') t.heap) A) ([.ref (ad 0), .int a1, .int a2] : List Value).toArray s 0 0 A) (F0 m 2 ls []) := by
  obtain ⟨hx, hb, hr, hml, hts, hown, hlk, hK, hE⟩ := id C
  intro n
  induction n with
  | zero =>
    intro x1 x2 x3 g hf
    cases hf
  | succ n ih =>
    intro x1 x2 x3 g hf H locs hP hS ls hl
    unfold fX12_tell_2 at hf
    refine lv_iload_n hx hb dX12_tell_2 rfl (lv_at hl 3 rfl) ?_
    refine lv_bipush (v := (12 : Int32)) hx hb dX12_tell_3 (by decide) ?_
    refine lv_icmp_ge (tgt := 32) hx hb dX12_tell_5 (by decide) (fun c2001 => ?_) (fun c2001 => ?_)
    · have hf := c_it c2001 hf
      exact c_vret hx hb hr hlk hP hS (Option.some.inj hf) dX12_tell_32
    · have hf := c_ie c2001 hf
      refine lv_aload_n hx hb dX12_tell_8 rfl (lv_at hl 0 rfl) ?_
      refine c_get hx hb hts i_X12_tell_X12 hown hK hP 0 tM0 rfl 20 (by decide) (hts _ (List.mem_of_getElem? (i := 1) rfl)) (fun _ h9 => h9) rfl (v := .ref (ad 12)) rfl dX12_tell_9 ?_
      refine lv_bipush (v := (12 : Int32)) hx hb dX12_tell_12 (by decide) ?_
      refine lv_iload_n hx hb dX12_tell_14 rfl (lv_at hl 2 rfl) ?_
      refine lv_imul hx hb dX12_tell_15 ?_
      refine lv_iload_n hx hb dX12_tell_16 rfl (lv_at hl 3 rfl) ?_
      refine lv_iadd hx hb dX12_tell_17 ?_
      refine lv_aload_n hx hb dX12_tell_18 rfl (lv_at hl 0 rfl) ?_
      refine lv_iload_n hx hb dX12_tell_19 rfl (lv_at hl 1 rfl) ?_
      refine lv_iload_n hx hb dX12_tell_20 rfl (lv_at hl 3 rfl) ?_
      refine lv_iload_n hx hb dX12_tell_21 rfl (lv_at hl 2 rfl) ?_
      obtain ⟨g2003, r2004, hc2002, hf⟩ := c_b2E hf
      refine c_goi (va_runV (As := [.int x1, .int x3, .int x2]) (rest := [.int (((12 : Int32) * x2) + x3), .ref (ad 12)]) ⟨hx, hb, hml, hown, hts⟩ (kX12_fit hD hc2002) (cwV 3 hts gX12_tell_X12_fit rfl rfl rfl (by decide +kernel) ⟨Nat.le_of_ble_eq_true rfl, Nat.le_of_ble_eq_true rfl⟩) (c_preV hK hP hE hS tM0 rfl) rfl rfl hl.1 rfl (lv_room (Nat.le_of_ble_eq_true rfl)) dX12_tell_22 ⟨Nat.zero_le _, Nat.zero_le _⟩) hS (fun H locs hP hS => ?_)
      obtain ⟨hi2005, hf⟩ := c_gd hf
      obtain ⟨g2006, eg2006, hf⟩ := c_letE hf
      refine c_iast (j := ((((12 : Int32) * x2) + x3)).toNatClampNeg) hx hb hK hP hD hS 12 tM12 rfl (c_inV hi2005) eg2006 dX12_tell_25 (fun H locs hP hS => ?_)
      obtain ⟨v2007, ev2007, hf⟩ := c_letE hf
      refine lv_iinc (v := v2007) (lv' := [(3, .int v2007), (0, .ref (ad 0)), (1, .int x1), (2, .int x2)]) hx hb dX12_tell_26 hl (k := 3) rfl (by rw [ev2007]; rfl) (by decide) rfl (fun ls hl => ?_)
      refine lv_goto (tgt := 2) hx hb dX12_tell_29 (by decide) ?_
      exact ih x1 x2 v2007 g2006 hf _ _ hP hS _ (lv_sub hl [1, 2, 3, 0] rfl)
def fX12_tell (g : c_G) (a1 : Int32) (a2 : Int32) : Option (c_G) :=
  fX12_tell_2 a1 a2 c_F a1 a2 ((0 : Int32)) g
set_option maxRecDepth 100000 in
set_option maxHeartbeats 4000000 in
theorem kX12_tell {l : Launch} {D : va_G} {tc : Nat → ClassId} {ad : Nat → Nat} {A : Nat → Prop} {E : (Nat → Nat) × (Nat → Nat) × Nat} (hD : c_D A ad TM) {a1 : Int32} {a2 : Int32} {g g' : c_G} (hf : fX12_tell g a1 a2 = some g') : c_Mv l yX12_tell wsX12_tell (c_rm 48) D tc ad A E TM ([.ref (ad 0), .int a1, .int a2] : List Value) g g' := by
  refine c_ofW (bytes := cX12_tell) (maxL := 4) (ret := none) (by decide) rfl (Nat.le_of_ble_eq_true rfl) ?_
  intro p e s m below meth c ls C hP hS hl
  unfold fX12_tell at hf
  obtain ⟨hx, hb, hr, hml, hts, hown, hlk, hK, hE⟩ := id C
  have hl : lv_has ls 4 [(0, .ref (ad 0)), (1, .int a1), (2, .int a2)] := hl
  refine lv_iconst (v := (0 : Int32)) hx hb dX12_tell_0 (by decide) ?_
  refine lv_istore_n (lv' := [(3, .int (0 : Int32)), (0, .ref (ad 0)), (1, .int a1), (2, .int a2)]) hx hb dX12_tell_1 rfl hl (by decide) rfl (fun ls hl => ?_)
  exact jX12_tell_2 C hD c_F a1 a2 ((0 : Int32)) g hf _ _ hP hS _ (lv_sub hl [1, 2, 3, 0] rfl)
theorem dX12_tellAll_0 : decode cX12_tellAll 0 = .ok (.iconst 0, 1) := by decide +kernel
theorem dX12_tellAll_1 : decode cX12_tellAll 1 = .ok (.istore_n 2, 1) := by decide +kernel
theorem dX12_tellAll_2 : decode cX12_tellAll 2 = .ok (.iload_n 2, 1) := by decide +kernel
theorem dX12_tellAll_3 : decode cX12_tellAll 3 = .ok (.bipush 6, 2) := by decide +kernel
theorem dX12_tellAll_5 : decode cX12_tellAll 5 = .ok (.if_icmp .ge 15, 3) := by decide +kernel
theorem dX12_tellAll_8 : decode cX12_tellAll 8 = .ok (.aload_n 0, 1) := by decide +kernel
theorem dX12_tellAll_9 : decode cX12_tellAll 9 = .ok (.iload_n 1, 1) := by decide +kernel
theorem dX12_tellAll_10 : decode cX12_tellAll 10 = .ok (.iload_n 2, 1) := by decide +kernel
theorem dX12_tellAll_11 : decode cX12_tellAll 11 = .ok (.invokevirtual 201, 3) := by decide +kernel
theorem dX12_tellAll_14 : decode cX12_tellAll 14 = .ok (.iinc 2 1, 3) := by decide +kernel
theorem dX12_tellAll_17 : decode cX12_tellAll 17 = .ok (.goto (-15), 3) := by decide +kernel
theorem dX12_tellAll_20 : decode cX12_tellAll 20 = .ok (.return_, 1) := by decide +kernel
set_option maxRecDepth 20000 in
theorem ggX12_tellAll_X12_tell : GoodIn wsX12_tellAll wsX12_tell := goodIn_r _ [5, 6, 7, 8, 9, 4, 10, 11, 12, 13, 14, 15, 16, 17, 18, 19, 20, 21, 22, 23, 24, 25, 26, 27, 28, 29, 30, 31, 32, 33, 34, 35, 36, 37, 38, 39, 40, 41, 42, 43, 44, 45, 46, 47, 48, 49, 50, 51, 52, 53, 54, 55, 56, 57, 58, 59, 60, 61, 62, 63, 64, 65, 66, 67, 68, 69, 70, 71, 72, 73, 74, 75, 76, 77, 78, 79, 80, 81, 82, 83, 84, 85, 86, 87, 88, 89, 90, 91, 92, 93, 94, 95, 96, 97, 98, 99, 100, 101, 102, 103, 104, 105, 106, 107, 108] (by decide +kernel) (by decide +kernel)
set_option maxRecDepth 20000 in
theorem gX12_tellAll_X12_tell : GoodIn wsX12_tellAll (wsV RX12 201 RX12 yX12_tell wsX12_tell) := goodIn_app (goodIn_of _ (by decide +kernel)) ggX12_tellAll_X12_tell
def fX12_tellAll_2  (a1 : Int32) : Nat → Int32 → Int32 → c_G → Option (c_G)
  | 0, _, _, _ => none
  | n + 1, x1, x2, g => if (6 : Int32) ≤ x2 then (some g) else ((fX12_tell g x1 x2).bind fun g2003 => c_let (x2 + (1 : Int32)) fun v2004 => (fX12_tellAll_2 a1 n) x1 v2004 g2003)
set_option maxRecDepth 100000 in
set_option maxHeartbeats 4000000 in
theorem jX12_tellAll_2 {p : Program} {l : Launch} {e : Env} {s : State} {m : MethodId} {below : List Frame} {meth : Method} {c : Code} {D : va_G} {tc : Nat → ClassId} {ad : Nat → Nat} {A : Nat → Prop} {E : (Nat → Nat) × (Nat → Nat) × Nat} {a1 : Int32} {g' : c_G} (C : c_C p s m meth c D tc A E RX12 wsX12_tellAll cX12_tellAll 3 none ([.ref (ad 0), .int a1] : List Value).toArray) (hD : c_D A ad TM)  : ∀ (n : Nat) (x1 : Int32) (x2 : Int32) (g : c_G), fX12_tellAll_2 a1 n x1 x2 g = some g' → ∀ (H : Heap) (locs : List Loc), va_P D vwCl (c_ws tc ad TM g) H → va_S A s.heap H locs → ∀ ls : Array Slot, lv_has ls 3 [(0, .ref (ad 0)), (1, .int x1), (2, .int x2)] → W p l e (c_rm 49) s m ([.ref (ad 0), .int a1] : List Value).toArray below meth c H locs 0 0 (MQ below (va_Qv (fun (_ : Unit) => True) (fun _ t => va_P D vwCl (c_ws tc ad TM g') t.heap) A) ([.ref (ad 0), .int a1] : List Value).toArray s 0 0 A) (F0 m 2 ls []) := by
  obtain ⟨hx, hb, hr, hml, hts, hown, hlk, hK, hE⟩ := id C
  intro n
  induction n with
  | zero =>
    intro x1 x2 g hf
    cases hf
  | succ n ih =>
    intro x1 x2 g hf H locs hP hS ls hl
    unfold fX12_tellAll_2 at hf
    refine lv_iload_n hx hb dX12_tellAll_2 rfl (lv_at hl 2 rfl) ?_
    refine lv_bipush (v := (6 : Int32)) hx hb dX12_tellAll_3 (by decide) ?_
    refine lv_icmp_ge (tgt := 20) hx hb dX12_tellAll_5 (by decide) (fun c2001 => ?_) (fun c2001 => ?_)
    · have hf := c_it c2001 hf
      exact c_vret hx hb hr hlk hP hS (Option.some.inj hf) dX12_tellAll_20
    · have hf := c_ie c2001 hf
      refine lv_aload_n hx hb dX12_tellAll_8 rfl (lv_at hl 0 rfl) ?_
      refine lv_iload_n hx hb dX12_tellAll_9 rfl (lv_at hl 1 rfl) ?_
      refine lv_iload_n hx hb dX12_tellAll_10 rfl (lv_at hl 2 rfl) ?_
      obtain ⟨g2003, hc2002, hf⟩ := c_bd hf
      refine c_gov (va_runV (As := [.int x1, .int x2]) (rest := []) ⟨hx, hb, hml, hown, hts⟩ (kX12_tell hD hc2002) (cwV 2 hts gX12_tellAll_X12_tell rfl rfl rfl (by decide +kernel) ⟨Nat.le_of_ble_eq_true rfl, Nat.le_of_ble_eq_true rfl⟩) (c_preV hK hP hE hS tM0 rfl) rfl rfl hl.1 rfl (lv_room (Nat.le_of_ble_eq_true rfl)) dX12_tellAll_11 ⟨Nat.zero_le _, Nat.zero_le _⟩) hS (fun H locs hP hS => ?_)
      obtain ⟨v2004, ev2004, hf⟩ := c_letE hf
      refine lv_iinc (v := v2004) (lv' := [(2, .int v2004), (0, .ref (ad 0)), (1, .int x1)]) hx hb dX12_tellAll_14 hl (k := 2) rfl (by rw [ev2004]; rfl) (by decide) rfl (fun ls hl => ?_)
      refine lv_goto (tgt := 2) hx hb dX12_tellAll_17 (by decide) ?_
      exact ih x1 v2004 g2003 hf _ _ hP hS _ (lv_sub hl [1, 2, 0] rfl)
def fX12_tellAll (g : c_G) (a1 : Int32) : Option (c_G) :=
  fX12_tellAll_2 a1 c_F a1 ((0 : Int32)) g
set_option maxRecDepth 100000 in
set_option maxHeartbeats 4000000 in
theorem kX12_tellAll {l : Launch} {D : va_G} {tc : Nat → ClassId} {ad : Nat → Nat} {A : Nat → Prop} {E : (Nat → Nat) × (Nat → Nat) × Nat} (hD : c_D A ad TM) {a1 : Int32} {g g' : c_G} (hf : fX12_tellAll g a1 = some g') : c_Mv l yX12_tellAll wsX12_tellAll (c_rm 49) D tc ad A E TM ([.ref (ad 0), .int a1] : List Value) g g' := by
  refine c_ofW (bytes := cX12_tellAll) (maxL := 3) (ret := none) (by decide) rfl (Nat.le_of_ble_eq_true rfl) ?_
  intro p e s m below meth c ls C hP hS hl
  unfold fX12_tellAll at hf
  obtain ⟨hx, hb, hr, hml, hts, hown, hlk, hK, hE⟩ := id C
  have hl : lv_has ls 3 [(0, .ref (ad 0)), (1, .int a1)] := hl
  refine lv_iconst (v := (0 : Int32)) hx hb dX12_tellAll_0 (by decide) ?_
  refine lv_istore_n (lv' := [(2, .int (0 : Int32)), (0, .ref (ad 0)), (1, .int a1)]) hx hb dX12_tellAll_1 rfl hl (by decide) rfl (fun ls hl => ?_)
  exact jX12_tellAll_2 C hD c_F a1 ((0 : Int32)) g hf _ _ hP hS _ (lv_sub hl [1, 2, 0] rfl)
theorem i_X12_used_X12 : ∀ w ∈ u_ws RX12 TX12 32, w ∈ wsX12_used := c_inP [7, 8, 9, 10, 11, 12, 13, 14, 15, 16, 17, 18, 19, 20, 21, 22, 23, 24, 25, 26, 27, 28, 29, 30, 31, 32, 33, 34, 35, 36, 37, 38] (by decide +kernel)
theorem dX12_used_0 : decode cX12_used 0 = .ok (.aload_n 0, 1) := by decide +kernel
theorem dX12_used_1 : decode cX12_used 1 = .ok (.getfield 15, 3) := by decide +kernel
theorem dX12_used_4 : decode cX12_used 4 = .ok (.bipush 79, 2) := by decide +kernel
theorem dX12_used_6 : decode cX12_used 6 = .ok (.iaload, 1) := by decide +kernel
theorem dX12_used_7 : decode cX12_used 7 = .ok (.istore_n 1, 1) := by decide +kernel
theorem dX12_used_8 : decode cX12_used 8 = .ok (.iconst 0, 1) := by decide +kernel
theorem dX12_used_9 : decode cX12_used 9 = .ok (.istore_n 2, 1) := by decide +kernel
theorem dX12_used_10 : decode cX12_used 10 = .ok (.iload_n 2, 1) := by decide +kernel
theorem dX12_used_11 : decode cX12_used 11 = .ok (.bipush 6, 2) := by decide +kernel
theorem dX12_used_13 : decode cX12_used 13 = .ok (.if_icmp .ge 42, 3) := by decide +kernel
theorem dX12_used_16 : decode cX12_used 16 = .ok (.iload_n 1, 1) := by decide +kernel
theorem dX12_used_17 : decode cX12_used 17 = .ok (.aload_n 0, 1) := by decide +kernel
theorem dX12_used_18 : decode cX12_used 18 = .ok (.aload_n 0, 1) := by decide +kernel
theorem dX12_used_19 : decode cX12_used 19 = .ok (.getfield 15, 3) := by decide +kernel
theorem dX12_used_22 : decode cX12_used 22 = .ok (.iload_n 2, 1) := by decide +kernel
theorem dX12_used_23 : decode cX12_used 23 = .ok (.iconst 1, 1) := by decide +kernel
theorem dX12_used_24 : decode cX12_used 24 = .ok (.invokevirtual 118, 3) := by decide +kernel
theorem dX12_used_27 : decode cX12_used 27 = .ok (.iconst (-1), 1) := by decide +kernel
theorem dX12_used_28 : decode cX12_used 28 = .ok (.if_icmp .ne 7, 3) := by decide +kernel
theorem dX12_used_31 : decode cX12_used 31 = .ok (.iconst 0, 1) := by decide +kernel
theorem dX12_used_32 : decode cX12_used 32 = .ok (.goto 15, 3) := by decide +kernel
theorem dX12_used_35 : decode cX12_used 35 = .ok (.iconst 1, 1) := by decide +kernel
theorem dX12_used_36 : decode cX12_used 36 = .ok (.aload_n 0, 1) := by decide +kernel
theorem dX12_used_37 : decode cX12_used 37 = .ok (.aload_n 0, 1) := by decide +kernel
theorem dX12_used_38 : decode cX12_used 38 = .ok (.getfield 15, 3) := by decide +kernel
theorem dX12_used_41 : decode cX12_used 41 = .ok (.iload_n 2, 1) := by decide +kernel
theorem dX12_used_42 : decode cX12_used 42 = .ok (.iconst 1, 1) := by decide +kernel
theorem dX12_used_43 : decode cX12_used 43 = .ok (.invokevirtual 118, 3) := by decide +kernel
theorem dX12_used_46 : decode cX12_used 46 = .ok (.ishl, 1) := by decide +kernel
theorem dX12_used_47 : decode cX12_used 47 = .ok (.ior, 1) := by decide +kernel
theorem dX12_used_48 : decode cX12_used 48 = .ok (.istore_n 1, 1) := by decide +kernel
theorem dX12_used_49 : decode cX12_used 49 = .ok (.iinc 2 1, 3) := by decide +kernel
theorem dX12_used_52 : decode cX12_used 52 = .ok (.goto (-42), 3) := by decide +kernel
theorem dX12_used_55 : decode cX12_used 55 = .ok (.iload_n 1, 1) := by decide +kernel
theorem dX12_used_56 : decode cX12_used 56 = .ok (.ireturn, 1) := by decide +kernel
set_option maxRecDepth 20000 in
theorem ggX12_used_X12_of : GoodIn wsX12_used wsX12_of := goodIn_r _ [6] (by decide +kernel) (by decide +kernel)
set_option maxRecDepth 20000 in
theorem gX12_used_X12_of : GoodIn wsX12_used (wsV RX12 118 RX12 yX12_of wsX12_of) := goodIn_app (goodIn_of _ (by decide +kernel)) ggX12_used_X12_of
def fX12_used_47 (rec10 : Int32 → Int32 → c_G → Option (Int32))  (x2 : Int32) (y0 : Int32) (y1 : Int32) (g : c_G) : Option (Int32) :=
  c_let ((y0 ||| y1)) fun v47001 => c_let (x2 + (1 : Int32)) fun v47002 => rec10 v47001 v47002 g
set_option maxRecDepth 100000 in
set_option maxHeartbeats 4000000 in
theorem jX12_used_47 {p : Program} {l : Launch} {e : Env} {s : State} {m : MethodId} {below : List Frame} {meth : Method} {c : Code} {D : va_G} {tc : Nat → ClassId} {ad : Nat → Nat} {A : Nat → Prop} {E : (Nat → Nat) × (Nat → Nat) × Nat} {r : Int32} (C : c_C p s m meth c D tc A E RX12 wsX12_used cX12_used 3 (some .int) ([.ref (ad 0)] : List Value).toArray) (hD : c_D A ad TM) {rec10 : Int32 → Int32 → c_G → Option (Int32)} (hrec10 : ∀ (x1 : Int32) (x2 : Int32) (g : c_G), rec10 x1 x2 g = some r → ∀ (H : Heap) (locs : List Loc), va_P D vwCl (c_ws tc ad TM g) H → va_S A s.heap H locs → ∀ ls : Array Slot, lv_has ls 3 [(0, .ref (ad 0)), (1, .int x1), (2, .int x2)] → W p l e (c_rm 1) s m ([.ref (ad 0)] : List Value).toArray below meth c H locs 0 0 (MQ below (va_Qi (fun (x : Int32) (_ : Unit) => x = r) (fun _ t => va_P D vwCl (c_ws tc ad TM g) t.heap) A) ([.ref (ad 0)] : List Value).toArray s 0 0 A) (F0 m 10 ls [])) : ∀ (x2 : Int32) (y0 : Int32) (y1 : Int32) (g : c_G), fX12_used_47 rec10 x2 y0 y1 g = some r → ∀ (H : Heap) (locs : List Loc), va_P D vwCl (c_ws tc ad TM g) H → va_S A s.heap H locs → ∀ ls : Array Slot, lv_has ls 3 [(0, .ref (ad 0)), (2, .int x2)] → W p l e (c_rm 1) s m ([.ref (ad 0)] : List Value).toArray below meth c H locs 0 0 (MQ below (va_Qi (fun (x : Int32) (_ : Unit) => x = r) (fun _ t => va_P D vwCl (c_ws tc ad TM g) t.heap) A) ([.ref (ad 0)] : List Value).toArray s 0 0 A) (F0 m 47 ls [.int y1, .int y0]) := by
  obtain ⟨hx, hb, hr, hml, hts, hown, hlk, hK, hE⟩ := id C
  intro x2 y0 y1 g hf H locs hP hS ls hl
  unfold fX12_used_47 at hf
  refine lv_ior hx hb dX12_used_47 ?_
  obtain ⟨v47001, ev47001, hf⟩ := c_letE hf
  refine c_topi ev47001 ?_
  refine lv_istore_n (lv' := [(1, .int v47001), (0, .ref (ad 0)), (2, .int x2)]) hx hb dX12_used_48 rfl hl (by decide) rfl (fun ls hl => ?_)
  obtain ⟨v47002, ev47002, hf⟩ := c_letE hf
  refine lv_iinc (v := v47002) (lv' := [(2, .int v47002), (1, .int v47001), (0, .ref (ad 0))]) hx hb dX12_used_49 hl (k := 2) rfl (by rw [ev47002]; rfl) (by decide) rfl (fun ls hl => ?_)
  refine lv_goto (tgt := 10) hx hb dX12_used_52 (by decide) ?_
  exact hrec10 v47001 v47002 g hf _ _ hP hS _ (lv_sub hl [2, 1, 0] rfl)
def fX12_used_10   : Nat → Int32 → Int32 → c_G → Option (Int32)
  | 0, _, _, _ => none
  | n + 1, x1, x2, g => if (6 : Int32) ≤ x2 then (some x1) else ((fX12_of g x2 ((1 : Int32))).bind fun r10002 => if r10002 = (-1 : Int32) then (fX12_used_47 (fX12_used_10 n) x2 x1 ((0 : Int32)) g) else ((fX12_of g x2 ((1 : Int32))).bind fun r10005 => fX12_used_47 (fX12_used_10 n) x2 x1 (((1 : Int32) <<< (r10005 &&& 31))) g))
set_option maxRecDepth 100000 in
set_option maxHeartbeats 4000000 in
theorem jX12_used_10 {p : Program} {l : Launch} {e : Env} {s : State} {m : MethodId} {below : List Frame} {meth : Method} {c : Code} {D : va_G} {tc : Nat → ClassId} {ad : Nat → Nat} {A : Nat → Prop} {E : (Nat → Nat) × (Nat → Nat) × Nat} {r : Int32} (C : c_C p s m meth c D tc A E RX12 wsX12_used cX12_used 3 (some .int) ([.ref (ad 0)] : List Value).toArray) (hD : c_D A ad TM)  : ∀ (n : Nat) (x1 : Int32) (x2 : Int32) (g : c_G), fX12_used_10 n x1 x2 g = some r → ∀ (H : Heap) (locs : List Loc), va_P D vwCl (c_ws tc ad TM g) H → va_S A s.heap H locs → ∀ ls : Array Slot, lv_has ls 3 [(0, .ref (ad 0)), (1, .int x1), (2, .int x2)] → W p l e (c_rm 1) s m ([.ref (ad 0)] : List Value).toArray below meth c H locs 0 0 (MQ below (va_Qi (fun (x : Int32) (_ : Unit) => x = r) (fun _ t => va_P D vwCl (c_ws tc ad TM g) t.heap) A) ([.ref (ad 0)] : List Value).toArray s 0 0 A) (F0 m 10 ls []) := by
  obtain ⟨hx, hb, hr, hml, hts, hown, hlk, hK, hE⟩ := id C
  intro n
  induction n with
  | zero =>
    intro x1 x2 g hf
    cases hf
  | succ n ih =>
    intro x1 x2 g hf H locs hP hS ls hl
    unfold fX12_used_10 at hf
    refine lv_iload_n hx hb dX12_used_10 rfl (lv_at hl 2 rfl) ?_
    refine lv_bipush (v := (6 : Int32)) hx hb dX12_used_11 (by decide) ?_
    refine lv_icmp_ge (tgt := 55) hx hb dX12_used_13 (by decide) (fun c10001 => ?_) (fun c10001 => ?_)
    · have hf := c_it c10001 hf
      refine lv_iload_n hx hb dX12_used_55 rfl (lv_at hl 1 rfl) ?_
      exact c_iret hx hb hr hlk hP hS rfl ⟨rfl, Option.some.inj hf⟩ dX12_used_56
    · have hf := c_ie c10001 hf
      refine lv_iload_n hx hb dX12_used_16 rfl (lv_at hl 1 rfl) ?_
      refine lv_aload_n hx hb dX12_used_17 rfl (lv_at hl 0 rfl) ?_
      refine lv_aload_n hx hb dX12_used_18 rfl (lv_at hl 0 rfl) ?_
      refine c_get hx hb hts i_X12_used_X12 hown hK hP 0 tM0 rfl 0 (by decide) (hts _ (List.mem_of_getElem? (i := 1) rfl)) (fun _ h9 => h9) rfl (v := .ref (ad 1)) rfl dX12_used_19 ?_
      refine lv_iload_n hx hb dX12_used_22 rfl (lv_at hl 2 rfl) ?_
      refine lv_iconst (v := (1 : Int32)) hx hb dX12_used_23 (by decide) ?_
      obtain ⟨r10002, hc10003, hf⟩ := c_bd hf
      refine c_goi (va_runV (As := [.ref (ad 1), .int x2, .int (1 : Int32)]) (rest := [.int x1]) ⟨hx, hb, hml, hown, hts⟩ (kX12_of hD hc10003) (cwV 3 hts gX12_used_X12_of rfl rfl rfl (by decide +kernel) ⟨Nat.le_of_ble_eq_true rfl, Nat.le_of_ble_eq_true rfl⟩) (c_preV hK hP hE hS tM0 rfl) rfl rfl hl.1 rfl (lv_room (Nat.le_of_ble_eq_true rfl)) dX12_used_24 ⟨Nat.zero_le _, Nat.zero_le _⟩) hS (fun H locs hP hS => ?_)
      refine lv_iconst (v := (-1 : Int32)) hx hb dX12_used_27 (by decide) ?_
      refine lv_icmp_ne (tgt := 35) hx hb dX12_used_28 (by decide) (fun c10004 => ?_) (fun c10004 => ?_)
      · have hf := c_ie c10004 hf
        refine lv_iconst (v := (1 : Int32)) hx hb dX12_used_35 (by decide) ?_
        refine lv_aload_n hx hb dX12_used_36 rfl (lv_at hl 0 rfl) ?_
        refine lv_aload_n hx hb dX12_used_37 rfl (lv_at hl 0 rfl) ?_
        refine c_get hx hb hts i_X12_used_X12 hown hK hP 0 tM0 rfl 0 (by decide) (hts _ (List.mem_of_getElem? (i := 1) rfl)) (fun _ h9 => h9) rfl (v := .ref (ad 1)) rfl dX12_used_38 ?_
        refine lv_iload_n hx hb dX12_used_41 rfl (lv_at hl 2 rfl) ?_
        refine lv_iconst (v := (1 : Int32)) hx hb dX12_used_42 (by decide) ?_
        obtain ⟨r10005, hc10006, hf⟩ := c_bd hf
        refine c_goi (va_runV (As := [.ref (ad 1), .int x2, .int (1 : Int32)]) (rest := [.int (1 : Int32), .int x1]) ⟨hx, hb, hml, hown, hts⟩ (kX12_of hD hc10006) (cwV 3 hts gX12_used_X12_of rfl rfl rfl (by decide +kernel) ⟨Nat.le_of_ble_eq_true rfl, Nat.le_of_ble_eq_true rfl⟩) (c_preV hK hP hE hS tM0 rfl) rfl rfl hl.1 rfl (lv_room (Nat.le_of_ble_eq_true rfl)) dX12_used_43 ⟨Nat.zero_le _, Nat.zero_le _⟩) hS (fun H locs hP hS => ?_)
        refine lv_ishl hx hb dX12_used_46 ?_
        exact jX12_used_47 C hD ih x2 x1 (((1 : Int32) <<< (r10005 &&& 31))) g hf _ _ hP hS _ (lv_sub hl [0, 2] rfl)
      · have hf := c_it c10004 hf
        refine lv_iconst (v := (0 : Int32)) hx hb dX12_used_31 (by decide) ?_
        refine lv_goto (tgt := 47) hx hb dX12_used_32 (by decide) ?_
        exact jX12_used_47 C hD ih x2 x1 ((0 : Int32)) g hf _ _ hP hS _ (lv_sub hl [0, 2] rfl)
def fX12_used (g : c_G)  : Option (Int32) :=
  fX12_used_10 c_F ((g.1 1 79)) ((0 : Int32)) g
set_option maxRecDepth 100000 in
set_option maxHeartbeats 4000000 in
theorem kX12_used {l : Launch} {D : va_G} {tc : Nat → ClassId} {ad : Nat → Nat} {A : Nat → Prop} {E : (Nat → Nat) × (Nat → Nat) × Nat} (hD : c_D A ad TM)  {g : c_G} {r : Int32} (hf : fX12_used g  = some r) : c_Mi l yX12_used wsX12_used (c_rm 1) D tc ad A E TM ([.ref (ad 0)] : List Value) g g r := by
  refine c_ofW (bytes := cX12_used) (maxL := 3) (ret := (some .int)) (by decide) rfl (Nat.le_of_ble_eq_true rfl) ?_
  intro p e s m below meth c ls C hP hS hl
  unfold fX12_used at hf
  obtain ⟨hx, hb, hr, hml, hts, hown, hlk, hK, hE⟩ := id C
  have hl : lv_has ls 3 [(0, .ref (ad 0))] := hl
  refine lv_aload_n hx hb dX12_used_0 rfl (lv_at hl 0 rfl) ?_
  refine c_get hx hb hts i_X12_used_X12 hown hK hP 0 tM0 rfl 0 (by decide) (hts _ (List.mem_of_getElem? (i := 1) rfl)) (fun _ h9 => h9) rfl (v := .ref (ad 1)) rfl dX12_used_1 ?_
  refine lv_bipush (v := (79 : Int32)) hx hb dX12_used_4 (by decide) ?_
  refine c_iald (j := 79) hx hb hK hP 1 tM1 (by decide) (c_inV (by decide)) dX12_used_6 ?_
  refine lv_istore_n (lv' := [(1, .int (g.1 1 79)), (0, .ref (ad 0))]) hx hb dX12_used_7 rfl hl (by decide) rfl (fun ls hl => ?_)
  refine lv_iconst (v := (0 : Int32)) hx hb dX12_used_8 (by decide) ?_
  refine lv_istore_n (lv' := [(2, .int (0 : Int32)), (1, .int (g.1 1 79)), (0, .ref (ad 0))]) hx hb dX12_used_9 rfl hl (by decide) rfl (fun ls hl => ?_)
  exact jX12_used_10 C hD c_F ((g.1 1 79)) ((0 : Int32)) g hf _ _ hP hS _ (lv_sub hl [2, 1, 0] rfl)
theorem i_X12_isMute_X12 : ∀ w ∈ u_ws RX12 TX12 32, w ∈ wsX12_isMute := c_inP [7, 8, 9, 10, 11, 12, 13, 14, 15, 16, 17, 18, 19, 20, 21, 22, 23, 24, 25, 26, 27, 28, 29, 30, 31, 32, 33, 34, 35, 36, 37, 38] (by decide +kernel)
theorem dX12_isMute_0 : decode cX12_isMute 0 = .ok (.aload_n 0, 1) := by decide +kernel
theorem dX12_isMute_1 : decode cX12_isMute 1 = .ok (.aload_n 0, 1) := by decide +kernel
theorem dX12_isMute_2 : decode cX12_isMute 2 = .ok (.getfield 15, 3) := by decide +kernel
theorem dX12_isMute_5 : decode cX12_isMute 5 = .ok (.iload_n 1, 1) := by decide +kernel
theorem dX12_isMute_6 : decode cX12_isMute 6 = .ok (.iconst 1, 1) := by decide +kernel
theorem dX12_isMute_7 : decode cX12_isMute 7 = .ok (.invokevirtual 118, 3) := by decide +kernel
theorem dX12_isMute_10 : decode cX12_isMute 10 = .ok (.iconst (-1), 1) := by decide +kernel
theorem dX12_isMute_11 : decode cX12_isMute 11 = .ok (.if_icmp .ne 17, 3) := by decide +kernel
theorem dX12_isMute_14 : decode cX12_isMute 14 = .ok (.aload_n 0, 1) := by decide +kernel
theorem dX12_isMute_15 : decode cX12_isMute 15 = .ok (.aload_n 0, 1) := by decide +kernel
theorem dX12_isMute_16 : decode cX12_isMute 16 = .ok (.getfield 15, 3) := by decide +kernel
theorem dX12_isMute_19 : decode cX12_isMute 19 = .ok (.iload_n 1, 1) := by decide +kernel
theorem dX12_isMute_20 : decode cX12_isMute 20 = .ok (.iconst 3, 1) := by decide +kernel
theorem dX12_isMute_21 : decode cX12_isMute 21 = .ok (.invokevirtual 118, 3) := by decide +kernel
theorem dX12_isMute_24 : decode cX12_isMute 24 = .ok (.iconst 1, 1) := by decide +kernel
theorem dX12_isMute_25 : decode cX12_isMute 25 = .ok (.if_icmp .ne 7, 3) := by decide +kernel
theorem dX12_isMute_28 : decode cX12_isMute 28 = .ok (.iconst 1, 1) := by decide +kernel
theorem dX12_isMute_29 : decode cX12_isMute 29 = .ok (.goto 4, 3) := by decide +kernel
theorem dX12_isMute_32 : decode cX12_isMute 32 = .ok (.iconst 0, 1) := by decide +kernel
theorem dX12_isMute_33 : decode cX12_isMute 33 = .ok (.ireturn, 1) := by decide +kernel
set_option maxRecDepth 20000 in
theorem ggX12_isMute_X12_of : GoodIn wsX12_isMute wsX12_of := goodIn_r _ [6] (by decide +kernel) (by decide +kernel)
set_option maxRecDepth 20000 in
theorem gX12_isMute_X12_of : GoodIn wsX12_isMute (wsV RX12 118 RX12 yX12_of wsX12_of) := goodIn_app (goodIn_of _ (by decide +kernel)) ggX12_isMute_X12_of
def fX12_isMute (g : c_G) (a1 : Int32) : Option (Int32) :=
  (fX12_of g a1 ((1 : Int32))).bind fun r1 => if r1 = (-1 : Int32) then ((fX12_of g a1 ((3 : Int32))).bind fun r4 => if r4 = (1 : Int32) then (some (1 : Int32)) else (some (0 : Int32))) else (some (1 : Int32))
set_option maxRecDepth 100000 in
set_option maxHeartbeats 4000000 in
theorem kX12_isMute {l : Launch} {D : va_G} {tc : Nat → ClassId} {ad : Nat → Nat} {A : Nat → Prop} {E : (Nat → Nat) × (Nat → Nat) × Nat} (hD : c_D A ad TM) {a1 : Int32} {g : c_G} {r : Int32} (hf : fX12_isMute g a1 = some r) : c_Mi l yX12_isMute wsX12_isMute (c_rm 1) D tc ad A E TM ([.ref (ad 0), .int a1] : List Value) g g r := by
  refine c_ofW (bytes := cX12_isMute) (maxL := 2) (ret := (some .boolean)) (by decide) rfl (Nat.le_of_ble_eq_true rfl) ?_
  intro p e s m below meth c ls C hP hS hl
  unfold fX12_isMute at hf
  obtain ⟨hx, hb, hr, hml, hts, hown, hlk, hK, hE⟩ := id C
  have hl : lv_has ls 2 [(0, .ref (ad 0)), (1, .int a1)] := hl
  refine lv_aload_n hx hb dX12_isMute_0 rfl (lv_at hl 0 rfl) ?_
  refine lv_aload_n hx hb dX12_isMute_1 rfl (lv_at hl 0 rfl) ?_
  refine c_get hx hb hts i_X12_isMute_X12 hown hK hP 0 tM0 rfl 0 (by decide) (hts _ (List.mem_of_getElem? (i := 1) rfl)) (fun _ h9 => h9) rfl (v := .ref (ad 1)) rfl dX12_isMute_2 ?_
  refine lv_iload_n hx hb dX12_isMute_5 rfl (lv_at hl 1 rfl) ?_
  refine lv_iconst (v := (1 : Int32)) hx hb dX12_isMute_6 (by decide) ?_
  obtain ⟨r1, hc2, hf⟩ := c_bd hf
  refine c_goi (va_runV (As := [.ref (ad 1), .int a1, .int (1 : Int32)]) (rest := []) ⟨hx, hb, hml, hown, hts⟩ (kX12_of hD hc2) (cwV 3 hts gX12_isMute_X12_of rfl rfl rfl (by decide +kernel) ⟨Nat.le_of_ble_eq_true rfl, Nat.le_of_ble_eq_true rfl⟩) (c_preV hK hP hE hS tM0 rfl) rfl rfl hl.1 rfl (lv_room (Nat.le_of_ble_eq_true rfl)) dX12_isMute_7 ⟨Nat.zero_le _, Nat.zero_le _⟩) hS (fun H locs hP hS => ?_)
  refine lv_iconst (v := (-1 : Int32)) hx hb dX12_isMute_10 (by decide) ?_
  refine lv_icmp_ne (tgt := 28) hx hb dX12_isMute_11 (by decide) (fun c3 => ?_) (fun c3 => ?_)
  · have hf := c_ie c3 hf
    refine lv_iconst (v := (1 : Int32)) hx hb dX12_isMute_28 (by decide) ?_
    refine lv_goto (tgt := 33) hx hb dX12_isMute_29 (by decide) ?_
    exact c_iret hx hb hr hlk hP hS rfl ⟨rfl, Option.some.inj hf⟩ dX12_isMute_33
  · have hf := c_it c3 hf
    refine lv_aload_n hx hb dX12_isMute_14 rfl (lv_at hl 0 rfl) ?_
    refine lv_aload_n hx hb dX12_isMute_15 rfl (lv_at hl 0 rfl) ?_
    refine c_get hx hb hts i_X12_isMute_X12 hown hK hP 0 tM0 rfl 0 (by decide) (hts _ (List.mem_of_getElem? (i := 1) rfl)) (fun _ h9 => h9) rfl (v := .ref (ad 1)) rfl dX12_isMute_16 ?_
    refine lv_iload_n hx hb dX12_isMute_19 rfl (lv_at hl 1 rfl) ?_
    refine lv_iconst (v := (3 : Int32)) hx hb dX12_isMute_20 (by decide) ?_
    obtain ⟨r4, hc5, hf⟩ := c_bd hf
    refine c_goi (va_runV (As := [.ref (ad 1), .int a1, .int (3 : Int32)]) (rest := []) ⟨hx, hb, hml, hown, hts⟩ (kX12_of hD hc5) (cwV 3 hts gX12_isMute_X12_of rfl rfl rfl (by decide +kernel) ⟨Nat.le_of_ble_eq_true rfl, Nat.le_of_ble_eq_true rfl⟩) (c_preV hK hP hE hS tM0 rfl) rfl rfl hl.1 rfl (lv_room (Nat.le_of_ble_eq_true rfl)) dX12_isMute_21 ⟨Nat.zero_le _, Nat.zero_le _⟩) hS (fun H locs hP hS => ?_)
    refine lv_iconst (v := (1 : Int32)) hx hb dX12_isMute_24 (by decide) ?_
    refine lv_icmp_ne (tgt := 32) hx hb dX12_isMute_25 (by decide) (fun c6 => ?_) (fun c6 => ?_)
    · have hf := c_ie c6 hf
      refine lv_iconst (v := (0 : Int32)) hx hb dX12_isMute_32 (by decide) ?_
      exact c_iret hx hb hr hlk hP hS rfl ⟨rfl, Option.some.inj hf⟩ dX12_isMute_33
    · have hf := c_it c6 hf
      refine lv_iconst (v := (1 : Int32)) hx hb dX12_isMute_28 (by decide) ?_
      refine lv_goto (tgt := 33) hx hb dX12_isMute_29 (by decide) ?_
      exact c_iret hx hb hr hlk hP hS rfl ⟨rfl, Option.some.inj hf⟩ dX12_isMute_33
theorem i_X12_saysBy_X12 : ∀ w ∈ u_ws RX12 TX12 32, w ∈ wsX12_saysBy := c_inP [12, 13, 14, 15, 16, 17, 18, 19, 20, 21, 22, 23, 24, 25, 26, 27, 28, 29, 30, 31, 32, 33, 34, 35, 36, 37, 38, 39, 40, 41, 42, 43] (by decide +kernel)
theorem dX12_saysBy_0 : decode cX12_saysBy 0 = .ok (.iconst (-1), 1) := by decide +kernel
theorem dX12_saysBy_1 : decode cX12_saysBy 1 = .ok (.istore 4, 2) := by decide +kernel
theorem dX12_saysBy_3 : decode cX12_saysBy 3 = .ok (.iconst 0, 1) := by decide +kernel
theorem dX12_saysBy_4 : decode cX12_saysBy 4 = .ok (.istore 5, 2) := by decide +kernel
theorem dX12_saysBy_6 : decode cX12_saysBy 6 = .ok (.iconst 0, 1) := by decide +kernel
theorem dX12_saysBy_7 : decode cX12_saysBy 7 = .ok (.istore 6, 2) := by decide +kernel
theorem dX12_saysBy_9 : decode cX12_saysBy 9 = .ok (.iload 6, 2) := by decide +kernel
theorem dX12_saysBy_11 : decode cX12_saysBy 11 = .ok (.bipush 12, 2) := by decide +kernel
theorem dX12_saysBy_13 : decode cX12_saysBy 13 = .ok (.if_icmp .ge 65, 3) := by decide +kernel
theorem dX12_saysBy_16 : decode cX12_saysBy 16 = .ok (.aload_n 0, 1) := by decide +kernel
theorem dX12_saysBy_17 : decode cX12_saysBy 17 = .ok (.iload_n 1, 1) := by decide +kernel
theorem dX12_saysBy_18 : decode cX12_saysBy 18 = .ok (.invokevirtual 198, 3) := by decide +kernel
theorem dX12_saysBy_21 : decode cX12_saysBy 21 = .ok (.ifCond .ne 57, 3) := by decide +kernel
theorem dX12_saysBy_24 : decode cX12_saysBy 24 = .ok (.iload_n 2, 1) := by decide +kernel
theorem dX12_saysBy_25 : decode cX12_saysBy 25 = .ok (.iload_n 3, 1) := by decide +kernel
theorem dX12_saysBy_26 : decode cX12_saysBy 26 = .ok (.iconst (-1), 1) := by decide +kernel
theorem dX12_saysBy_27 : decode cX12_saysBy 27 = .ok (.ixor, 1) := by decide +kernel
theorem dX12_saysBy_28 : decode cX12_saysBy 28 = .ok (.iand, 1) := by decide +kernel
theorem dX12_saysBy_29 : decode cX12_saysBy 29 = .ok (.iconst 1, 1) := by decide +kernel
theorem dX12_saysBy_30 : decode cX12_saysBy 30 = .ok (.iload 6, 2) := by decide +kernel
theorem dX12_saysBy_32 : decode cX12_saysBy 32 = .ok (.ishl, 1) := by decide +kernel
theorem dX12_saysBy_33 : decode cX12_saysBy 33 = .ok (.iand, 1) := by decide +kernel
theorem dX12_saysBy_34 : decode cX12_saysBy 34 = .ok (.ifCond .eq 38, 3) := by decide +kernel
theorem dX12_saysBy_37 : decode cX12_saysBy 37 = .ok (.aload_n 0, 1) := by decide +kernel
theorem dX12_saysBy_38 : decode cX12_saysBy 38 = .ok (.getfield 50, 3) := by decide +kernel
theorem dX12_saysBy_41 : decode cX12_saysBy 41 = .ok (.bipush 12, 2) := by decide +kernel
theorem dX12_saysBy_43 : decode cX12_saysBy 43 = .ok (.iload_n 1, 1) := by decide +kernel
theorem dX12_saysBy_44 : decode cX12_saysBy 44 = .ok (.imul, 1) := by decide +kernel
theorem dX12_saysBy_45 : decode cX12_saysBy 45 = .ok (.iload 6, 2) := by decide +kernel
theorem dX12_saysBy_47 : decode cX12_saysBy 47 = .ok (.iadd, 1) := by decide +kernel
theorem dX12_saysBy_48 : decode cX12_saysBy 48 = .ok (.iaload, 1) := by decide +kernel
theorem dX12_saysBy_49 : decode cX12_saysBy 49 = .ok (.iload 5, 2) := by decide +kernel
theorem dX12_saysBy_51 : decode cX12_saysBy 51 = .ok (.if_icmp .le 21, 3) := by decide +kernel
theorem dX12_saysBy_54 : decode cX12_saysBy 54 = .ok (.iload 6, 2) := by decide +kernel
theorem dX12_saysBy_56 : decode cX12_saysBy 56 = .ok (.istore 4, 2) := by decide +kernel
theorem dX12_saysBy_58 : decode cX12_saysBy 58 = .ok (.aload_n 0, 1) := by decide +kernel
theorem dX12_saysBy_59 : decode cX12_saysBy 59 = .ok (.getfield 50, 3) := by decide +kernel
theorem dX12_saysBy_62 : decode cX12_saysBy 62 = .ok (.bipush 12, 2) := by decide +kernel
theorem dX12_saysBy_64 : decode cX12_saysBy 64 = .ok (.iload_n 1, 1) := by decide +kernel
theorem dX12_saysBy_65 : decode cX12_saysBy 65 = .ok (.imul, 1) := by decide +kernel
theorem dX12_saysBy_66 : decode cX12_saysBy 66 = .ok (.iload 6, 2) := by decide +kernel
theorem dX12_saysBy_68 : decode cX12_saysBy 68 = .ok (.iadd, 1) := by decide +kernel
theorem dX12_saysBy_69 : decode cX12_saysBy 69 = .ok (.iaload, 1) := by decide +kernel
theorem dX12_saysBy_70 : decode cX12_saysBy 70 = .ok (.istore 5, 2) := by decide +kernel
theorem dX12_saysBy_72 : decode cX12_saysBy 72 = .ok (.iinc 6 1, 3) := by decide +kernel
theorem dX12_saysBy_75 : decode cX12_saysBy 75 = .ok (.goto (-66), 3) := by decide +kernel
theorem dX12_saysBy_78 : decode cX12_saysBy 78 = .ok (.iload 4, 2) := by decide +kernel
theorem dX12_saysBy_80 : decode cX12_saysBy 80 = .ok (.ireturn, 1) := by decide +kernel
set_option maxRecDepth 20000 in
theorem ggX12_saysBy_X12_isMute : GoodIn wsX12_saysBy wsX12_isMute := goodIn_r _ [6, 7, 8, 9, 10, 5, 11, 12, 13, 14, 15, 16, 17, 18, 19, 20, 21, 22, 23, 24, 25, 26, 27, 28, 29, 30, 31, 32, 33, 34, 35, 36, 37, 38, 39, 40, 41, 42, 43] (by decide +kernel) (by decide +kernel)
set_option maxRecDepth 20000 in
theorem gX12_saysBy_X12_isMute : GoodIn wsX12_saysBy (wsV RX12 198 RX12 yX12_isMute wsX12_isMute) := goodIn_app (goodIn_of _ (by decide +kernel)) ggX12_saysBy_X12_isMute
def fX12_saysBy_72 (rec9 : Int32 → Int32 → Int32 → Int32 → Int32 → Int32 → c_G → Option (Int32)) (a1 : Int32) (a2 : Int32) (a3 : Int32) (x1 : Int32) (x2 : Int32) (x3 : Int32) (x4 : Int32) (x5 : Int32) (x6 : Int32) (g : c_G) : Option (Int32) :=
  c_let (x6 + (1 : Int32)) fun v72001 => rec9 x1 x2 x3 x4 x5 v72001 g
set_option maxRecDepth 100000 in
set_option maxHeartbeats 4000000 in
theorem jX12_saysBy_72 {p : Program} {l : Launch} {e : Env} {s : State} {m : MethodId} {below : List Frame} {meth : Method} {c : Code} {D : va_G} {tc : Nat → ClassId} {ad : Nat → Nat} {A : Nat → Prop} {E : (Nat → Nat) × (Nat → Nat) × Nat} {a1 : Int32} {a2 : Int32} {a3 : Int32} {r : Int32} (C : c_C p s m meth c D tc A E RX12 wsX12_saysBy cX12_saysBy 7 (some .int) ([.ref (ad 0), .int a1, .int a2, .int a3] : List Value).toArray) (hD : c_D A ad TM) {rec9 : Int32 → Int32 → Int32 → Int32 → Int32 → Int32 → c_G → Option (Int32)} (hrec9 : ∀ (x1 : Int32) (x2 : Int32) (x3 : Int32) (x4 : Int32) (x5 : Int32) (x6 : Int32) (g : c_G), rec9 x1 x2 x3 x4 x5 x6 g = some r → ∀ (H : Heap) (locs : List Loc), va_P D vwCl (c_ws tc ad TM g) H → va_S A s.heap H locs → ∀ ls : Array Slot, lv_has ls 7 [(0, .ref (ad 0)), (1, .int x1), (2, .int x2), (3, .int x3), (4, .int x4), (5, .int x5), (6, .int x6)] → W p l e (c_rm 2) s m ([.ref (ad 0), .int a1, .int a2, .int a3] : List Value).toArray below meth c H locs 0 0 (MQ below (va_Qi (fun (x : Int32) (_ : Unit) => x = r) (fun _ t => va_P D vwCl (c_ws tc ad TM g) t.heap) A) ([.ref (ad 0), .int a1, .int a2, .int a3] : List Value).toArray s 0 0 A) (F0 m 9 ls [])) : ∀ (x1 : Int32) (x2 : Int32) (x3 : Int32) (x4 : Int32) (x5 : Int32) (x6 : Int32) (g : c_G), fX12_saysBy_72 rec9 a1 a2 a3 x1 x2 x3 x4 x5 x6 g = some r → ∀ (H : Heap) (locs : List Loc), va_P D vwCl (c_ws tc ad TM g) H → va_S A s.heap H locs → ∀ ls : Array Slot, lv_has ls 7 [(0, .ref (ad 0)), (1, .int x1), (2, .int x2), (3, .int x3), (4, .int x4), (5, .int x5), (6, .int x6)] → W p l e (c_rm 2) s m ([.ref (ad 0), .int a1, .int a2, .int a3] : List Value).toArray below meth c H locs 0 0 (MQ below (va_Qi (fun (x : Int32) (_ : Unit) => x = r) (fun _ t => va_P D vwCl (c_ws tc ad TM g) t.heap) A) ([.ref (ad 0), .int a1, .int a2, .int a3] : List Value).toArray s 0 0 A) (F0 m 72 ls []) := by
  obtain ⟨hx, hb, hr, hml, hts, hown, hlk, hK, hE⟩ := id C
  intro x1 x2 x3 x4 x5 x6 g hf H locs hP hS ls hl
  unfold fX12_saysBy_72 at hf
  obtain ⟨v72001, ev72001, hf⟩ := c_letE hf
  refine lv_iinc (v := v72001) (lv' := [(6, .int v72001), (0, .ref (ad 0)), (1, .int x1), (2, .int x2), (3, .int x3), (4, .int x4), (5, .int x5)]) hx hb dX12_saysBy_72 hl (k := 6) rfl (by rw [ev72001]; rfl) (by decide) rfl (fun ls hl => ?_)
  refine lv_goto (tgt := 9) hx hb dX12_saysBy_75 (by decide) ?_
  exact hrec9 x1 x2 x3 x4 x5 v72001 g hf _ _ hP hS _ (lv_sub hl [1, 2, 3, 4, 5, 6, 0] rfl)
def fX12_saysBy_9  (a1 : Int32) (a2 : Int32) (a3 : Int32) : Nat → Int32 → Int32 → Int32 → Int32 → Int32 → Int32 → c_G → Option (Int32)
  | 0, _, _, _, _, _, _, _ => none
  | n + 1, x1, x2, x3, x4, x5, x6, g => if (12 : Int32) ≤ x6 then (some x4) else ((fX12_isMute g x1).bind fun r9002 => if r9002 = 0 then (if ((x2 &&& (x3 ^^^ (-1 : Int32))) &&& ((1 : Int32) <<< (x6 &&& 31))) = 0 then (fX12_saysBy_72 (fX12_saysBy_9 a1 a2 a3 n) a1 a2 a3 x1 x2 x3 x4 x5 x6 g) else (if c_in ((((12 : Int32) * x1) + x6)) (72) = true then if (g.1 12 ((((12 : Int32) * x1) + x6)).toNatClampNeg) ≤ x5 then (fX12_saysBy_72 (fX12_saysBy_9 a1 a2 a3 n) a1 a2 a3 x1 x2 x3 x4 x5 x6 g) else (fX12_saysBy_72 (fX12_saysBy_9 a1 a2 a3 n) a1 a2 a3 x1 x2 x3 x6 ((g.1 12 ((((12 : Int32) * x1) + x6)).toNatClampNeg)) x6 g) else none)) else (some x4))
set_option maxRecDepth 100000 in
set_option maxHeartbeats 4000000 in
theorem jX12_saysBy_9 {p : Program} {l : Launch} {e : Env} {s : State} {m : MethodId} {below : List Frame} {meth : Method} {c : Code} {D : va_G} {tc : Nat → ClassId} {ad : Nat → Nat} {A : Nat → Prop} {E : (Nat → Nat) × (Nat → Nat) × Nat} {a1 : Int32} {a2 : Int32} {a3 : Int32} {r : Int32} (C : c_C p s m meth c D tc A E RX12 wsX12_saysBy cX12_saysBy 7 (some .int) ([.ref (ad 0), .int a1, .int a2, .int a3] : List Value).toArray) (hD : c_D A ad TM)  : ∀ (n : Nat) (x1 : Int32) (x2 : Int32) (x3 : Int32) (x4 : Int32) (x5 : Int32) (x6 : Int32) (g : c_G), fX12_saysBy_9 a1 a2 a3 n x1 x2 x3 x4 x5 x6 g = some r → ∀ (H : Heap) (locs : List Loc), va_P D vwCl (c_ws tc ad TM g) H → va_S A s.heap H locs → ∀ ls : Array Slot, lv_has ls 7 [(0, .ref (ad 0)), (1, .int x1), (2, .int x2), (3, .int x3), (4, .int x4), (5, .int x5), (6, .int x6)] → W p l e (c_rm 2) s m ([.ref (ad 0), .int a1, .int a2, .int a3] : List Value).toArray below meth c H locs 0 0 (MQ below (va_Qi (fun (x : Int32) (_ : Unit) => x = r) (fun _ t => va_P D vwCl (c_ws tc ad TM g) t.heap) A) ([.ref (ad 0), .int a1, .int a2, .int a3] : List Value).toArray s 0 0 A) (F0 m 9 ls []) := by
  obtain ⟨hx, hb, hr, hml, hts, hown, hlk, hK, hE⟩ := id C
  intro n
  induction n with
  | zero =>
    intro x1 x2 x3 x4 x5 x6 g hf
    cases hf
  | succ n ih =>
    intro x1 x2 x3 x4 x5 x6 g hf H locs hP hS ls hl
    unfold fX12_saysBy_9 at hf
    refine lv_iload hx hb dX12_saysBy_9 (lv_at hl 6 rfl) ?_
    refine lv_bipush (v := (12 : Int32)) hx hb dX12_saysBy_11 (by decide) ?_
    refine lv_icmp_ge (tgt := 78) hx hb dX12_saysBy_13 (by decide) (fun c9001 => ?_) (fun c9001 => ?_)
    · have hf := c_it c9001 hf
      refine lv_iload hx hb dX12_saysBy_78 (lv_at hl 4 rfl) ?_
      exact c_iret hx hb hr hlk hP hS rfl ⟨rfl, Option.some.inj hf⟩ dX12_saysBy_80
    · have hf := c_ie c9001 hf
      refine lv_aload_n hx hb dX12_saysBy_16 rfl (lv_at hl 0 rfl) ?_
      refine lv_iload_n hx hb dX12_saysBy_17 rfl (lv_at hl 1 rfl) ?_
      obtain ⟨r9002, hc9003, hf⟩ := c_bd hf
      refine c_goi (va_runV (As := [.int x1]) (rest := []) ⟨hx, hb, hml, hown, hts⟩ (kX12_isMute hD hc9003) (cwV 1 hts gX12_saysBy_X12_isMute rfl rfl rfl (by decide +kernel) ⟨Nat.le_of_ble_eq_true rfl, Nat.le_of_ble_eq_true rfl⟩) (c_preV hK hP hE hS tM0 rfl) rfl rfl hl.1 rfl (lv_room (Nat.le_of_ble_eq_true rfl)) dX12_saysBy_18 ⟨Nat.zero_le _, Nat.zero_le _⟩) hS (fun H locs hP hS => ?_)
      refine lv_if_ne (tgt := 78) hx hb dX12_saysBy_21 (by decide) (fun c9004 => ?_) (fun c9004 => ?_)
      · have hf := c_ie c9004 hf
        refine lv_iload hx hb dX12_saysBy_78 (lv_at hl 4 rfl) ?_
        exact c_iret hx hb hr hlk hP hS rfl ⟨rfl, Option.some.inj hf⟩ dX12_saysBy_80
      · have hf := c_it c9004 hf
        refine lv_iload_n hx hb dX12_saysBy_24 rfl (lv_at hl 2 rfl) ?_
        refine lv_iload_n hx hb dX12_saysBy_25 rfl (lv_at hl 3 rfl) ?_
        refine lv_iconst (v := (-1 : Int32)) hx hb dX12_saysBy_26 (by decide) ?_
        refine lv_ixor hx hb dX12_saysBy_27 ?_
        refine lv_iand hx hb dX12_saysBy_28 ?_
        refine lv_iconst (v := (1 : Int32)) hx hb dX12_saysBy_29 (by decide) ?_
        refine lv_iload hx hb dX12_saysBy_30 (lv_at hl 6 rfl) ?_
        refine lv_ishl hx hb dX12_saysBy_32 ?_
        refine lv_iand hx hb dX12_saysBy_33 ?_
        refine lv_if_eq (tgt := 72) hx hb dX12_saysBy_34 (by decide) (fun c9005 => ?_) (fun c9005 => ?_)
        · have hf := c_it c9005 hf
          exact jX12_saysBy_72 C hD ih x1 x2 x3 x4 x5 x6 g hf _ _ hP hS _ (lv_sub hl [0, 1, 2, 3, 4, 5, 6] rfl)
        · have hf := c_ie c9005 hf
          refine lv_aload_n hx hb dX12_saysBy_37 rfl (lv_at hl 0 rfl) ?_
          refine c_get hx hb hts i_X12_saysBy_X12 hown hK hP 0 tM0 rfl 20 (by decide) (hts _ (List.mem_of_getElem? (i := 1) rfl)) (fun _ h9 => h9) rfl (v := .ref (ad 12)) rfl dX12_saysBy_38 ?_
          refine lv_bipush (v := (12 : Int32)) hx hb dX12_saysBy_41 (by decide) ?_
          refine lv_iload_n hx hb dX12_saysBy_43 rfl (lv_at hl 1 rfl) ?_
          refine lv_imul hx hb dX12_saysBy_44 ?_
          refine lv_iload hx hb dX12_saysBy_45 (lv_at hl 6 rfl) ?_
          refine lv_iadd hx hb dX12_saysBy_47 ?_
          obtain ⟨hi9006, hf⟩ := c_gd hf
          refine c_iald (j := ((((12 : Int32) * x1) + x6)).toNatClampNeg) hx hb hK hP 12 tM12 rfl (c_inV hi9006) dX12_saysBy_48 ?_
          refine lv_iload hx hb dX12_saysBy_49 (lv_at hl 5 rfl) ?_
          refine lv_icmp_le (tgt := 72) hx hb dX12_saysBy_51 (by decide) (fun c9007 => ?_) (fun c9007 => ?_)
          · have hf := c_it c9007 hf
            exact jX12_saysBy_72 C hD ih x1 x2 x3 x4 x5 x6 g hf _ _ hP hS _ (lv_sub hl [0, 1, 2, 3, 4, 5, 6] rfl)
          · have hf := c_ie c9007 hf
            refine lv_iload hx hb dX12_saysBy_54 (lv_at hl 6 rfl) ?_
            refine lv_istore (lv' := [(4, .int x6), (0, .ref (ad 0)), (1, .int x1), (2, .int x2), (3, .int x3), (5, .int x5), (6, .int x6)]) hx hb dX12_saysBy_56 hl (by decide) rfl (fun ls hl => ?_)
            refine lv_aload_n hx hb dX12_saysBy_58 rfl (lv_at hl 1 rfl) ?_
            refine c_get hx hb hts i_X12_saysBy_X12 hown hK hP 0 tM0 rfl 20 (by decide) (hts _ (List.mem_of_getElem? (i := 1) rfl)) (fun _ h9 => h9) rfl (v := .ref (ad 12)) rfl dX12_saysBy_59 ?_
            refine lv_bipush (v := (12 : Int32)) hx hb dX12_saysBy_62 (by decide) ?_
            refine lv_iload_n hx hb dX12_saysBy_64 rfl (lv_at hl 2 rfl) ?_
            refine lv_imul hx hb dX12_saysBy_65 ?_
            refine lv_iload hx hb dX12_saysBy_66 (lv_at hl 6 rfl) ?_
            refine lv_iadd hx hb dX12_saysBy_68 ?_
            refine c_iald (j := ((((12 : Int32) * x1) + x6)).toNatClampNeg) hx hb hK hP 12 tM12 rfl (c_inV hi9006) dX12_saysBy_69 ?_
            refine lv_istore (lv' := [(5, .int (g.1 12 ((((12 : Int32) * x1) + x6)).toNatClampNeg)), (4, .int x6), (0, .ref (ad 0)), (1, .int x1), (2, .int x2), (3, .int x3), (6, .int x6)]) hx hb dX12_saysBy_70 hl (by decide) rfl (fun ls hl => ?_)
            exact jX12_saysBy_72 C hD ih x1 x2 x3 x6 ((g.1 12 ((((12 : Int32) * x1) + x6)).toNatClampNeg)) x6 g hf _ _ hP hS _ (lv_sub hl [2, 3, 4, 5, 1, 0, 6] rfl)
def fX12_saysBy (g : c_G) (a1 : Int32) (a2 : Int32) (a3 : Int32) : Option (Int32) :=
  fX12_saysBy_9 a1 a2 a3 c_F a1 a2 a3 ((-1 : Int32)) ((0 : Int32)) ((0 : Int32)) g
set_option maxRecDepth 100000 in
set_option maxHeartbeats 4000000 in
theorem kX12_saysBy {l : Launch} {D : va_G} {tc : Nat → ClassId} {ad : Nat → Nat} {A : Nat → Prop} {E : (Nat → Nat) × (Nat → Nat) × Nat} (hD : c_D A ad TM) {a1 : Int32} {a2 : Int32} {a3 : Int32} {g : c_G} {r : Int32} (hf : fX12_saysBy g a1 a2 a3 = some r) : c_Mi l yX12_saysBy wsX12_saysBy (c_rm 2) D tc ad A E TM ([.ref (ad 0), .int a1, .int a2, .int a3] : List Value) g g r := by
  refine c_ofW (bytes := cX12_saysBy) (maxL := 7) (ret := (some .int)) (by decide) rfl (Nat.le_of_ble_eq_true rfl) ?_
  intro p e s m below meth c ls C hP hS hl
  unfold fX12_saysBy at hf
  obtain ⟨hx, hb, hr, hml, hts, hown, hlk, hK, hE⟩ := id C
  have hl : lv_has ls 7 [(0, .ref (ad 0)), (1, .int a1), (2, .int a2), (3, .int a3)] := hl
  refine lv_iconst (v := (-1 : Int32)) hx hb dX12_saysBy_0 (by decide) ?_
  refine lv_istore (lv' := [(4, .int (-1 : Int32)), (0, .ref (ad 0)), (1, .int a1), (2, .int a2), (3, .int a3)]) hx hb dX12_saysBy_1 hl (by decide) rfl (fun ls hl => ?_)
  refine lv_iconst (v := (0 : Int32)) hx hb dX12_saysBy_3 (by decide) ?_
  refine lv_istore (lv' := [(5, .int (0 : Int32)), (4, .int (-1 : Int32)), (0, .ref (ad 0)), (1, .int a1), (2, .int a2), (3, .int a3)]) hx hb dX12_saysBy_4 hl (by decide) rfl (fun ls hl => ?_)
  refine lv_iconst (v := (0 : Int32)) hx hb dX12_saysBy_6 (by decide) ?_
  refine lv_istore (lv' := [(6, .int (0 : Int32)), (5, .int (0 : Int32)), (4, .int (-1 : Int32)), (0, .ref (ad 0)), (1, .int a1), (2, .int a2), (3, .int a3)]) hx hb dX12_saysBy_7 hl (by decide) rfl (fun ls hl => ?_)
  exact jX12_saysBy_9 C hD c_F a1 a2 a3 ((-1 : Int32)) ((0 : Int32)) ((0 : Int32)) g hf _ _ hP hS _ (lv_sub hl [3, 4, 5, 6, 2, 1, 0] rfl)
theorem i_X12_isAllHeard_X12 : ∀ w ∈ u_ws RX12 TX12 32, w ∈ wsX12_isAllHeard := c_inP [16, 17, 18, 19, 20, 21, 22, 23, 24, 25, 26, 27, 28, 29, 30, 31, 32, 33, 34, 35, 36, 37, 38, 39, 40, 41, 42, 43, 44, 45, 46, 47] (by decide +kernel)
theorem dX12_isAllHeard_0 : decode cX12_isAllHeard 0 = .ok (.iconst 0, 1) := by decide +kernel
theorem dX12_isAllHeard_1 : decode cX12_isAllHeard 1 = .ok (.istore 4, 2) := by decide +kernel
theorem dX12_isAllHeard_3 : decode cX12_isAllHeard 3 = .ok (.iload 4, 2) := by decide +kernel
theorem dX12_isAllHeard_5 : decode cX12_isAllHeard 5 = .ok (.aload_n 0, 1) := by decide +kernel
theorem dX12_isAllHeard_6 : decode cX12_isAllHeard 6 = .ok (.getfield 15, 3) := by decide +kernel
theorem dX12_isAllHeard_9 : decode cX12_isAllHeard 9 = .ok (.bipush 82, 2) := by decide +kernel
theorem dX12_isAllHeard_11 : decode cX12_isAllHeard 11 = .ok (.iaload, 1) := by decide +kernel
theorem dX12_isAllHeard_12 : decode cX12_isAllHeard 12 = .ok (.if_icmp .ge 58, 3) := by decide +kernel
theorem dX12_isAllHeard_15 : decode cX12_isAllHeard 15 = .ok (.bipush 83, 2) := by decide +kernel
theorem dX12_isAllHeard_17 : decode cX12_isAllHeard 17 = .ok (.iconst 3, 1) := by decide +kernel
theorem dX12_isAllHeard_18 : decode cX12_isAllHeard 18 = .ok (.iload 4, 2) := by decide +kernel
theorem dX12_isAllHeard_20 : decode cX12_isAllHeard 20 = .ok (.imul, 1) := by decide +kernel
theorem dX12_isAllHeard_21 : decode cX12_isAllHeard 21 = .ok (.iadd, 1) := by decide +kernel
theorem dX12_isAllHeard_22 : decode cX12_isAllHeard 22 = .ok (.istore 5, 2) := by decide +kernel
theorem dX12_isAllHeard_24 : decode cX12_isAllHeard 24 = .ok (.aload_n 0, 1) := by decide +kernel
theorem dX12_isAllHeard_25 : decode cX12_isAllHeard 25 = .ok (.getfield 15, 3) := by decide +kernel
theorem dX12_isAllHeard_28 : decode cX12_isAllHeard 28 = .ok (.iload 5, 2) := by decide +kernel
theorem dX12_isAllHeard_30 : decode cX12_isAllHeard 30 = .ok (.iaload, 1) := by decide +kernel
theorem dX12_isAllHeard_31 : decode cX12_isAllHeard 31 = .ok (.iload_n 1, 1) := by decide +kernel
theorem dX12_isAllHeard_32 : decode cX12_isAllHeard 32 = .ok (.if_icmp .ne 32, 3) := by decide +kernel
theorem dX12_isAllHeard_35 : decode cX12_isAllHeard 35 = .ok (.aload_n 0, 1) := by decide +kernel
theorem dX12_isAllHeard_36 : decode cX12_isAllHeard 36 = .ok (.aload_n 0, 1) := by decide +kernel
theorem dX12_isAllHeard_37 : decode cX12_isAllHeard 37 = .ok (.getfield 15, 3) := by decide +kernel
theorem dX12_isAllHeard_40 : decode cX12_isAllHeard 40 = .ok (.iload 5, 2) := by decide +kernel
theorem dX12_isAllHeard_42 : decode cX12_isAllHeard 42 = .ok (.iconst 1, 1) := by decide +kernel
theorem dX12_isAllHeard_43 : decode cX12_isAllHeard 43 = .ok (.iadd, 1) := by decide +kernel
theorem dX12_isAllHeard_44 : decode cX12_isAllHeard 44 = .ok (.iaload, 1) := by decide +kernel
theorem dX12_isAllHeard_45 : decode cX12_isAllHeard 45 = .ok (.iload_n 2, 1) := by decide +kernel
theorem dX12_isAllHeard_46 : decode cX12_isAllHeard 46 = .ok (.iload_n 3, 1) := by decide +kernel
theorem dX12_isAllHeard_47 : decode cX12_isAllHeard 47 = .ok (.invokevirtual 208, 3) := by decide +kernel
theorem dX12_isAllHeard_50 : decode cX12_isAllHeard 50 = .ok (.aload_n 0, 1) := by decide +kernel
theorem dX12_isAllHeard_51 : decode cX12_isAllHeard 51 = .ok (.getfield 15, 3) := by decide +kernel
theorem dX12_isAllHeard_54 : decode cX12_isAllHeard 54 = .ok (.iload 5, 2) := by decide +kernel
theorem dX12_isAllHeard_56 : decode cX12_isAllHeard 56 = .ok (.iconst 2, 1) := by decide +kernel
theorem dX12_isAllHeard_57 : decode cX12_isAllHeard 57 = .ok (.iadd, 1) := by decide +kernel
theorem dX12_isAllHeard_58 : decode cX12_isAllHeard 58 = .ok (.iaload, 1) := by decide +kernel
theorem dX12_isAllHeard_59 : decode cX12_isAllHeard 59 = .ok (.if_icmp .eq 5, 3) := by decide +kernel
theorem dX12_isAllHeard_62 : decode cX12_isAllHeard 62 = .ok (.iconst 0, 1) := by decide +kernel
theorem dX12_isAllHeard_63 : decode cX12_isAllHeard 63 = .ok (.ireturn, 1) := by decide +kernel
theorem dX12_isAllHeard_64 : decode cX12_isAllHeard 64 = .ok (.iinc 4 1, 3) := by decide +kernel
theorem dX12_isAllHeard_67 : decode cX12_isAllHeard 67 = .ok (.goto (-64), 3) := by decide +kernel
theorem dX12_isAllHeard_70 : decode cX12_isAllHeard 70 = .ok (.iconst 1, 1) := by decide +kernel
theorem dX12_isAllHeard_71 : decode cX12_isAllHeard 71 = .ok (.ireturn, 1) := by decide +kernel
set_option maxRecDepth 20000 in
theorem ggX12_isAllHeard_X12_saysBy : GoodIn wsX12_isAllHeard wsX12_saysBy := goodIn_r _ [6, 7, 8, 9, 10, 5, 11, 1, 12, 13, 14, 15, 16, 17, 18, 19, 20, 21, 22, 23, 24, 25, 26, 27, 28, 29, 30, 31, 32, 33, 34, 35, 36, 37, 38, 39, 40, 41, 42, 43, 44, 45, 46, 47] (by decide +kernel) (by decide +kernel)
set_option maxRecDepth 20000 in
theorem gX12_isAllHeard_X12_saysBy : GoodIn wsX12_isAllHeard (wsV RX12 208 RX12 yX12_saysBy wsX12_saysBy) := goodIn_app (goodIn_of _ (by decide +kernel)) ggX12_isAllHeard_X12_saysBy
def fX12_isAllHeard_64 (rec3 : Int32 → Int32 → Int32 → Int32 → c_G → Option (Int32)) (a1 : Int32) (a2 : Int32) (a3 : Int32) (x1 : Int32) (x2 : Int32) (x3 : Int32) (x4 : Int32) (g : c_G) : Option (Int32) :=
  c_let (x4 + (1 : Int32)) fun v64001 => rec3 x1 x2 x3 v64001 g
set_option maxRecDepth 100000 in
set_option maxHeartbeats 4000000 in
theorem jX12_isAllHeard_64 {p : Program} {l : Launch} {e : Env} {s : State} {m : MethodId} {below : List Frame} {meth : Method} {c : Code} {D : va_G} {tc : Nat → ClassId} {ad : Nat → Nat} {A : Nat → Prop} {E : (Nat → Nat) × (Nat → Nat) × Nat} {a1 : Int32} {a2 : Int32} {a3 : Int32} {r : Int32} (C : c_C p s m meth c D tc A E RX12 wsX12_isAllHeard cX12_isAllHeard 6 (some .boolean) ([.ref (ad 0), .int a1, .int a2, .int a3] : List Value).toArray) (hD : c_D A ad TM) {rec3 : Int32 → Int32 → Int32 → Int32 → c_G → Option (Int32)} (hrec3 : ∀ (x1 : Int32) (x2 : Int32) (x3 : Int32) (x4 : Int32) (g : c_G), rec3 x1 x2 x3 x4 g = some r → ∀ (H : Heap) (locs : List Loc), va_P D vwCl (c_ws tc ad TM g) H → va_S A s.heap H locs → ∀ ls : Array Slot, lv_has ls 6 [(0, .ref (ad 0)), (1, .int x1), (2, .int x2), (3, .int x3), (4, .int x4)] → W p l e (c_rm 3) s m ([.ref (ad 0), .int a1, .int a2, .int a3] : List Value).toArray below meth c H locs 0 0 (MQ below (va_Qi (fun (x : Int32) (_ : Unit) => x = r) (fun _ t => va_P D vwCl (c_ws tc ad TM g) t.heap) A) ([.ref (ad 0), .int a1, .int a2, .int a3] : List Value).toArray s 0 0 A) (F0 m 3 ls [])) : ∀ (x1 : Int32) (x2 : Int32) (x3 : Int32) (x4 : Int32) (g : c_G), fX12_isAllHeard_64 rec3 a1 a2 a3 x1 x2 x3 x4 g = some r → ∀ (H : Heap) (locs : List Loc), va_P D vwCl (c_ws tc ad TM g) H → va_S A s.heap H locs → ∀ ls : Array Slot, lv_has ls 6 [(0, .ref (ad 0)), (1, .int x1), (2, .int x2), (3, .int x3), (4, .int x4)] → W p l e (c_rm 3) s m ([.ref (ad 0), .int a1, .int a2, .int a3] : List Value).toArray below meth c H locs 0 0 (MQ below (va_Qi (fun (x : Int32) (_ : Unit) => x = r) (fun _ t => va_P D vwCl (c_ws tc ad TM g) t.heap) A) ([.ref (ad 0), .int a1, .int a2, .int a3] : List Value).toArray s 0 0 A) (F0 m 64 ls []) := by
  obtain ⟨hx, hb, hr, hml, hts, hown, hlk, hK, hE⟩ := id C
  intro x1 x2 x3 x4 g hf H locs hP hS ls hl
  unfold fX12_isAllHeard_64 at hf
  obtain ⟨v64001, ev64001, hf⟩ := c_letE hf
  refine lv_iinc (v := v64001) (lv' := [(4, .int v64001), (0, .ref (ad 0)), (1, .int x1), (2, .int x2), (3, .int x3)]) hx hb dX12_isAllHeard_64 hl (k := 4) rfl (by rw [ev64001]; rfl) (by decide) rfl (fun ls hl => ?_)
  refine lv_goto (tgt := 3) hx hb dX12_isAllHeard_67 (by decide) ?_
  exact hrec3 x1 x2 x3 v64001 g hf _ _ hP hS _ (lv_sub hl [1, 2, 3, 4, 0] rfl)
def fX12_isAllHeard_3  (a1 : Int32) (a2 : Int32) (a3 : Int32) : Nat → Int32 → Int32 → Int32 → Int32 → c_G → Option (Int32)
  | 0, _, _, _, _, _ => none
  | n + 1, x1, x2, x3, x4, g => if (g.1 1 82) ≤ x4 then (some (1 : Int32)) else (c_let (((83 : Int32) + ((3 : Int32) * x4))) fun v3002 => if c_in (v3002) (136) = true then if (g.1 1 (v3002).toNatClampNeg) = x1 then (if c_in ((v3002 + (1 : Int32))) (136) = true then (fX12_saysBy g ((g.1 1 ((v3002 + (1 : Int32))).toNatClampNeg)) x2 x3).bind fun r3006 => if c_in ((v3002 + (2 : Int32))) (136) = true then if r3006 = (g.1 1 ((v3002 + (2 : Int32))).toNatClampNeg) then (fX12_isAllHeard_64 (fX12_isAllHeard_3 a1 a2 a3 n) a1 a2 a3 x1 x2 x3 x4 g) else (some (0 : Int32)) else none else none) else (fX12_isAllHeard_64 (fX12_isAllHeard_3 a1 a2 a3 n) a1 a2 a3 x1 x2 x3 x4 g) else none)
set_option maxRecDepth 100000 in
set_option maxHeartbeats 4000000 in
theorem jX12_isAllHeard_3 {p : Program} {l : Launch} {e : Env} {s : State} {m : MethodId} {below : List Frame} {meth : Method} {c : Code} {D : va_G} {tc : Nat → ClassId} {ad : Nat → Nat} {A : Nat → Prop} {E : (Nat → Nat) × (Nat → Nat) × Nat} {a1 : Int32} {a2 : Int32} {a3 : Int32} {r : Int32} (C : c_C p s m meth c D tc A E RX12 wsX12_isAllHeard cX12_isAllHeard 6 (some .boolean) ([.ref (ad 0), .int a1, .int a2, .int a3] : List Value).toArray) (hD : c_D A ad TM)  : ∀ (n : Nat) (x1 : Int32) (x2 : Int32) (x3 : Int32) (x4 : Int32) (g : c_G), fX12_isAllHeard_3 a1 a2 a3 n x1 x2 x3 x4 g = some r → ∀ (H : Heap) (locs : List Loc), va_P D vwCl (c_ws tc ad TM g) H → va_S A s.heap H locs → ∀ ls : Array Slot, lv_has ls 6 [(0, .ref (ad 0)), (1, .int x1), (2, .int x2), (3, .int x3), (4, .int x4)] → W p l e (c_rm 3) s m ([.ref (ad 0), .int a1, .int a2, .int a3] : List Value).toArray below meth c H locs 0 0 (MQ below (va_Qi (fun (x : Int32) (_ : Unit) => x = r) (fun _ t => va_P D vwCl (c_ws tc ad TM g) t.heap) A) ([.ref (ad 0), .int a1, .int a2, .int a3] : List Value).toArray s 0 0 A) (F0 m 3 ls []) := by
  obtain ⟨hx, hb, hr, hml, hts, hown, hlk, hK, hE⟩ := id C
  intro n
  induction n with
  | zero =>
    intro x1 x2 x3 x4 g hf
    cases hf
  | succ n ih =>
    intro x1 x2 x3 x4 g hf H locs hP hS ls hl
    unfold fX12_isAllHeard_3 at hf
    refine lv_iload hx hb dX12_isAllHeard_3 (lv_at hl 4 rfl) ?_
    refine lv_aload_n hx hb dX12_isAllHeard_5 rfl (lv_at hl 0 rfl) ?_
    refine c_get hx hb hts i_X12_isAllHeard_X12 hown hK hP 0 tM0 rfl 0 (by decide) (hts _ (List.mem_of_getElem? (i := 1) rfl)) (fun _ h9 => h9) rfl (v := .ref (ad 1)) rfl dX12_isAllHeard_6 ?_
    refine lv_bipush (v := (82 : Int32)) hx hb dX12_isAllHeard_9 (by decide) ?_
    refine c_iald (j := 82) hx hb hK hP 1 tM1 (by decide) (c_inV (by decide)) dX12_isAllHeard_11 ?_
    refine lv_icmp_ge (tgt := 70) hx hb dX12_isAllHeard_12 (by decide) (fun c3001 => ?_) (fun c3001 => ?_)
    · have hf := c_it c3001 hf
      refine lv_iconst (v := (1 : Int32)) hx hb dX12_isAllHeard_70 (by decide) ?_
      exact c_iret hx hb hr hlk hP hS rfl ⟨rfl, Option.some.inj hf⟩ dX12_isAllHeard_71
    · have hf := c_ie c3001 hf
      refine lv_bipush (v := (83 : Int32)) hx hb dX12_isAllHeard_15 (by decide) ?_
      refine lv_iconst (v := (3 : Int32)) hx hb dX12_isAllHeard_17 (by decide) ?_
      refine lv_iload hx hb dX12_isAllHeard_18 (lv_at hl 4 rfl) ?_
      refine lv_imul hx hb dX12_isAllHeard_20 ?_
      refine lv_iadd hx hb dX12_isAllHeard_21 ?_
      obtain ⟨v3002, ev3002, hf⟩ := c_letE hf
      refine c_topi ev3002 ?_
      refine lv_istore (lv' := [(5, .int v3002), (0, .ref (ad 0)), (1, .int x1), (2, .int x2), (3, .int x3), (4, .int x4)]) hx hb dX12_isAllHeard_22 hl (by decide) rfl (fun ls hl => ?_)
      refine lv_aload_n hx hb dX12_isAllHeard_24 rfl (lv_at hl 1 rfl) ?_
      refine c_get hx hb hts i_X12_isAllHeard_X12 hown hK hP 0 tM0 rfl 0 (by decide) (hts _ (List.mem_of_getElem? (i := 1) rfl)) (fun _ h9 => h9) rfl (v := .ref (ad 1)) rfl dX12_isAllHeard_25 ?_
      refine lv_iload hx hb dX12_isAllHeard_28 (lv_at hl 0 rfl) ?_
      obtain ⟨hi3003, hf⟩ := c_gd hf
      refine c_iald (j := (v3002).toNatClampNeg) hx hb hK hP 1 tM1 rfl (c_inV hi3003) dX12_isAllHeard_30 ?_
      refine lv_iload_n hx hb dX12_isAllHeard_31 rfl (lv_at hl 2 rfl) ?_
      refine lv_icmp_ne (tgt := 64) hx hb dX12_isAllHeard_32 (by decide) (fun c3004 => ?_) (fun c3004 => ?_)
      · have hf := c_ie c3004 hf
        exact jX12_isAllHeard_64 C hD ih x1 x2 x3 x4 g hf _ _ hP hS _ (lv_sub hl [1, 2, 3, 4, 5] rfl)
      · have hf := c_it c3004 hf
        refine lv_aload_n hx hb dX12_isAllHeard_35 rfl (lv_at hl 1 rfl) ?_
        refine lv_aload_n hx hb dX12_isAllHeard_36 rfl (lv_at hl 1 rfl) ?_
        refine c_get hx hb hts i_X12_isAllHeard_X12 hown hK hP 0 tM0 rfl 0 (by decide) (hts _ (List.mem_of_getElem? (i := 1) rfl)) (fun _ h9 => h9) rfl (v := .ref (ad 1)) rfl dX12_isAllHeard_37 ?_
        refine lv_iload hx hb dX12_isAllHeard_40 (lv_at hl 0 rfl) ?_
        refine lv_iconst (v := (1 : Int32)) hx hb dX12_isAllHeard_42 (by decide) ?_
        refine lv_iadd hx hb dX12_isAllHeard_43 ?_
        obtain ⟨hi3005, hf⟩ := c_gd hf
        refine c_iald (j := ((v3002 + (1 : Int32))).toNatClampNeg) hx hb hK hP 1 tM1 rfl (c_inV hi3005) dX12_isAllHeard_44 ?_
        refine lv_iload_n hx hb dX12_isAllHeard_45 rfl (lv_at hl 3 rfl) ?_
        refine lv_iload_n hx hb dX12_isAllHeard_46 rfl (lv_at hl 4 rfl) ?_
        obtain ⟨r3006, hc3007, hf⟩ := c_bd hf
        refine c_goi (va_runV (As := [.int (g.1 1 ((v3002 + (1 : Int32))).toNatClampNeg), .int x2, .int x3]) (rest := []) ⟨hx, hb, hml, hown, hts⟩ (kX12_saysBy hD hc3007) (cwV 3 hts gX12_isAllHeard_X12_saysBy rfl rfl rfl (by decide +kernel) ⟨Nat.le_of_ble_eq_true rfl, Nat.le_of_ble_eq_true rfl⟩) (c_preV hK hP hE hS tM0 rfl) rfl rfl hl.1 rfl (lv_room (Nat.le_of_ble_eq_true rfl)) dX12_isAllHeard_47 ⟨Nat.zero_le _, Nat.zero_le _⟩) hS (fun H locs hP hS => ?_)
        refine lv_aload_n hx hb dX12_isAllHeard_50 rfl (lv_at hl 1 rfl) ?_
        refine c_get hx hb hts i_X12_isAllHeard_X12 hown hK hP 0 tM0 rfl 0 (by decide) (hts _ (List.mem_of_getElem? (i := 1) rfl)) (fun _ h9 => h9) rfl (v := .ref (ad 1)) rfl dX12_isAllHeard_51 ?_
        refine lv_iload hx hb dX12_isAllHeard_54 (lv_at hl 0 rfl) ?_
        refine lv_iconst (v := (2 : Int32)) hx hb dX12_isAllHeard_56 (by decide) ?_
        refine lv_iadd hx hb dX12_isAllHeard_57 ?_
        obtain ⟨hi3008, hf⟩ := c_gd hf
        refine c_iald (j := ((v3002 + (2 : Int32))).toNatClampNeg) hx hb hK hP 1 tM1 rfl (c_inV hi3008) dX12_isAllHeard_58 ?_
        refine lv_icmp_eq (tgt := 64) hx hb dX12_isAllHeard_59 (by decide) (fun c3009 => ?_) (fun c3009 => ?_)
        · have hf := c_it c3009 hf
          exact jX12_isAllHeard_64 C hD ih x1 x2 x3 x4 g hf _ _ hP hS _ (lv_sub hl [1, 2, 3, 4, 5] rfl)
        · have hf := c_ie c3009 hf
          refine lv_iconst (v := (0 : Int32)) hx hb dX12_isAllHeard_62 (by decide) ?_
          exact c_iret hx hb hr hlk hP hS rfl ⟨rfl, Option.some.inj hf⟩ dX12_isAllHeard_63
def fX12_isAllHeard (g : c_G) (a1 : Int32) (a2 : Int32) (a3 : Int32) : Option (Int32) :=
  fX12_isAllHeard_3 a1 a2 a3 c_F a1 a2 a3 ((0 : Int32)) g
set_option maxRecDepth 100000 in
set_option maxHeartbeats 4000000 in
theorem kX12_isAllHeard {l : Launch} {D : va_G} {tc : Nat → ClassId} {ad : Nat → Nat} {A : Nat → Prop} {E : (Nat → Nat) × (Nat → Nat) × Nat} (hD : c_D A ad TM) {a1 : Int32} {a2 : Int32} {a3 : Int32} {g : c_G} {r : Int32} (hf : fX12_isAllHeard g a1 a2 a3 = some r) : c_Mi l yX12_isAllHeard wsX12_isAllHeard (c_rm 3) D tc ad A E TM ([.ref (ad 0), .int a1, .int a2, .int a3] : List Value) g g r := by
  refine c_ofW (bytes := cX12_isAllHeard) (maxL := 6) (ret := (some .boolean)) (by decide) rfl (Nat.le_of_ble_eq_true rfl) ?_
  intro p e s m below meth c ls C hP hS hl
  unfold fX12_isAllHeard at hf
  obtain ⟨hx, hb, hr, hml, hts, hown, hlk, hK, hE⟩ := id C
  have hl : lv_has ls 6 [(0, .ref (ad 0)), (1, .int a1), (2, .int a2), (3, .int a3)] := hl
  refine lv_iconst (v := (0 : Int32)) hx hb dX12_isAllHeard_0 (by decide) ?_
  refine lv_istore (lv' := [(4, .int (0 : Int32)), (0, .ref (ad 0)), (1, .int a1), (2, .int a2), (3, .int a3)]) hx hb dX12_isAllHeard_1 hl (by decide) rfl (fun ls hl => ?_)
  exact jX12_isAllHeard_3 C hD c_F a1 a2 a3 ((0 : Int32)) g hf _ _ hP hS _ (lv_sub hl [1, 2, 3, 4, 0] rfl)
theorem dX12_knew_0 : decode cX12_knew 0 = .ok (.aload_n 0, 1) := by decide +kernel
theorem dX12_knew_1 : decode cX12_knew 1 = .ok (.iload_n 1, 1) := by decide +kernel
theorem dX12_knew_2 : decode cX12_knew 2 = .ok (.invokevirtual 241, 3) := by decide +kernel
theorem dX12_knew_5 : decode cX12_knew 5 = .ok (.aload_n 0, 1) := by decide +kernel
theorem dX12_knew_6 : decode cX12_knew 6 = .ok (.invokevirtual 205, 3) := by decide +kernel
theorem dX12_knew_9 : decode cX12_knew 9 = .ok (.istore_n 3, 1) := by decide +kernel
theorem dX12_knew_10 : decode cX12_knew 10 = .ok (.iconst 0, 1) := by decide +kernel
theorem dX12_knew_11 : decode cX12_knew 11 = .ok (.istore 4, 2) := by decide +kernel
theorem dX12_knew_13 : decode cX12_knew 13 = .ok (.bipush (-5), 2) := by decide +kernel
theorem dX12_knew_15 : decode cX12_knew 15 = .ok (.istore 5, 2) := by decide +kernel
theorem dX12_knew_17 : decode cX12_knew 17 = .ok (.sipush 4095, 3) := by decide +kernel
theorem dX12_knew_20 : decode cX12_knew 20 = .ok (.istore 6, 2) := by decide +kernel
theorem dX12_knew_22 : decode cX12_knew 22 = .ok (.iload 6, 2) := by decide +kernel
theorem dX12_knew_24 : decode cX12_knew 24 = .ok (.ifCond .lt 48, 3) := by decide +kernel
theorem dX12_knew_27 : decode cX12_knew 27 = .ok (.aload_n 0, 1) := by decide +kernel
theorem dX12_knew_28 : decode cX12_knew 28 = .ok (.iload_n 1, 1) := by decide +kernel
theorem dX12_knew_29 : decode cX12_knew 29 = .ok (.iload 6, 2) := by decide +kernel
theorem dX12_knew_31 : decode cX12_knew 31 = .ok (.iload_n 3, 1) := by decide +kernel
theorem dX12_knew_32 : decode cX12_knew 32 = .ok (.invokevirtual 244, 3) := by decide +kernel
theorem dX12_knew_35 : decode cX12_knew 35 = .ok (.istore 7, 2) := by decide +kernel
theorem dX12_knew_37 : decode cX12_knew 37 = .ok (.iload 4, 2) := by decide +kernel
theorem dX12_knew_39 : decode cX12_knew 39 = .ok (.iload 7, 2) := by decide +kernel
theorem dX12_knew_41 : decode cX12_knew 41 = .ok (.ifCond .eq 7, 3) := by decide +kernel
theorem dX12_knew_44 : decode cX12_knew 44 = .ok (.iconst 1, 1) := by decide +kernel
theorem dX12_knew_45 : decode cX12_knew 45 = .ok (.goto 4, 3) := by decide +kernel
theorem dX12_knew_48 : decode cX12_knew 48 = .ok (.iconst 0, 1) := by decide +kernel
theorem dX12_knew_49 : decode cX12_knew 49 = .ok (.iadd, 1) := by decide +kernel
theorem dX12_knew_50 : decode cX12_knew 50 = .ok (.istore 4, 2) := by decide +kernel
theorem dX12_knew_52 : decode cX12_knew 52 = .ok (.iload 7, 2) := by decide +kernel
theorem dX12_knew_54 : decode cX12_knew 54 = .ok (.ifCond .eq 8, 3) := by decide +kernel
theorem dX12_knew_57 : decode cX12_knew 57 = .ok (.iload 6, 2) := by decide +kernel
theorem dX12_knew_59 : decode cX12_knew 59 = .ok (.goto 5, 3) := by decide +kernel
theorem dX12_knew_62 : decode cX12_knew 62 = .ok (.iload 5, 2) := by decide +kernel
theorem dX12_knew_64 : decode cX12_knew 64 = .ok (.istore 5, 2) := by decide +kernel
theorem dX12_knew_66 : decode cX12_knew 66 = .ok (.iinc 6 (-1), 3) := by decide +kernel
theorem dX12_knew_69 : decode cX12_knew 69 = .ok (.goto (-47), 3) := by decide +kernel
theorem dX12_knew_72 : decode cX12_knew 72 = .ok (.iload_n 2, 1) := by decide +kernel
theorem dX12_knew_73 : decode cX12_knew 73 = .ok (.ifCond .eq 8, 3) := by decide +kernel
theorem dX12_knew_76 : decode cX12_knew 76 = .ok (.iload 4, 2) := by decide +kernel
theorem dX12_knew_78 : decode cX12_knew 78 = .ok (.goto 5, 3) := by decide +kernel
theorem dX12_knew_81 : decode cX12_knew 81 = .ok (.iload 5, 2) := by decide +kernel
theorem dX12_knew_83 : decode cX12_knew 83 = .ok (.ireturn, 1) := by decide +kernel
set_option maxRecDepth 20000 in
theorem ggX12_knew_X12_tellAll : GoodIn wsX12_knew wsX12_tellAll := goodIn_r _ [5, 6, 7, 8, 4, 9, 10, 11, 12, 13, 14, 15, 16, 17, 18, 19, 20, 21, 22, 23, 24, 25, 26, 27, 28, 29, 30, 31, 32, 33, 34, 35, 36, 37, 38, 39, 40, 41, 42, 43, 44, 45, 46, 47, 48, 49, 50, 51, 52, 53, 54, 55, 56, 57, 58, 59, 60, 61, 62, 63, 64, 65, 66, 67, 68, 69, 70, 71, 72, 73, 74, 75, 76, 77, 78, 79, 80, 97, 98, 99, 100, 101, 102, 103, 104, 105, 106, 107, 108, 109, 110, 111, 112, 113, 114, 115, 116, 117, 118, 119, 120, 121, 122, 123, 124, 125, 126, 127, 128] (by decide +kernel) (by decide +kernel)
set_option maxRecDepth 20000 in
theorem gX12_knew_X12_tellAll : GoodIn wsX12_knew (wsV RX12 241 RX12 yX12_tellAll wsX12_tellAll) := goodIn_app (goodIn_of _ (by decide +kernel)) ggX12_knew_X12_tellAll
set_option maxRecDepth 20000 in
theorem ggX12_knew_X12_used : GoodIn wsX12_knew wsX12_used := goodIn_r _ [84, 16, 31, 32, 33, 4, 34, 97, 98, 99, 100, 101, 102, 103, 104, 105, 106, 107, 108, 109, 110, 111, 112, 113, 114, 115, 116, 117, 118, 119, 120, 121, 122, 123, 124, 125, 126, 127, 128] (by decide +kernel) (by decide +kernel)
set_option maxRecDepth 20000 in
theorem gX12_knew_X12_used : GoodIn wsX12_knew (wsV RX12 205 RX12 yX12_used wsX12_used) := goodIn_app (goodIn_of _ (by decide +kernel)) ggX12_knew_X12_used
set_option maxRecDepth 20000 in
theorem ggX12_knew_X12_isAllHeard : GoodIn wsX12_knew wsX12_isAllHeard := goodIn_r _ [88, 16, 89, 90, 91, 4, 92, 10, 93, 94, 95, 96, 31, 32, 33, 34, 97, 98, 99, 100, 101, 102, 103, 104, 105, 106, 107, 108, 109, 110, 111, 112, 113, 114, 115, 116, 117, 118, 119, 120, 121, 122, 123, 124, 125, 126, 127, 128] (by decide +kernel) (by decide +kernel)
set_option maxRecDepth 20000 in
theorem gX12_knew_X12_isAllHeard : GoodIn wsX12_knew (wsV RX12 244 RX12 yX12_isAllHeard wsX12_isAllHeard) := goodIn_app (goodIn_of _ (by decide +kernel)) ggX12_knew_X12_isAllHeard
def fX12_knew_64 (rec22 : Int32 → Int32 → Int32 → Int32 → Int32 → Int32 → c_G → Option (c_G × Int32)) (a1 : Int32) (a2 : Int32) (x1 : Int32) (x2 : Int32) (x3 : Int32) (x4 : Int32) (x6 : Int32) (y0 : Int32) (g : c_G) : Option (c_G × Int32) :=
  c_let (x6 + (-1 : Int32)) fun v64001 => rec22 x1 x2 x3 x4 y0 v64001 g
set_option maxRecDepth 100000 in
set_option maxHeartbeats 4000000 in
theorem jX12_knew_64 {p : Program} {l : Launch} {e : Env} {s : State} {m : MethodId} {below : List Frame} {meth : Method} {c : Code} {D : va_G} {tc : Nat → ClassId} {ad : Nat → Nat} {A : Nat → Prop} {E : (Nat → Nat) × (Nat → Nat) × Nat} {a1 : Int32} {a2 : Int32} {g' : c_G} {r : Int32} (C : c_C p s m meth c D tc A E RX12 wsX12_knew cX12_knew 8 (some .int) ([.ref (ad 0), .int a1, .int a2] : List Value).toArray) (hD : c_D A ad TM) {rec22 : Int32 → Int32 → Int32 → Int32 → Int32 → Int32 → c_G → Option (c_G × Int32)} (hrec22 : ∀ (x1 : Int32) (x2 : Int32) (x3 : Int32) (x4 : Int32) (x5 : Int32) (x6 : Int32) (g : c_G), rec22 x1 x2 x3 x4 x5 x6 g = some (g', r) → ∀ (H : Heap) (locs : List Loc), va_P D vwCl (c_ws tc ad TM g) H → va_S A s.heap H locs → ∀ ls : Array Slot, lv_has ls 8 [(0, .ref (ad 0)), (1, .int x1), (2, .int x2), (3, .int x3), (4, .int x4), (5, .int x5), (6, .int x6)] → W p l e (c_rm 50) s m ([.ref (ad 0), .int a1, .int a2] : List Value).toArray below meth c H locs 0 0 (MQ below (va_Qi (fun (x : Int32) (_ : Unit) => x = r) (fun _ t => va_P D vwCl (c_ws tc ad TM g') t.heap) A) ([.ref (ad 0), .int a1, .int a2] : List Value).toArray s 0 0 A) (F0 m 22 ls [])) : ∀ (x1 : Int32) (x2 : Int32) (x3 : Int32) (x4 : Int32) (x6 : Int32) (y0 : Int32) (g : c_G), fX12_knew_64 rec22 a1 a2 x1 x2 x3 x4 x6 y0 g = some (g', r) → ∀ (H : Heap) (locs : List Loc), va_P D vwCl (c_ws tc ad TM g) H → va_S A s.heap H locs → ∀ ls : Array Slot, lv_has ls 8 [(0, .ref (ad 0)), (1, .int x1), (2, .int x2), (3, .int x3), (4, .int x4), (6, .int x6)] → W p l e (c_rm 50) s m ([.ref (ad 0), .int a1, .int a2] : List Value).toArray below meth c H locs 0 0 (MQ below (va_Qi (fun (x : Int32) (_ : Unit) => x = r) (fun _ t => va_P D vwCl (c_ws tc ad TM g') t.heap) A) ([.ref (ad 0), .int a1, .int a2] : List Value).toArray s 0 0 A) (F0 m 64 ls [.int y0]) := by
  obtain ⟨hx, hb, hr, hml, hts, hown, hlk, hK, hE⟩ := id C
  intro x1 x2 x3 x4 x6 y0 g hf H locs hP hS ls hl
  unfold fX12_knew_64 at hf
  refine lv_istore (lv' := [(5, .int y0), (0, .ref (ad 0)), (1, .int x1), (2, .int x2), (3, .int x3), (4, .int x4), (6, .int x6)]) hx hb dX12_knew_64 hl (by decide) rfl (fun ls hl => ?_)
  obtain ⟨v64001, ev64001, hf⟩ := c_letE hf
  refine lv_iinc (v := v64001) (lv' := [(6, .int v64001), (5, .int y0), (0, .ref (ad 0)), (1, .int x1), (2, .int x2), (3, .int x3), (4, .int x4)]) hx hb dX12_knew_66 hl (k := 6) rfl (by rw [ev64001]; rfl) (by decide) rfl (fun ls hl => ?_)
  refine lv_goto (tgt := 22) hx hb dX12_knew_69 (by decide) ?_
  exact hrec22 x1 x2 x3 x4 y0 v64001 g hf _ _ hP hS _ (lv_sub hl [2, 3, 4, 5, 6, 1, 0] rfl)
def fX12_knew_49 (rec22 : Int32 → Int32 → Int32 → Int32 → Int32 → Int32 → c_G → Option (c_G × Int32)) (a1 : Int32) (a2 : Int32) (x1 : Int32) (x2 : Int32) (x3 : Int32) (x5 : Int32) (x6 : Int32) (x7 : Int32) (y0 : Int32) (y1 : Int32) (g : c_G) : Option (c_G × Int32) :=
  c_let ((y0 + y1)) fun v49001 => if x7 = 0 then (fX12_knew_64 rec22 a1 a2 x1 x2 x3 v49001 x6 x5 g) else (fX12_knew_64 rec22 a1 a2 x1 x2 x3 v49001 x6 x6 g)
set_option maxRecDepth 100000 in
set_option maxHeartbeats 4000000 in
theorem jX12_knew_49 {p : Program} {l : Launch} {e : Env} {s : State} {m : MethodId} {below : List Frame} {meth : Method} {c : Code} {D : va_G} {tc : Nat → ClassId} {ad : Nat → Nat} {A : Nat → Prop} {E : (Nat → Nat) × (Nat → Nat) × Nat} {a1 : Int32} {a2 : Int32} {g' : c_G} {r : Int32} (C : c_C p s m meth c D tc A E RX12 wsX12_knew cX12_knew 8 (some .int) ([.ref (ad 0), .int a1, .int a2] : List Value).toArray) (hD : c_D A ad TM) {rec22 : Int32 → Int32 → Int32 → Int32 → Int32 → Int32 → c_G → Option (c_G × Int32)} (hrec22 : ∀ (x1 : Int32) (x2 : Int32) (x3 : Int32) (x4 : Int32) (x5 : Int32) (x6 : Int32) (g : c_G), rec22 x1 x2 x3 x4 x5 x6 g = some (g', r) → ∀ (H : Heap) (locs : List Loc), va_P D vwCl (c_ws tc ad TM g) H → va_S A s.heap H locs → ∀ ls : Array Slot, lv_has ls 8 [(0, .ref (ad 0)), (1, .int x1), (2, .int x2), (3, .int x3), (4, .int x4), (5, .int x5), (6, .int x6)] → W p l e (c_rm 50) s m ([.ref (ad 0), .int a1, .int a2] : List Value).toArray below meth c H locs 0 0 (MQ below (va_Qi (fun (x : Int32) (_ : Unit) => x = r) (fun _ t => va_P D vwCl (c_ws tc ad TM g') t.heap) A) ([.ref (ad 0), .int a1, .int a2] : List Value).toArray s 0 0 A) (F0 m 22 ls [])) : ∀ (x1 : Int32) (x2 : Int32) (x3 : Int32) (x5 : Int32) (x6 : Int32) (x7 : Int32) (y0 : Int32) (y1 : Int32) (g : c_G), fX12_knew_49 rec22 a1 a2 x1 x2 x3 x5 x6 x7 y0 y1 g = some (g', r) → ∀ (H : Heap) (locs : List Loc), va_P D vwCl (c_ws tc ad TM g) H → va_S A s.heap H locs → ∀ ls : Array Slot, lv_has ls 8 [(0, .ref (ad 0)), (1, .int x1), (2, .int x2), (3, .int x3), (5, .int x5), (6, .int x6), (7, .int x7)] → W p l e (c_rm 50) s m ([.ref (ad 0), .int a1, .int a2] : List Value).toArray below meth c H locs 0 0 (MQ below (va_Qi (fun (x : Int32) (_ : Unit) => x = r) (fun _ t => va_P D vwCl (c_ws tc ad TM g') t.heap) A) ([.ref (ad 0), .int a1, .int a2] : List Value).toArray s 0 0 A) (F0 m 49 ls [.int y1, .int y0]) := by
  obtain ⟨hx, hb, hr, hml, hts, hown, hlk, hK, hE⟩ := id C
  intro x1 x2 x3 x5 x6 x7 y0 y1 g hf H locs hP hS ls hl
  unfold fX12_knew_49 at hf
  refine lv_iadd hx hb dX12_knew_49 ?_
  obtain ⟨v49001, ev49001, hf⟩ := c_letE hf
  refine c_topi ev49001 ?_
  refine lv_istore (lv' := [(4, .int v49001), (0, .ref (ad 0)), (1, .int x1), (2, .int x2), (3, .int x3), (5, .int x5), (6, .int x6), (7, .int x7)]) hx hb dX12_knew_50 hl (by decide) rfl (fun ls hl => ?_)
  refine lv_iload hx hb dX12_knew_52 (lv_at hl 7 rfl) ?_
  refine lv_if_eq (tgt := 62) hx hb dX12_knew_54 (by decide) (fun c49002 => ?_) (fun c49002 => ?_)
  · have hf := c_it c49002 hf
    refine lv_iload hx hb dX12_knew_62 (lv_at hl 5 rfl) ?_
    exact jX12_knew_64 C hD hrec22 x1 x2 x3 v49001 x6 x5 g hf _ _ hP hS _ (lv_sub hl [1, 2, 3, 4, 0, 6] rfl)
  · have hf := c_ie c49002 hf
    refine lv_iload hx hb dX12_knew_57 (lv_at hl 6 rfl) ?_
    refine lv_goto (tgt := 64) hx hb dX12_knew_59 (by decide) ?_
    exact jX12_knew_64 C hD hrec22 x1 x2 x3 v49001 x6 x6 g hf _ _ hP hS _ (lv_sub hl [1, 2, 3, 4, 0, 6] rfl)
def fX12_knew_22  (a1 : Int32) (a2 : Int32) : Nat → Int32 → Int32 → Int32 → Int32 → Int32 → Int32 → c_G → Option (c_G × Int32)
  | 0, _, _, _, _, _, _, _ => none
  | n + 1, x1, x2, x3, x4, x5, x6, g => if x6 < 0 then (if x2 = 0 then (some (g, x5)) else (some (g, x4))) else ((fX12_isAllHeard g x1 x6 x3).bind fun r22003 => if r22003 = 0 then (fX12_knew_49 (fX12_knew_22 a1 a2 n) a1 a2 x1 x2 x3 x5 x6 r22003 x4 ((0 : Int32)) g) else (fX12_knew_49 (fX12_knew_22 a1 a2 n) a1 a2 x1 x2 x3 x5 x6 r22003 x4 ((1 : Int32)) g))
set_option maxRecDepth 100000 in
set_option maxHeartbeats 4000000 in
theorem jX12_knew_22 {p : Program} {l : Launch} {e : Env} {s : State} {m : MethodId} {below : List Frame} {meth : Method} {c : Code} {D : va_G} {tc : Nat → ClassId} {ad : Nat → Nat} {A : Nat → Prop} {E : (Nat → Nat) × (Nat → Nat) × Nat} {a1 : Int32} {a2 : Int32} {g' : c_G} {r : Int32} (C : c_C p s m meth c D tc A E RX12 wsX12_knew cX12_knew 8 (some .int) ([.ref (ad 0), .int a1, .int a2] : List Value).toArray) (hD : c_D A ad TM)  : ∀ (n : Nat) (x1 : Int32) (x2 : Int32) (x3 : Int32) (x4 : Int32) (x5 : Int32) (x6 : Int32) (g : c_G), fX12_knew_22 a1 a2 n x1 x2 x3 x4 x5 x6 g = some (g', r) → ∀ (H : Heap) (locs : List Loc), va_P D vwCl (c_ws tc ad TM g) H → va_S A s.heap H locs → ∀ ls : Array Slot, lv_has ls 8 [(0, .ref (ad 0)), (1, .int x1), (2, .int x2), (3, .int x3), (4, .int x4), (5, .int x5), (6, .int x6)] → W p l e (c_rm 50) s m ([.ref (ad 0), .int a1, .int a2] : List Value).toArray below meth c H locs 0 0 (MQ below (va_Qi (fun (x : Int32) (_ : Unit) => x = r) (fun _ t => va_P D vwCl (c_ws tc ad TM g') t.heap) A) ([.ref (ad 0), .int a1, .int a2] : List Value).toArray s 0 0 A) (F0 m 22 ls []) := by
  obtain ⟨hx, hb, hr, hml, hts, hown, hlk, hK, hE⟩ := id C
  intro n
  induction n with
  | zero =>
    intro x1 x2 x3 x4 x5 x6 g hf
    cases hf
  | succ n ih =>
    intro x1 x2 x3 x4 x5 x6 g hf H locs hP hS ls hl
    unfold fX12_knew_22 at hf
    refine lv_iload hx hb dX12_knew_22 (lv_at hl 6 rfl) ?_
    refine lv_if_lt (tgt := 72) hx hb dX12_knew_24 (by decide) (fun c22001 => ?_) (fun c22001 => ?_)
    · have hf := c_it c22001 hf
      refine lv_iload_n hx hb dX12_knew_72 rfl (lv_at hl 2 rfl) ?_
      refine lv_if_eq (tgt := 81) hx hb dX12_knew_73 (by decide) (fun c22002 => ?_) (fun c22002 => ?_)
      · have hf := c_it c22002 hf
        refine lv_iload hx hb dX12_knew_81 (lv_at hl 5 rfl) ?_
        exact c_iret hx hb hr hlk hP hS rfl (c_inj hf) dX12_knew_83
      · have hf := c_ie c22002 hf
        refine lv_iload hx hb dX12_knew_76 (lv_at hl 4 rfl) ?_
        refine lv_goto (tgt := 83) hx hb dX12_knew_78 (by decide) ?_
        exact c_iret hx hb hr hlk hP hS rfl (c_inj hf) dX12_knew_83
    · have hf := c_ie c22001 hf
      refine lv_aload_n hx hb dX12_knew_27 rfl (lv_at hl 0 rfl) ?_
      refine lv_iload_n hx hb dX12_knew_28 rfl (lv_at hl 1 rfl) ?_
      refine lv_iload hx hb dX12_knew_29 (lv_at hl 6 rfl) ?_
      refine lv_iload_n hx hb dX12_knew_31 rfl (lv_at hl 3 rfl) ?_
      obtain ⟨r22003, hc22004, hf⟩ := c_bd hf
      refine c_goi (va_runV (As := [.int x1, .int x6, .int x3]) (rest := []) ⟨hx, hb, hml, hown, hts⟩ (kX12_isAllHeard hD hc22004) (cwV 3 hts gX12_knew_X12_isAllHeard rfl rfl rfl (by decide +kernel) ⟨Nat.le_of_ble_eq_true rfl, Nat.le_of_ble_eq_true rfl⟩) (c_preV hK hP hE hS tM0 rfl) rfl rfl hl.1 rfl (lv_room (Nat.le_of_ble_eq_true rfl)) dX12_knew_32 ⟨Nat.zero_le _, Nat.zero_le _⟩) hS (fun H locs hP hS => ?_)
      refine lv_istore (lv' := [(7, .int r22003), (0, .ref (ad 0)), (1, .int x1), (2, .int x2), (3, .int x3), (4, .int x4), (5, .int x5), (6, .int x6)]) hx hb dX12_knew_35 hl (by decide) rfl (fun ls hl => ?_)
      refine lv_iload hx hb dX12_knew_37 (lv_at hl 5 rfl) ?_
      refine lv_iload hx hb dX12_knew_39 (lv_at hl 0 rfl) ?_
      refine lv_if_eq (tgt := 48) hx hb dX12_knew_41 (by decide) (fun c22005 => ?_) (fun c22005 => ?_)
      · have hf := c_it c22005 hf
        refine lv_iconst (v := (0 : Int32)) hx hb dX12_knew_48 (by decide) ?_
        exact jX12_knew_49 C hD ih x1 x2 x3 x5 x6 r22003 x4 ((0 : Int32)) g hf _ _ hP hS _ (lv_sub hl [1, 2, 3, 4, 6, 7, 0] rfl)
      · have hf := c_ie c22005 hf
        refine lv_iconst (v := (1 : Int32)) hx hb dX12_knew_44 (by decide) ?_
        refine lv_goto (tgt := 49) hx hb dX12_knew_45 (by decide) ?_
        exact jX12_knew_49 C hD ih x1 x2 x3 x5 x6 r22003 x4 ((1 : Int32)) g hf _ _ hP hS _ (lv_sub hl [1, 2, 3, 4, 6, 7, 0] rfl)
def fX12_knew (g : c_G) (a1 : Int32) (a2 : Int32) : Option (c_G × Int32) :=
  (fX12_tellAll g a1).bind fun g2 => (fX12_used g2).bind fun r3 => fX12_knew_22 a1 a2 c_F a1 a2 r3 ((0 : Int32)) ((-5 : Int32)) ((4095 : Int32)) g2
set_option maxRecDepth 100000 in
set_option maxHeartbeats 4000000 in
theorem kX12_knew {l : Launch} {D : va_G} {tc : Nat → ClassId} {ad : Nat → Nat} {A : Nat → Prop} {E : (Nat → Nat) × (Nat → Nat) × Nat} (hD : c_D A ad TM) {a1 : Int32} {a2 : Int32} {g g' : c_G} {r : Int32} (hf : fX12_knew g a1 a2 = some (g', r)) : c_Mi l yX12_knew wsX12_knew (c_rm 50) D tc ad A E TM ([.ref (ad 0), .int a1, .int a2] : List Value) g g' r := by
  refine c_ofW (bytes := cX12_knew) (maxL := 8) (ret := (some .int)) (by decide) rfl (Nat.le_of_ble_eq_true rfl) ?_
  intro p e s m below meth c ls C hP hS hl
  unfold fX12_knew at hf
  obtain ⟨hx, hb, hr, hml, hts, hown, hlk, hK, hE⟩ := id C
  have hl : lv_has ls 8 [(0, .ref (ad 0)), (1, .int a1), (2, .int a2)] := hl
  refine lv_aload_n hx hb dX12_knew_0 rfl (lv_at hl 0 rfl) ?_
  refine lv_iload_n hx hb dX12_knew_1 rfl (lv_at hl 1 rfl) ?_
  obtain ⟨g2, hc1, hf⟩ := c_bd hf
  refine c_gov (va_runV (As := [.int a1]) (rest := []) ⟨hx, hb, hml, hown, hts⟩ (kX12_tellAll hD hc1) (cwV 1 hts gX12_knew_X12_tellAll rfl rfl rfl (by decide +kernel) ⟨Nat.le_of_ble_eq_true rfl, Nat.le_of_ble_eq_true rfl⟩) (c_preV hK hP hE hS tM0 rfl) rfl rfl hl.1 rfl (lv_room (Nat.le_of_ble_eq_true rfl)) dX12_knew_2 ⟨Nat.zero_le _, Nat.zero_le _⟩) hS (fun H locs hP hS => ?_)
  refine lv_aload_n hx hb dX12_knew_5 rfl (lv_at hl 0 rfl) ?_
  obtain ⟨r3, hc4, hf⟩ := c_bd hf
  refine c_goi (va_runV (As := []) (rest := []) ⟨hx, hb, hml, hown, hts⟩ (kX12_used hD hc4) (cwV 0 hts gX12_knew_X12_used rfl rfl rfl (by decide +kernel) ⟨Nat.le_of_ble_eq_true rfl, Nat.le_of_ble_eq_true rfl⟩) (c_preV hK hP hE hS tM0 rfl) rfl rfl hl.1 rfl (lv_room (Nat.le_of_ble_eq_true rfl)) dX12_knew_6 ⟨Nat.zero_le _, Nat.zero_le _⟩) hS (fun H locs hP hS => ?_)
  refine lv_istore_n (lv' := [(3, .int r3), (0, .ref (ad 0)), (1, .int a1), (2, .int a2)]) hx hb dX12_knew_9 rfl hl (by decide) rfl (fun ls hl => ?_)
  refine lv_iconst (v := (0 : Int32)) hx hb dX12_knew_10 (by decide) ?_
  refine lv_istore (lv' := [(4, .int (0 : Int32)), (3, .int r3), (0, .ref (ad 0)), (1, .int a1), (2, .int a2)]) hx hb dX12_knew_11 hl (by decide) rfl (fun ls hl => ?_)
  refine lv_bipush (v := (-5 : Int32)) hx hb dX12_knew_13 (by decide) ?_
  refine lv_istore (lv' := [(5, .int (-5 : Int32)), (4, .int (0 : Int32)), (3, .int r3), (0, .ref (ad 0)), (1, .int a1), (2, .int a2)]) hx hb dX12_knew_15 hl (by decide) rfl (fun ls hl => ?_)
  refine lv_sipush (v := (4095 : Int32)) hx hb dX12_knew_17 (by decide) ?_
  refine lv_istore (lv' := [(6, .int (4095 : Int32)), (5, .int (-5 : Int32)), (4, .int (0 : Int32)), (3, .int r3), (0, .ref (ad 0)), (1, .int a1), (2, .int a2)]) hx hb dX12_knew_20 hl (by decide) rfl (fun ls hl => ?_)
  exact jX12_knew_22 C hD c_F a1 a2 r3 ((0 : Int32)) ((-5 : Int32)) ((4095 : Int32)) g2 hf _ _ hP hS _ (lv_sub hl [4, 5, 6, 3, 2, 1, 0] rfl)
theorem dX12_says_0 : decode cX12_says 0 = .ok (.aload_n 0, 1) := by decide +kernel
theorem dX12_says_1 : decode cX12_says 1 = .ok (.iload_n 1, 1) := by decide +kernel
theorem dX12_says_2 : decode cX12_says 2 = .ok (.iload_n 2, 1) := by decide +kernel
theorem dX12_says_3 : decode cX12_says 3 = .ok (.invokevirtual 201, 3) := by decide +kernel
theorem dX12_says_6 : decode cX12_says 6 = .ok (.aload_n 0, 1) := by decide +kernel
theorem dX12_says_7 : decode cX12_says 7 = .ok (.iload_n 2, 1) := by decide +kernel
theorem dX12_says_8 : decode cX12_says 8 = .ok (.aload_n 0, 1) := by decide +kernel
theorem dX12_says_9 : decode cX12_says 9 = .ok (.iload_n 1, 1) := by decide +kernel
theorem dX12_says_10 : decode cX12_says 10 = .ok (.iconst 2, 1) := by decide +kernel
theorem dX12_says_11 : decode cX12_says 11 = .ok (.invokevirtual 89, 3) := by decide +kernel
theorem dX12_says_14 : decode cX12_says 14 = .ok (.aload_n 0, 1) := by decide +kernel
theorem dX12_says_15 : decode cX12_says 15 = .ok (.invokevirtual 205, 3) := by decide +kernel
theorem dX12_says_18 : decode cX12_says 18 = .ok (.invokevirtual 208, 3) := by decide +kernel
theorem dX12_says_21 : decode cX12_says 21 = .ok (.ireturn, 1) := by decide +kernel
set_option maxRecDepth 20000 in
theorem ggX12_says_X12_tell : GoodIn wsX12_says wsX12_tell := goodIn_r _ [5, 6, 7, 8, 9, 4, 10, 11, 12, 13, 14, 15, 16, 17, 18, 19, 20, 21, 22, 23, 24, 25, 26, 27, 28, 29, 30, 31, 32, 33, 34, 35, 36, 37, 38, 39, 40, 41, 42, 43, 44, 45, 46, 47, 48, 49, 50, 51, 52, 53, 54, 55, 56, 57, 58, 59, 60, 61, 62, 63, 64, 65, 66, 67, 68, 69, 70, 71, 72, 73, 74, 75, 76, 89, 90, 91, 92, 93, 94, 95, 96, 97, 98, 99, 100, 101, 102, 103, 104, 105, 106, 107, 108, 109, 110, 111, 112, 113, 114, 115, 116, 117, 118, 119, 120] (by decide +kernel) (by decide +kernel)
set_option maxRecDepth 20000 in
theorem gX12_says_X12_tell : GoodIn wsX12_says (wsV RX12 201 RX12 yX12_tell wsX12_tell) := goodIn_app (goodIn_of _ (by decide +kernel)) ggX12_says_X12_tell
set_option maxRecDepth 20000 in
theorem ggX12_says_X12_one : GoodIn wsX12_says wsX12_one := goodIn_r _ [26, 12, 89, 90, 91, 92, 93, 94, 95, 96, 97, 98, 99, 100, 101, 102, 103, 104, 105, 106, 107, 108, 109, 110, 111, 112, 113, 114, 115, 116, 117, 118, 119, 120] (by decide +kernel) (by decide +kernel)
set_option maxRecDepth 20000 in
theorem gX12_says_X12_one : GoodIn wsX12_says (wsV RX12 89 RX12 yX12_one wsX12_one) := goodIn_app (goodIn_of _ (by decide +kernel)) ggX12_says_X12_one
set_option maxRecDepth 20000 in
theorem ggX12_says_X12_used : GoodIn wsX12_says wsX12_used := goodIn_r _ [80, 12, 27, 28, 29, 4, 30, 89, 90, 91, 92, 93, 94, 95, 96, 97, 98, 99, 100, 101, 102, 103, 104, 105, 106, 107, 108, 109, 110, 111, 112, 113, 114, 115, 116, 117, 118, 119, 120] (by decide +kernel) (by decide +kernel)
set_option maxRecDepth 20000 in
theorem gX12_says_X12_used : GoodIn wsX12_says (wsV RX12 205 RX12 yX12_used wsX12_used) := goodIn_app (goodIn_of _ (by decide +kernel)) ggX12_says_X12_used
set_option maxRecDepth 20000 in
theorem ggX12_says_X12_saysBy : GoodIn wsX12_says wsX12_saysBy := goodIn_r _ [84, 6, 85, 86, 87, 4, 88, 12, 27, 28, 29, 30, 89, 90, 91, 92, 93, 94, 95, 96, 97, 98, 99, 100, 101, 102, 103, 104, 105, 106, 107, 108, 109, 110, 111, 112, 113, 114, 115, 116, 117, 118, 119, 120] (by decide +kernel) (by decide +kernel)
set_option maxRecDepth 20000 in
theorem gX12_says_X12_saysBy : GoodIn wsX12_says (wsV RX12 208 RX12 yX12_saysBy wsX12_saysBy) := goodIn_app (goodIn_of _ (by decide +kernel)) ggX12_says_X12_saysBy
def fX12_says (g : c_G) (a1 : Int32) (a2 : Int32) : Option (c_G × Int32) :=
  (fX12_tell g a1 a2).bind fun g2 => (fX12_one g2 a1 ((2 : Int32))).bind fun r3 => (fX12_used g2).bind fun r5 => (fX12_saysBy g2 a2 r3 r5).bind fun r7 => some (g2, r7)
set_option maxRecDepth 100000 in
set_option maxHeartbeats 4000000 in
theorem kX12_says {l : Launch} {D : va_G} {tc : Nat → ClassId} {ad : Nat → Nat} {A : Nat → Prop} {E : (Nat → Nat) × (Nat → Nat) × Nat} (hD : c_D A ad TM) {a1 : Int32} {a2 : Int32} {g g' : c_G} {r : Int32} (hf : fX12_says g a1 a2 = some (g', r)) : c_Mi l yX12_says wsX12_says (c_rm 49) D tc ad A E TM ([.ref (ad 0), .int a1, .int a2] : List Value) g g' r := by
  refine c_ofW (bytes := cX12_says) (maxL := 3) (ret := (some .int)) (by decide) rfl (Nat.le_of_ble_eq_true rfl) ?_
  intro p e s m below meth c ls C hP hS hl
  unfold fX12_says at hf
  obtain ⟨hx, hb, hr, hml, hts, hown, hlk, hK, hE⟩ := id C
  have hl : lv_has ls 3 [(0, .ref (ad 0)), (1, .int a1), (2, .int a2)] := hl
  refine lv_aload_n hx hb dX12_says_0 rfl (lv_at hl 0 rfl) ?_
  refine lv_iload_n hx hb dX12_says_1 rfl (lv_at hl 1 rfl) ?_
  refine lv_iload_n hx hb dX12_says_2 rfl (lv_at hl 2 rfl) ?_
  obtain ⟨g2, hc1, hf⟩ := c_bd hf
  refine c_gov (va_runV (As := [.int a1, .int a2]) (rest := []) ⟨hx, hb, hml, hown, hts⟩ (kX12_tell hD hc1) (cwV 2 hts gX12_says_X12_tell rfl rfl rfl (by decide +kernel) ⟨Nat.le_of_ble_eq_true rfl, Nat.le_of_ble_eq_true rfl⟩) (c_preV hK hP hE hS tM0 rfl) rfl rfl hl.1 rfl (lv_room (Nat.le_of_ble_eq_true rfl)) dX12_says_3 ⟨Nat.zero_le _, Nat.zero_le _⟩) hS (fun H locs hP hS => ?_)
  refine lv_aload_n hx hb dX12_says_6 rfl (lv_at hl 0 rfl) ?_
  refine lv_iload_n hx hb dX12_says_7 rfl (lv_at hl 2 rfl) ?_
  refine lv_aload_n hx hb dX12_says_8 rfl (lv_at hl 0 rfl) ?_
  refine lv_iload_n hx hb dX12_says_9 rfl (lv_at hl 1 rfl) ?_
  refine lv_iconst (v := (2 : Int32)) hx hb dX12_says_10 (by decide) ?_
  obtain ⟨r3, hc4, hf⟩ := c_bd hf
  refine c_goi (va_runV (As := [.int a1, .int (2 : Int32)]) (rest := [.int a2, .ref (ad 0)]) ⟨hx, hb, hml, hown, hts⟩ (kX12_one hD hc4) (cwV 2 hts gX12_says_X12_one rfl rfl rfl (by decide +kernel) ⟨Nat.le_of_ble_eq_true rfl, Nat.le_of_ble_eq_true rfl⟩) (c_preV hK hP hE hS tM0 rfl) rfl rfl hl.1 rfl (lv_room (Nat.le_of_ble_eq_true rfl)) dX12_says_11 ⟨Nat.zero_le _, Nat.zero_le _⟩) hS (fun H locs hP hS => ?_)
  refine lv_aload_n hx hb dX12_says_14 rfl (lv_at hl 0 rfl) ?_
  obtain ⟨r5, hc6, hf⟩ := c_bd hf
  refine c_goi (va_runV (As := []) (rest := [.int r3, .int a2, .ref (ad 0)]) ⟨hx, hb, hml, hown, hts⟩ (kX12_used hD hc6) (cwV 0 hts gX12_says_X12_used rfl rfl rfl (by decide +kernel) ⟨Nat.le_of_ble_eq_true rfl, Nat.le_of_ble_eq_true rfl⟩) (c_preV hK hP hE hS tM0 rfl) rfl rfl hl.1 rfl (lv_room (Nat.le_of_ble_eq_true rfl)) dX12_says_15 ⟨Nat.zero_le _, Nat.zero_le _⟩) hS (fun H locs hP hS => ?_)
  obtain ⟨r7, hc8, hf⟩ := c_bd hf
  refine c_goi (va_runV (As := [.int a2, .int r3, .int r5]) (rest := []) ⟨hx, hb, hml, hown, hts⟩ (kX12_saysBy hD hc8) (cwV 3 hts gX12_says_X12_saysBy rfl rfl rfl (by decide +kernel) ⟨Nat.le_of_ble_eq_true rfl, Nat.le_of_ble_eq_true rfl⟩) (c_preV hK hP hE hS tM0 rfl) rfl rfl hl.1 rfl (lv_room (Nat.le_of_ble_eq_true rfl)) dX12_says_18 ⟨Nat.zero_le _, Nat.zero_le _⟩) hS (fun H locs hP hS => ?_)
  exact c_iret hx hb hr hlk hP hS rfl (c_inj hf) dX12_says_21
theorem dX12_of__0 : decode cX12_of_ 0 = .ok (.aload_n 0, 1) := by decide +kernel
theorem dX12_of__1 : decode cX12_of_ 1 = .ok (.iload_n 1, 1) := by decide +kernel
theorem dX12_of__2 : decode cX12_of_ 2 = .ok (.invokevirtual 101, 3) := by decide +kernel
theorem dX12_of__5 : decode cX12_of_ 5 = .ok (.ifCond .ne 5, 3) := by decide +kernel
theorem dX12_of__8 : decode cX12_of_ 8 = .ok (.iconst (-1), 1) := by decide +kernel
theorem dX12_of__9 : decode cX12_of_ 9 = .ok (.ireturn, 1) := by decide +kernel
theorem dX12_of__10 : decode cX12_of_ 10 = .ok (.iload_n 2, 1) := by decide +kernel
theorem dX12_of__11 : decode cX12_of_ 11 = .ok (.iconst 0, 1) := by decide +kernel
theorem dX12_of__12 : decode cX12_of_ 12 = .ok (.iconst 4, 1) := by decide +kernel
theorem dX12_of__13 : decode cX12_of_ 13 = .ok (.invokestatic 85, 3) := by decide +kernel
theorem dX12_of__16 : decode cX12_of_ 16 = .ok (.ifCond .eq 27, 3) := by decide +kernel
theorem dX12_of__19 : decode cX12_of_ 19 = .ok (.iload_n 2, 1) := by decide +kernel
theorem dX12_of__20 : decode cX12_of_ 20 = .ok (.iconst 4, 1) := by decide +kernel
theorem dX12_of__21 : decode cX12_of_ 21 = .ok (.if_icmp .ne 15, 3) := by decide +kernel
theorem dX12_of__24 : decode cX12_of_ 24 = .ok (.aload_n 0, 1) := by decide +kernel
theorem dX12_of__25 : decode cX12_of_ 25 = .ok (.iload_n 1, 1) := by decide +kernel
theorem dX12_of__26 : decode cX12_of_ 26 = .ok (.iconst 4, 1) := by decide +kernel
theorem dX12_of__27 : decode cX12_of_ 27 = .ok (.invokevirtual 89, 3) := by decide +kernel
theorem dX12_of__30 : decode cX12_of_ 30 = .ok (.invokestatic 104, 3) := by decide +kernel
theorem dX12_of__33 : decode cX12_of_ 33 = .ok (.goto 9, 3) := by decide +kernel
theorem dX12_of__36 : decode cX12_of_ 36 = .ok (.aload_n 0, 1) := by decide +kernel
theorem dX12_of__37 : decode cX12_of_ 37 = .ok (.iload_n 1, 1) := by decide +kernel
theorem dX12_of__38 : decode cX12_of_ 38 = .ok (.iload_n 2, 1) := by decide +kernel
theorem dX12_of__39 : decode cX12_of_ 39 = .ok (.invokevirtual 89, 3) := by decide +kernel
theorem dX12_of__42 : decode cX12_of_ 42 = .ok (.ireturn, 1) := by decide +kernel
theorem dX12_of__43 : decode cX12_of_ 43 = .ok (.iload_n 2, 1) := by decide +kernel
theorem dX12_of__44 : decode cX12_of_ 44 = .ok (.iconst 5, 1) := by decide +kernel
theorem dX12_of__45 : decode cX12_of_ 45 = .ok (.if_icmp .ne 12, 3) := by decide +kernel
theorem dX12_of__48 : decode cX12_of_ 48 = .ok (.aload_n 0, 1) := by decide +kernel
theorem dX12_of__49 : decode cX12_of_ 49 = .ok (.iload_n 1, 1) := by decide +kernel
theorem dX12_of__50 : decode cX12_of_ 50 = .ok (.iconst 1, 1) := by decide +kernel
theorem dX12_of__51 : decode cX12_of_ 51 = .ok (.invokevirtual 108, 3) := by decide +kernel
theorem dX12_of__54 : decode cX12_of_ 54 = .ok (.goto 44, 3) := by decide +kernel
theorem dX12_of__57 : decode cX12_of_ 57 = .ok (.iload_n 2, 1) := by decide +kernel
theorem dX12_of__58 : decode cX12_of_ 58 = .ok (.bipush 6, 2) := by decide +kernel
theorem dX12_of__60 : decode cX12_of_ 60 = .ok (.if_icmp .ne 12, 3) := by decide +kernel
theorem dX12_of__63 : decode cX12_of_ 63 = .ok (.aload_n 0, 1) := by decide +kernel
theorem dX12_of__64 : decode cX12_of_ 64 = .ok (.iload_n 1, 1) := by decide +kernel
theorem dX12_of__65 : decode cX12_of_ 65 = .ok (.iconst 0, 1) := by decide +kernel
theorem dX12_of__66 : decode cX12_of_ 66 = .ok (.invokevirtual 108, 3) := by decide +kernel
theorem dX12_of__69 : decode cX12_of_ 69 = .ok (.goto 29, 3) := by decide +kernel
theorem dX12_of__72 : decode cX12_of_ 72 = .ok (.iload_n 2, 1) := by decide +kernel
theorem dX12_of__73 : decode cX12_of_ 73 = .ok (.bipush 10, 2) := by decide +kernel
theorem dX12_of__75 : decode cX12_of_ 75 = .ok (.isub, 1) := by decide +kernel
theorem dX12_of__76 : decode cX12_of_ 76 = .ok (.invokestatic 112, 3) := by decide +kernel
theorem dX12_of__79 : decode cX12_of_ 79 = .ok (.ifCond .eq 18, 3) := by decide +kernel
theorem dX12_of__82 : decode cX12_of_ 82 = .ok (.aload_n 0, 1) := by decide +kernel
theorem dX12_of__83 : decode cX12_of_ 83 = .ok (.iload_n 1, 1) := by decide +kernel
theorem dX12_of__84 : decode cX12_of_ 84 = .ok (.iload_n 2, 1) := by decide +kernel
theorem dX12_of__85 : decode cX12_of_ 85 = .ok (.bipush 10, 2) := by decide +kernel
theorem dX12_of__87 : decode cX12_of_ 87 = .ok (.isub, 1) := by decide +kernel
theorem dX12_of__88 : decode cX12_of_ 88 = .ok (.invokevirtual 115, 3) := by decide +kernel
theorem dX12_of__91 : decode cX12_of_ 91 = .ok (.invokestatic 104, 3) := by decide +kernel
theorem dX12_of__94 : decode cX12_of_ 94 = .ok (.goto 4, 3) := by decide +kernel
theorem dX12_of__97 : decode cX12_of_ 97 = .ok (.iconst (-1), 1) := by decide +kernel
theorem dX12_of__98 : decode cX12_of_ 98 = .ok (.ireturn, 1) := by decide +kernel
set_option maxRecDepth 20000 in
theorem ggX12_of__X12_isChild : GoodIn wsX12_of_ wsX12_isChild := goodIn_r _ [5, 6, 7, 8, 4, 9, 118, 119, 120, 121, 122, 123, 124, 125, 126, 127, 128, 129, 130, 131, 132, 133, 134, 135, 136, 137, 138, 139, 140, 141, 142, 143, 144, 145, 146, 147, 148, 149] (by decide +kernel) (by decide +kernel)
set_option maxRecDepth 20000 in
theorem gX12_of__X12_isChild : GoodIn wsX12_of_ (wsV RX12 101 RX12 yX12_isChild wsX12_isChild) := goodIn_app (goodIn_of _ (by decide +kernel)) ggX12_of__X12_isChild
set_option maxRecDepth 20000 in
theorem ggX12_of__X12_isIn : GoodIn wsX12_of_ wsX12_isIn := goodIn_r _ [9] (by decide +kernel) (by decide +kernel)
set_option maxRecDepth 20000 in
theorem gX12_of__X12_isIn : GoodIn wsX12_of_ (va_wsS RX12 85 yX12_isIn wsX12_isIn) := goodIn_app (goodIn_of _ (by decide +kernel)) ggX12_of__X12_isIn
set_option maxRecDepth 20000 in
theorem ggX12_of__X12_one : GoodIn wsX12_of_ wsX12_one := goodIn_r _ [13, 6, 118, 119, 120, 121, 122, 123, 124, 125, 126, 127, 128, 129, 130, 131, 132, 133, 134, 135, 136, 137, 138, 139, 140, 141, 142, 143, 144, 145, 146, 147, 148, 149] (by decide +kernel) (by decide +kernel)
set_option maxRecDepth 20000 in
theorem gX12_of__X12_one : GoodIn wsX12_of_ (wsV RX12 89 RX12 yX12_one wsX12_one) := goodIn_app (goodIn_of _ (by decide +kernel)) ggX12_of__X12_one
set_option maxRecDepth 20000 in
theorem ggX12_of__X12_orNever : GoodIn wsX12_of_ wsX12_orNever := goodIn_r _ [16] (by decide +kernel) (by decide +kernel)
set_option maxRecDepth 20000 in
theorem gX12_of__X12_orNever : GoodIn wsX12_of_ (va_wsS RX12 104 yX12_orNever wsX12_orNever) := goodIn_app (goodIn_of _ (by decide +kernel)) ggX12_of__X12_orNever
set_option maxRecDepth 20000 in
theorem ggX12_of__X12_knew : GoodIn wsX12_of_ wsX12_knew := goodIn_r _ [20, 21, 22, 23, 4, 24, 25, 26, 27, 28, 29, 30, 31, 32, 33, 34, 6, 35, 36, 37, 38, 39, 40, 41, 42, 43, 44, 10, 11, 12, 13, 45, 46, 47, 48, 49, 50, 51, 52, 53, 54, 55, 56, 57, 58, 59, 60, 61, 62, 63, 64, 65, 66, 67, 68, 69, 70, 71, 72, 73, 74, 75, 76, 77, 78, 79, 80, 81, 82, 83, 84, 85, 86, 87, 88, 89, 90, 91, 92, 93, 94, 95, 96, 97, 98, 99, 100, 101, 102, 103, 104, 105, 106, 107, 108, 109, 110, 118, 119, 120, 121, 122, 123, 124, 125, 126, 127, 128, 129, 130, 131, 132, 133, 134, 135, 136, 137, 138, 139, 140, 141, 142, 143, 144, 145, 146, 147, 148, 149] (by decide +kernel) (by decide +kernel)
set_option maxRecDepth 20000 in
theorem gX12_of__X12_knew : GoodIn wsX12_of_ (wsV RX12 108 RX12 yX12_knew wsX12_knew) := goodIn_app (goodIn_of _ (by decide +kernel)) ggX12_of__X12_knew
set_option maxRecDepth 20000 in
theorem ggX12_of__X12_isElder : GoodIn wsX12_of_ wsX12_isElder := goodIn_r _ [113, 7, 8, 4, 9] (by decide +kernel) (by decide +kernel)
set_option maxRecDepth 20000 in
theorem gX12_of__X12_isElder : GoodIn wsX12_of_ (va_wsS RX12 112 yX12_isElder wsX12_isElder) := goodIn_app (goodIn_of _ (by decide +kernel)) ggX12_of__X12_isElder
set_option maxRecDepth 20000 in
theorem ggX12_of__X12_says : GoodIn wsX12_of_ wsX12_says := goodIn_r _ [117, 25, 26, 27, 4, 28, 29, 30, 31, 32, 33, 34, 6, 35, 36, 37, 38, 39, 40, 41, 42, 43, 44, 10, 11, 12, 13, 45, 46, 47, 48, 49, 50, 51, 52, 53, 54, 55, 56, 57, 58, 59, 60, 61, 62, 63, 64, 65, 66, 67, 68, 69, 70, 71, 72, 73, 74, 75, 76, 77, 78, 79, 80, 81, 82, 83, 84, 85, 86, 87, 88, 89, 90, 91, 92, 93, 94, 95, 96, 97, 98, 103, 104, 105, 106, 107, 108, 109, 110, 118, 119, 120, 121, 122, 123, 124, 125, 126, 127, 128, 129, 130, 131, 132, 133, 134, 135, 136, 137, 138, 139, 140, 141, 142, 143, 144, 145, 146, 147, 148, 149] (by decide +kernel) (by decide +kernel)
set_option maxRecDepth 20000 in
theorem gX12_of__X12_says : GoodIn wsX12_of_ (wsV RX12 115 RX12 yX12_says wsX12_says) := goodIn_app (goodIn_of _ (by decide +kernel)) ggX12_of__X12_says
def fX12_of_ (g : c_G) (a1 : Int32) (a2 : Int32) : Option (c_G × Int32) :=
  (fX12_isChild g a1).bind fun r1 => if r1 = 0 then (some (g, (-1 : Int32))) else (if (fX12_isIn a2 ((0 : Int32)) ((4 : Int32))) = 0 then (if a2 = (5 : Int32) then (c_b2 (fX12_knew g a1 ((1 : Int32))) fun g15 r16 => some (g15, r16)) else (if a2 = (6 : Int32) then (c_b2 (fX12_knew g a1 ((0 : Int32))) fun g12 r13 => some (g12, r13)) else (if (fX12_isElder ((a2 - (10 : Int32)))) = 0 then (some (g, (-1 : Int32))) else (c_b2 (fX12_says g a1 ((a2 - (10 : Int32)))) fun g9 r10 => some (g9, (fX12_orNever r10)))))) else (if a2 = (4 : Int32) then ((fX12_one g a1 ((4 : Int32))).bind fun r20 => some (g, (fX12_orNever r20))) else ((fX12_one g a1 a2).bind fun r18 => some (g, r18))))
set_option maxRecDepth 100000 in
set_option maxHeartbeats 4000000 in
theorem kX12_of_ {l : Launch} {D : va_G} {tc : Nat → ClassId} {ad : Nat → Nat} {A : Nat → Prop} {E : (Nat → Nat) × (Nat → Nat) × Nat} (hD : c_D A ad TM) {a1 : Int32} {a2 : Int32} {g g' : c_G} {r : Int32} (hf : fX12_of_ g a1 a2 = some (g', r)) : c_Mi l yX12_of_ wsX12_of_ (c_rm 51) D tc ad A E TM ([.ref (ad 0), .int a1, .int a2] : List Value) g g' r := by
  refine c_ofW (bytes := cX12_of_) (maxL := 3) (ret := (some .int)) (by decide) rfl (Nat.le_of_ble_eq_true rfl) ?_
  intro p e s m below meth c ls C hP hS hl
  unfold fX12_of_ at hf
  obtain ⟨hx, hb, hr, hml, hts, hown, hlk, hK, hE⟩ := id C
  have hl : lv_has ls 3 [(0, .ref (ad 0)), (1, .int a1), (2, .int a2)] := hl
  refine lv_aload_n hx hb dX12_of__0 rfl (lv_at hl 0 rfl) ?_
  refine lv_iload_n hx hb dX12_of__1 rfl (lv_at hl 1 rfl) ?_
  obtain ⟨r1, hc2, hf⟩ := c_bd hf
  refine c_goi (va_runV (As := [.int a1]) (rest := []) ⟨hx, hb, hml, hown, hts⟩ (kX12_isChild hD hc2) (cwV 1 hts gX12_of__X12_isChild rfl rfl rfl (by decide +kernel) ⟨Nat.le_of_ble_eq_true rfl, Nat.le_of_ble_eq_true rfl⟩) (c_preV hK hP hE hS tM0 rfl) rfl rfl hl.1 rfl (lv_room (Nat.le_of_ble_eq_true rfl)) dX12_of__2 ⟨Nat.zero_le _, Nat.zero_le _⟩) hS (fun H locs hP hS => ?_)
  refine lv_if_ne (tgt := 10) hx hb dX12_of__5 (by decide) (fun c3 => ?_) (fun c3 => ?_)
  · have hf := c_ie c3 hf
    refine lv_iload_n hx hb dX12_of__10 rfl (lv_at hl 2 rfl) ?_
    refine lv_iconst (v := (0 : Int32)) hx hb dX12_of__11 (by decide) ?_
    refine lv_iconst (v := (4 : Int32)) hx hb dX12_of__12 (by decide) ?_
    refine c_goi (va_runS (As := [.int a2, .int (0 : Int32), .int (4 : Int32)]) (rest := []) ⟨hx, hb, hml, hown, hts⟩ (kX12_isIn (T := TM) (g := g) rfl) (va_cwS 3 hts gX12_of__X12_isIn rfl rfl rfl (by decide +kernel) ⟨Nat.le_of_ble_eq_true rfl, Nat.le_of_ble_eq_true rfl⟩) (c_preS hK hP hE hS) rfl rfl hl.1 rfl (lv_room (Nat.le_of_ble_eq_true rfl)) dX12_of__13 ⟨Nat.zero_le _, Nat.zero_le _⟩) hS (fun H locs hP hS => ?_)
    refine lv_if_eq (tgt := 43) hx hb dX12_of__16 (by decide) (fun c4 => ?_) (fun c4 => ?_)
    · have hf := c_it c4 hf
      refine lv_iload_n hx hb dX12_of__43 rfl (lv_at hl 2 rfl) ?_
      refine lv_iconst (v := (5 : Int32)) hx hb dX12_of__44 (by decide) ?_
      refine lv_icmp_ne (tgt := 57) hx hb dX12_of__45 (by decide) (fun c5 => ?_) (fun c5 => ?_)
      · have hf := c_ie c5 hf
        refine lv_iload_n hx hb dX12_of__57 rfl (lv_at hl 2 rfl) ?_
        refine lv_bipush (v := (6 : Int32)) hx hb dX12_of__58 (by decide) ?_
        refine lv_icmp_ne (tgt := 72) hx hb dX12_of__60 (by decide) (fun c6 => ?_) (fun c6 => ?_)
        · have hf := c_ie c6 hf
          refine lv_iload_n hx hb dX12_of__72 rfl (lv_at hl 2 rfl) ?_
          refine lv_bipush (v := (10 : Int32)) hx hb dX12_of__73 (by decide) ?_
          refine lv_isub hx hb dX12_of__75 ?_
          refine c_goi (va_runS (As := [.int (a2 - (10 : Int32))]) (rest := []) ⟨hx, hb, hml, hown, hts⟩ (kX12_isElder (T := TM) (g := g) rfl) (va_cwS 1 hts gX12_of__X12_isElder rfl rfl rfl (by decide +kernel) ⟨Nat.le_of_ble_eq_true rfl, Nat.le_of_ble_eq_true rfl⟩) (c_preS hK hP hE hS) rfl rfl hl.1 rfl (lv_room (Nat.le_of_ble_eq_true rfl)) dX12_of__76 ⟨Nat.zero_le _, Nat.zero_le _⟩) hS (fun H locs hP hS => ?_)
          refine lv_if_eq (tgt := 97) hx hb dX12_of__79 (by decide) (fun c7 => ?_) (fun c7 => ?_)
          · have hf := c_it c7 hf
            refine lv_iconst (v := (-1 : Int32)) hx hb dX12_of__97 (by decide) ?_
            exact c_iret hx hb hr hlk hP hS rfl (c_inj hf) dX12_of__98
          · have hf := c_ie c7 hf
            refine lv_aload_n hx hb dX12_of__82 rfl (lv_at hl 0 rfl) ?_
            refine lv_iload_n hx hb dX12_of__83 rfl (lv_at hl 1 rfl) ?_
            refine lv_iload_n hx hb dX12_of__84 rfl (lv_at hl 2 rfl) ?_
            refine lv_bipush (v := (10 : Int32)) hx hb dX12_of__85 (by decide) ?_
            refine lv_isub hx hb dX12_of__87 ?_
            obtain ⟨g9, r10, hc8, hf⟩ := c_b2E hf
            refine c_goi (va_runV (As := [.int a1, .int (a2 - (10 : Int32))]) (rest := []) ⟨hx, hb, hml, hown, hts⟩ (kX12_says hD hc8) (cwV 2 hts gX12_of__X12_says rfl rfl rfl (by decide +kernel) ⟨Nat.le_of_ble_eq_true rfl, Nat.le_of_ble_eq_true rfl⟩) (c_preV hK hP hE hS tM0 rfl) rfl rfl hl.1 rfl (lv_room (Nat.le_of_ble_eq_true rfl)) dX12_of__88 ⟨Nat.zero_le _, Nat.zero_le _⟩) hS (fun H locs hP hS => ?_)
            refine c_goi (va_runS (As := [.int r10]) (rest := []) ⟨hx, hb, hml, hown, hts⟩ (kX12_orNever (T := TM) (g := g9) rfl) (va_cwS 1 hts gX12_of__X12_orNever rfl rfl rfl (by decide +kernel) ⟨Nat.le_of_ble_eq_true rfl, Nat.le_of_ble_eq_true rfl⟩) (c_preS hK hP hE hS) rfl rfl hl.1 rfl (lv_room (Nat.le_of_ble_eq_true rfl)) dX12_of__91 ⟨Nat.zero_le _, Nat.zero_le _⟩) hS (fun H locs hP hS => ?_)
            refine lv_goto (tgt := 98) hx hb dX12_of__94 (by decide) ?_
            exact c_iret hx hb hr hlk hP hS rfl (c_inj hf) dX12_of__98
        · have hf := c_it c6 hf
          refine lv_aload_n hx hb dX12_of__63 rfl (lv_at hl 0 rfl) ?_
          refine lv_iload_n hx hb dX12_of__64 rfl (lv_at hl 1 rfl) ?_
          refine lv_iconst (v := (0 : Int32)) hx hb dX12_of__65 (by decide) ?_
          obtain ⟨g12, r13, hc11, hf⟩ := c_b2E hf
          refine c_goi (va_runV (As := [.int a1, .int (0 : Int32)]) (rest := []) ⟨hx, hb, hml, hown, hts⟩ (kX12_knew hD hc11) (cwV 2 hts gX12_of__X12_knew rfl rfl rfl (by decide +kernel) ⟨Nat.le_of_ble_eq_true rfl, Nat.le_of_ble_eq_true rfl⟩) (c_preV hK hP hE hS tM0 rfl) rfl rfl hl.1 rfl (lv_room (Nat.le_of_ble_eq_true rfl)) dX12_of__66 ⟨Nat.zero_le _, Nat.zero_le _⟩) hS (fun H locs hP hS => ?_)
          refine lv_goto (tgt := 98) hx hb dX12_of__69 (by decide) ?_
          exact c_iret hx hb hr hlk hP hS rfl (c_inj hf) dX12_of__98
      · have hf := c_it c5 hf
        refine lv_aload_n hx hb dX12_of__48 rfl (lv_at hl 0 rfl) ?_
        refine lv_iload_n hx hb dX12_of__49 rfl (lv_at hl 1 rfl) ?_
        refine lv_iconst (v := (1 : Int32)) hx hb dX12_of__50 (by decide) ?_
        obtain ⟨g15, r16, hc14, hf⟩ := c_b2E hf
        refine c_goi (va_runV (As := [.int a1, .int (1 : Int32)]) (rest := []) ⟨hx, hb, hml, hown, hts⟩ (kX12_knew hD hc14) (cwV 2 hts gX12_of__X12_knew rfl rfl rfl (by decide +kernel) ⟨Nat.le_of_ble_eq_true rfl, Nat.le_of_ble_eq_true rfl⟩) (c_preV hK hP hE hS tM0 rfl) rfl rfl hl.1 rfl (lv_room (Nat.le_of_ble_eq_true rfl)) dX12_of__51 ⟨Nat.zero_le _, Nat.zero_le _⟩) hS (fun H locs hP hS => ?_)
        refine lv_goto (tgt := 98) hx hb dX12_of__54 (by decide) ?_
        exact c_iret hx hb hr hlk hP hS rfl (c_inj hf) dX12_of__98
    · have hf := c_ie c4 hf
      refine lv_iload_n hx hb dX12_of__19 rfl (lv_at hl 2 rfl) ?_
      refine lv_iconst (v := (4 : Int32)) hx hb dX12_of__20 (by decide) ?_
      refine lv_icmp_ne (tgt := 36) hx hb dX12_of__21 (by decide) (fun c17 => ?_) (fun c17 => ?_)
      · have hf := c_ie c17 hf
        refine lv_aload_n hx hb dX12_of__36 rfl (lv_at hl 0 rfl) ?_
        refine lv_iload_n hx hb dX12_of__37 rfl (lv_at hl 1 rfl) ?_
        refine lv_iload_n hx hb dX12_of__38 rfl (lv_at hl 2 rfl) ?_
        obtain ⟨r18, hc19, hf⟩ := c_bd hf
        refine c_goi (va_runV (As := [.int a1, .int a2]) (rest := []) ⟨hx, hb, hml, hown, hts⟩ (kX12_one hD hc19) (cwV 2 hts gX12_of__X12_one rfl rfl rfl (by decide +kernel) ⟨Nat.le_of_ble_eq_true rfl, Nat.le_of_ble_eq_true rfl⟩) (c_preV hK hP hE hS tM0 rfl) rfl rfl hl.1 rfl (lv_room (Nat.le_of_ble_eq_true rfl)) dX12_of__39 ⟨Nat.zero_le _, Nat.zero_le _⟩) hS (fun H locs hP hS => ?_)
        exact c_iret hx hb hr hlk hP hS rfl (c_inj hf) dX12_of__42
      · have hf := c_it c17 hf
        refine lv_aload_n hx hb dX12_of__24 rfl (lv_at hl 0 rfl) ?_
        refine lv_iload_n hx hb dX12_of__25 rfl (lv_at hl 1 rfl) ?_
        refine lv_iconst (v := (4 : Int32)) hx hb dX12_of__26 (by decide) ?_
        obtain ⟨r20, hc21, hf⟩ := c_bd hf
        refine c_goi (va_runV (As := [.int a1, .int (4 : Int32)]) (rest := []) ⟨hx, hb, hml, hown, hts⟩ (kX12_one hD hc21) (cwV 2 hts gX12_of__X12_one rfl rfl rfl (by decide +kernel) ⟨Nat.le_of_ble_eq_true rfl, Nat.le_of_ble_eq_true rfl⟩) (c_preV hK hP hE hS tM0 rfl) rfl rfl hl.1 rfl (lv_room (Nat.le_of_ble_eq_true rfl)) dX12_of__27 ⟨Nat.zero_le _, Nat.zero_le _⟩) hS (fun H locs hP hS => ?_)
        refine c_goi (va_runS (As := [.int r20]) (rest := []) ⟨hx, hb, hml, hown, hts⟩ (kX12_orNever (T := TM) (g := g) rfl) (va_cwS 1 hts gX12_of__X12_orNever rfl rfl rfl (by decide +kernel) ⟨Nat.le_of_ble_eq_true rfl, Nat.le_of_ble_eq_true rfl⟩) (c_preS hK hP hE hS) rfl rfl hl.1 rfl (lv_room (Nat.le_of_ble_eq_true rfl)) dX12_of__30 ⟨Nat.zero_le _, Nat.zero_le _⟩) hS (fun H locs hP hS => ?_)
        refine lv_goto (tgt := 42) hx hb dX12_of__33 (by decide) ?_
        exact c_iret hx hb hr hlk hP hS rfl (c_inj hf) dX12_of__42
  · have hf := c_it c3 hf
    refine lv_iconst (v := (-1 : Int32)) hx hb dX12_of__8 (by decide) ?_
    exact c_iret hx hb hr hlk hP hS rfl (c_inj hf) dX12_of__9
