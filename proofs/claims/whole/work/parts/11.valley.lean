theorem i_X10_eat_X10 : ∀ w ∈ u_ws RX10 TX10 8, w ∈ wsX10_eat := c_inP [4, 5, 6, 7, 8, 9, 10, 11] (by decide +kernel)
theorem dX10_eat_0 : decode cX10_eat 0 = .ok (.aload_n 0, 1) := by decide +kernel
theorem dX10_eat_1 : decode cX10_eat 1 = .ok (.getfield 35, 3) := by decide +kernel
theorem dX10_eat_4 : decode cX10_eat 4 = .ok (.aload_n 0, 1) := by decide +kernel
theorem dX10_eat_5 : decode cX10_eat 5 = .ok (.getfield 31, 3) := by decide +kernel
theorem dX10_eat_8 : decode cX10_eat 8 = .ok (.if_icmp .ge 16, 3) := by decide +kernel
theorem dX10_eat_11 : decode cX10_eat 11 = .ok (.aload_n 0, 1) := by decide +kernel
theorem dX10_eat_12 : decode cX10_eat 12 = .ok (.getfield 9, 3) := by decide +kernel
theorem dX10_eat_15 : decode cX10_eat 15 = .ok (.aload_n 0, 1) := by decide +kernel
theorem dX10_eat_16 : decode cX10_eat 16 = .ok (.getfield 35, 3) := by decide +kernel
theorem dX10_eat_19 : decode cX10_eat 19 = .ok (.baload, 1) := by decide +kernel
theorem dX10_eat_20 : decode cX10_eat 20 = .ok (.iload_n 1, 1) := by decide +kernel
theorem dX10_eat_21 : decode cX10_eat 21 = .ok (.if_icmp .eq 5, 3) := by decide +kernel
theorem dX10_eat_24 : decode cX10_eat 24 = .ok (.iconst 0, 1) := by decide +kernel
theorem dX10_eat_25 : decode cX10_eat 25 = .ok (.ireturn, 1) := by decide +kernel
theorem dX10_eat_26 : decode cX10_eat 26 = .ok (.aload_n 0, 1) := by decide +kernel
theorem dX10_eat_27 : decode cX10_eat 27 = .ok (.dup, 1) := by decide +kernel
theorem dX10_eat_28 : decode cX10_eat 28 = .ok (.getfield 35, 3) := by decide +kernel
theorem dX10_eat_31 : decode cX10_eat 31 = .ok (.iconst 1, 1) := by decide +kernel
theorem dX10_eat_32 : decode cX10_eat 32 = .ok (.iadd, 1) := by decide +kernel
theorem dX10_eat_33 : decode cX10_eat 33 = .ok (.putfield 35, 3) := by decide +kernel
theorem dX10_eat_36 : decode cX10_eat 36 = .ok (.iconst 1, 1) := by decide +kernel
theorem dX10_eat_37 : decode cX10_eat 37 = .ok (.ireturn, 1) := by decide +kernel
def fX10_eat (g : c_G) (w0 : Nat) (a1 : Int32) : Option (c_G × Int32) :=
  if c_isV w0 = true then (if (g.1 w0 1) ≤ (g.1 w0 2) then (some (g, (0 : Int32))) else (if c_in ((g.1 w0 2)) (100) = true then if (g.1 (c_vt w0) ((g.1 w0 2)).toNatClampNeg) = a1 then (c_let (((g.1 w0 2) + (1 : Int32))) fun v4 => c_let (c_si g w0 2 v4) fun g5 => some (g5, (1 : Int32))) else (some (g, (0 : Int32))) else none)) else none
set_option maxRecDepth 100000 in
set_option maxHeartbeats 4000000 in
theorem kX10_eat {l : Launch} {D : va_G} {tc : Nat → ClassId} {ad : Nat → Nat} {A : Nat → Prop} {E : (Nat → Nat) × (Nat → Nat) × Nat} (hD : c_D A ad TC) {w0 : Nat} {a1 : Int32} {g g' : c_G} {r : Int32} (hf : fX10_eat g w0 a1 = some (g', r)) : c_Mi l yX10_eat wsX10_eat (c_rm 0) D tc ad A E TC ([.ref (ad w0), .int a1] : List Value) g g' r := by
  refine c_ofW (bytes := cX10_eat) (maxL := 2) (ret := (some .boolean)) (by decide) rfl (Nat.le_of_ble_eq_true rfl) ?_
  intro p e s m below meth c ls C hP hS hl
  unfold fX10_eat at hf
  obtain ⟨hq_w0, hf⟩ := c_gd hf
  obtain ⟨hx, hb, hr, hml, hts, hown, hlk, hK, hE⟩ := id C
  obtain ⟨fw0_0, fw0_1, fw0_2, fw0_3, fw0_4⟩ := c_isVE hq_w0
  have hl : lv_has ls 2 [(0, .ref (ad w0)), (1, .int a1)] := hl
  refine lv_aload_n hx hb dX10_eat_0 rfl (lv_at hl 0 rfl) ?_
  refine c_get hx hb hts i_X10_eat_X10 hown hK hP w0 fw0_0 rfl 2 (by decide) (hts _ (List.mem_of_getElem? (i := 1) rfl)) (fun _ h9 => h9) rfl (v := .int (g.1 w0 2)) rfl dX10_eat_1 ?_
  refine lv_aload_n hx hb dX10_eat_4 rfl (lv_at hl 0 rfl) ?_
  refine c_get hx hb hts i_X10_eat_X10 hown hK hP w0 fw0_0 rfl 1 (by decide) (hts _ (List.mem_of_getElem? (i := 2) rfl)) (fun _ h9 => h9) rfl (v := .int (g.1 w0 1)) rfl dX10_eat_5 ?_
  refine lv_icmp_ge (tgt := 24) hx hb dX10_eat_8 (by decide) (fun c1 => ?_) (fun c1 => ?_)
  · have hf := c_it c1 hf
    refine lv_iconst (v := (0 : Int32)) hx hb dX10_eat_24 (by decide) ?_
    exact c_iret hx hb hr hlk hP hS rfl (c_inj hf) dX10_eat_25
  · have hf := c_ie c1 hf
    refine lv_aload_n hx hb dX10_eat_11 rfl (lv_at hl 0 rfl) ?_
    refine c_get hx hb hts i_X10_eat_X10 hown hK hP w0 fw0_0 rfl 0 (by decide) (hts _ (List.mem_of_getElem? (i := 3) rfl)) (fun _ h9 => h9) rfl (v := .ref (ad (c_vt w0))) rfl dX10_eat_12 ?_
    refine lv_aload_n hx hb dX10_eat_15 rfl (lv_at hl 0 rfl) ?_
    refine c_get hx hb hts i_X10_eat_X10 hown hK hP w0 fw0_0 rfl 2 (by decide) (hts _ (List.mem_of_getElem? (i := 1) rfl)) (fun _ h9 => h9) rfl (v := .int (g.1 w0 2)) rfl dX10_eat_16 ?_
    obtain ⟨hi2, hf⟩ := c_gd hf
    refine c_bald (j := ((g.1 w0 2)).toNatClampNeg) hx hb hK hP (c_vt w0) fw0_4 rfl (c_inV hi2) dX10_eat_19 ?_
    refine lv_iload_n hx hb dX10_eat_20 rfl (lv_at hl 1 rfl) ?_
    refine lv_icmp_eq (tgt := 26) hx hb dX10_eat_21 (by decide) (fun c3 => ?_) (fun c3 => ?_)
    · have hf := c_it c3 hf
      refine lv_aload_n hx hb dX10_eat_26 rfl (lv_at hl 0 rfl) ?_
      refine lv_dup hx hb dX10_eat_27 rfl ?_
      refine c_get hx hb hts i_X10_eat_X10 hown hK hP w0 fw0_0 rfl 2 (by decide) (hts _ (List.mem_of_getElem? (i := 1) rfl)) (fun _ h9 => h9) rfl (v := .int (g.1 w0 2)) rfl dX10_eat_28 ?_
      refine lv_iconst (v := (1 : Int32)) hx hb dX10_eat_31 (by decide) ?_
      refine lv_iadd hx hb dX10_eat_32 ?_
      obtain ⟨v4, ev4, hf⟩ := c_letE hf
      refine c_topi ev4 ?_
      obtain ⟨g5, eg5, hf⟩ := c_letE hf
      refine c_put hx hb hts i_X10_eat_X10 tyX10 tyX10_ok nmX10 hown hK hP hD hS w0 fw0_0 rfl 2 (by decide) (hts _ (List.mem_of_getElem? (i := 1) rfl)) (fun _ h9 => h9) rfl (ty := .int) (by decide +kernel) rfl rfl rfl eg5 dX10_eat_33 (fun H locs hP hS => ?_)
      refine lv_iconst (v := (1 : Int32)) hx hb dX10_eat_36 (by decide) ?_
      exact c_iret hx hb hr hlk hP hS rfl (c_inj hf) dX10_eat_37
    · have hf := c_ie c3 hf
      refine lv_iconst (v := (0 : Int32)) hx hb dX10_eat_24 (by decide) ?_
      exact c_iret hx hb hr hlk hP hS rfl (c_inj hf) dX10_eat_25
theorem dX10_phrase_0 : decode cX10_phrase 0 = .ok (.iconst 0, 1) := by decide +kernel
theorem dX10_phrase_1 : decode cX10_phrase 1 = .ok (.istore_n 2, 1) := by decide +kernel
theorem dX10_phrase_2 : decode cX10_phrase 2 = .ok (.iload_n 2, 1) := by decide +kernel
theorem dX10_phrase_3 : decode cX10_phrase 3 = .ok (.aload_n 1, 1) := by decide +kernel
theorem dX10_phrase_4 : decode cX10_phrase 4 = .ok (.invokevirtual 97, 3) := by decide +kernel
theorem dX10_phrase_7 : decode cX10_phrase 7 = .ok (.if_icmp .ge 23, 3) := by decide +kernel
theorem dX10_phrase_10 : decode cX10_phrase 10 = .ok (.aload_n 0, 1) := by decide +kernel
theorem dX10_phrase_11 : decode cX10_phrase 11 = .ok (.aload_n 1, 1) := by decide +kernel
theorem dX10_phrase_12 : decode cX10_phrase 12 = .ok (.iload_n 2, 1) := by decide +kernel
theorem dX10_phrase_13 : decode cX10_phrase 13 = .ok (.invokevirtual 100, 3) := by decide +kernel
theorem dX10_phrase_16 : decode cX10_phrase 16 = .ok (.invokevirtual 48, 3) := by decide +kernel
theorem dX10_phrase_19 : decode cX10_phrase 19 = .ok (.ifCond .ne 5, 3) := by decide +kernel
theorem dX10_phrase_22 : decode cX10_phrase 22 = .ok (.iconst 0, 1) := by decide +kernel
theorem dX10_phrase_23 : decode cX10_phrase 23 = .ok (.ireturn, 1) := by decide +kernel
theorem dX10_phrase_24 : decode cX10_phrase 24 = .ok (.iinc 2 1, 3) := by decide +kernel
theorem dX10_phrase_27 : decode cX10_phrase 27 = .ok (.goto (-25), 3) := by decide +kernel
theorem dX10_phrase_30 : decode cX10_phrase 30 = .ok (.iconst 1, 1) := by decide +kernel
theorem dX10_phrase_31 : decode cX10_phrase 31 = .ok (.ireturn, 1) := by decide +kernel
set_option maxRecDepth 20000 in
theorem ggX10_phrase_J0_length_8abf5 : GoodIn wsX10_phrase wsJ0_length_8abf5 := goodIn_r _ [5, 6, 7, 8, 9, 4, 10, 11, 12] (by decide +kernel) (by decide +kernel)
set_option maxRecDepth 20000 in
theorem gX10_phrase_J0_length_8abf5 : GoodIn wsX10_phrase (wsV RX10 97 RJ0 yJ0_length_8abf5 wsJ0_length_8abf5) := goodIn_app (goodIn_of _ (by decide +kernel)) ggX10_phrase_J0_length_8abf5
set_option maxRecDepth 20000 in
theorem ggX10_phrase_J0_charAt_5068e : GoodIn wsX10_phrase wsJ0_charAt_5068e := goodIn_r _ [16, 6, 17, 18, 19, 4, 20, 11, 12, 21, 22, 23, 24, 25, 26, 27, 28, 29, 30, 31, 32, 33, 34, 35, 36, 37, 38, 39, 40, 41, 42, 43, 44, 45, 46, 47, 48, 49] (by decide +kernel) (by decide +kernel)
set_option maxRecDepth 20000 in
theorem gX10_phrase_J0_charAt_5068e : GoodIn wsX10_phrase (wsV RX10 100 RJ0 yJ0_charAt_5068e wsJ0_charAt_5068e) := goodIn_app (goodIn_of _ (by decide +kernel)) ggX10_phrase_J0_charAt_5068e
set_option maxRecDepth 20000 in
theorem ggX10_phrase_X10_eat : GoodIn wsX10_phrase wsX10_eat := goodIn_r _ [54, 55, 56, 57, 58, 59, 60, 61, 62, 63, 64, 65] (by decide +kernel) (by decide +kernel)
set_option maxRecDepth 20000 in
theorem gX10_phrase_X10_eat : GoodIn wsX10_phrase (wsV RX10 48 RX10 yX10_eat wsX10_eat) := goodIn_app (goodIn_of _ (by decide +kernel)) ggX10_phrase_X10_eat
def fX10_phrase_2  (w0 : Nat) (a1 : Nat) : Nat → Int32 → c_G → Option (c_G × Int32)
  | 0, _, _ => none
  | n + 1, x2, g => (fJ0_length_8abf5 TC g a1).bind fun r2001 => if r2001 ≤ x2 then (some (g, (1 : Int32))) else (c_b2 (fJ0_charAt_5068e TC g a1 x2) fun g2005 r2006 => c_b2 (fX10_eat g2005 w0 r2006) fun g2008 r2009 => if r2009 = 0 then (some (g2008, (0 : Int32))) else (c_let (x2 + (1 : Int32)) fun v2011 => (fX10_phrase_2 w0 a1 n) v2011 g2008))
set_option maxRecDepth 100000 in
set_option maxHeartbeats 4000000 in
theorem jX10_phrase_2 {p : Program} {l : Launch} {e : Env} {s : State} {m : MethodId} {below : List Frame} {meth : Method} {c : Code} {D : va_G} {tc : Nat → ClassId} {ad : Nat → Nat} {A : Nat → Prop} {E : (Nat → Nat) × (Nat → Nat) × Nat} {w0 : Nat} {a1 : Nat} {g' : c_G} {r : Int32} (C : c_C p s m meth c D tc A E RX10 wsX10_phrase cX10_phrase 3 (some .boolean) ([.ref (ad w0), .ref (E.1 a1)] : List Value).toArray) (hD : c_D A ad TC) (hq_w0 : c_isV w0 = true) (hk_a1 : a1 < 5)  : ∀ (n : Nat) (x2 : Int32) (g : c_G), fX10_phrase_2 w0 a1 n x2 g = some (g', r) → ∀ (H : Heap) (locs : List Loc), va_P D vwCl (c_ws tc ad TC g) H → va_S A s.heap H locs → ∀ ls : Array Slot, lv_has ls 3 [(0, .ref (ad w0)), (1, .ref (E.1 a1)), (2, .int x2)] → W p l e (c_rm 4) s m ([.ref (ad w0), .ref (E.1 a1)] : List Value).toArray below meth c H locs 0 0 (MQ below (va_Qi (fun (x : Int32) (_ : Unit) => x = r) (fun _ t => va_P D vwCl (c_ws tc ad TC g') t.heap) A) ([.ref (ad w0), .ref (E.1 a1)] : List Value).toArray s 0 0 A) (F0 m 2 ls []) := by
  obtain ⟨hx, hb, hr, hml, hts, hown, hlk, hK, hE⟩ := id C
  obtain ⟨fw0_0, fw0_1, fw0_2, fw0_3, fw0_4⟩ := c_isVE hq_w0
  intro n
  induction n with
  | zero =>
    intro x2 g hf
    cases hf
  | succ n ih =>
    intro x2 g hf H locs hP hS ls hl
    unfold fX10_phrase_2 at hf
    refine lv_iload_n hx hb dX10_phrase_2 rfl (lv_at hl 2 rfl) ?_
    refine lv_aload_n hx hb dX10_phrase_3 rfl (lv_at hl 1 rfl) ?_
    obtain ⟨r2001, hc2002, hf⟩ := c_bd hf
    refine c_goi (va_runV (As := []) (rest := [.int x2]) ⟨hx, hb, hml, hown, hts⟩ (kJ0_length_8abf5 hD hc2002) (cwV 0 hts gX10_phrase_J0_length_8abf5 rfl rfl rfl (by decide +kernel) ⟨Nat.le_of_ble_eq_true rfl, Nat.le_of_ble_eq_true rfl⟩) (c_preVs (k := a1) hK hP hE hS hk_a1) rfl rfl hl.1 rfl (lv_room (Nat.le_of_ble_eq_true rfl)) dX10_phrase_4 ⟨Nat.zero_le _, Nat.zero_le _⟩) hS (fun H locs hP hS => ?_)
    refine lv_icmp_ge (tgt := 30) hx hb dX10_phrase_7 (by decide) (fun c2003 => ?_) (fun c2003 => ?_)
    · have hf := c_it c2003 hf
      refine lv_iconst (v := (1 : Int32)) hx hb dX10_phrase_30 (by decide) ?_
      exact c_iret hx hb hr hlk hP hS rfl (c_inj hf) dX10_phrase_31
    · have hf := c_ie c2003 hf
      refine lv_aload_n hx hb dX10_phrase_10 rfl (lv_at hl 0 rfl) ?_
      refine lv_aload_n hx hb dX10_phrase_11 rfl (lv_at hl 1 rfl) ?_
      refine lv_iload_n hx hb dX10_phrase_12 rfl (lv_at hl 2 rfl) ?_
      obtain ⟨g2005, r2006, hc2004, hf⟩ := c_b2E hf
      refine c_goi (va_runV (As := [.int x2]) (rest := [.ref (ad w0)]) ⟨hx, hb, hml, hown, hts⟩ (kJ0_charAt_5068e hD hc2004) (cwV 1 hts gX10_phrase_J0_charAt_5068e rfl rfl rfl (by decide +kernel) ⟨Nat.le_of_ble_eq_true rfl, Nat.le_of_ble_eq_true rfl⟩) (c_preVs (k := a1) hK hP hE hS hk_a1) rfl rfl hl.1 rfl (lv_room (Nat.le_of_ble_eq_true rfl)) dX10_phrase_13 ⟨Nat.zero_le _, Nat.zero_le _⟩) hS (fun H locs hP hS => ?_)
      obtain ⟨g2008, r2009, hc2007, hf⟩ := c_b2E hf
      refine c_goi (va_runV (As := [.int r2006]) (rest := []) ⟨hx, hb, hml, hown, hts⟩ (kX10_eat hD hc2007) (cwV 1 hts gX10_phrase_X10_eat rfl rfl rfl (by decide +kernel) ⟨Nat.le_of_ble_eq_true rfl, Nat.le_of_ble_eq_true rfl⟩) (c_preV hK hP hE hS fw0_0 rfl) rfl rfl hl.1 rfl (lv_room (Nat.le_of_ble_eq_true rfl)) dX10_phrase_16 ⟨Nat.zero_le _, Nat.zero_le _⟩) hS (fun H locs hP hS => ?_)
      refine lv_if_ne (tgt := 24) hx hb dX10_phrase_19 (by decide) (fun c2010 => ?_) (fun c2010 => ?_)
      · have hf := c_ie c2010 hf
        obtain ⟨v2011, ev2011, hf⟩ := c_letE hf
        refine lv_iinc (v := v2011) (lv' := [(2, .int v2011), (0, .ref (ad w0)), (1, .ref (E.1 a1))]) hx hb dX10_phrase_24 hl (k := 2) rfl (by rw [ev2011]; rfl) (by decide) rfl (fun ls hl => ?_)
        refine lv_goto (tgt := 2) hx hb dX10_phrase_27 (by decide) ?_
        exact ih v2011 g2008 hf _ _ hP hS _ (lv_sub hl [1, 2, 0] rfl)
      · have hf := c_it c2010 hf
        refine lv_iconst (v := (0 : Int32)) hx hb dX10_phrase_22 (by decide) ?_
        exact c_iret hx hb hr hlk hP hS rfl (c_inj hf) dX10_phrase_23
def fX10_phrase (g : c_G) (w0 : Nat) (a1 : Nat) : Option (c_G × Int32) :=
  if c_isV w0 = true then (if a1 < 5 then (fX10_phrase_2 w0 a1 c_F ((0 : Int32)) g) else none) else none
set_option maxRecDepth 100000 in
set_option maxHeartbeats 4000000 in
theorem kX10_phrase {l : Launch} {D : va_G} {tc : Nat → ClassId} {ad : Nat → Nat} {A : Nat → Prop} {E : (Nat → Nat) × (Nat → Nat) × Nat} (hD : c_D A ad TC) {w0 : Nat} {a1 : Nat} {g g' : c_G} {r : Int32} (hf : fX10_phrase g w0 a1 = some (g', r)) : c_Mi l yX10_phrase wsX10_phrase (c_rm 4) D tc ad A E TC ([.ref (ad w0), .ref (E.1 a1)] : List Value) g g' r := by
  refine c_ofW (bytes := cX10_phrase) (maxL := 3) (ret := (some .boolean)) (by decide) rfl (Nat.le_of_ble_eq_true rfl) ?_
  intro p e s m below meth c ls C hP hS hl
  unfold fX10_phrase at hf
  obtain ⟨hq_w0, hf⟩ := c_gd hf
  obtain ⟨hk_a1, hf⟩ := c_gp hf
  obtain ⟨hx, hb, hr, hml, hts, hown, hlk, hK, hE⟩ := id C
  obtain ⟨fw0_0, fw0_1, fw0_2, fw0_3, fw0_4⟩ := c_isVE hq_w0
  have hl : lv_has ls 3 [(0, .ref (ad w0)), (1, .ref (E.1 a1))] := hl
  refine lv_iconst (v := (0 : Int32)) hx hb dX10_phrase_0 (by decide) ?_
  refine lv_istore_n (lv' := [(2, .int (0 : Int32)), (0, .ref (ad w0)), (1, .ref (E.1 a1))]) hx hb dX10_phrase_1 rfl hl (by decide) rfl (fun ls hl => ?_)
  exact jX10_phrase_2 C hD hq_w0 hk_a1 c_F ((0 : Int32)) g hf _ _ hP hS _ (lv_sub hl [1, 2, 0] rfl)
theorem i_X10_digits_X10 : ∀ w ∈ u_ws RX10 TX10 8, w ∈ wsX10_digits := c_inP [4, 5, 6, 7, 8, 9, 10, 11] (by decide +kernel)
theorem dX10_digits_0 : decode cX10_digits 0 = .ok (.iconst (-1), 1) := by decide +kernel
theorem dX10_digits_1 : decode cX10_digits 1 = .ok (.istore_n 1, 1) := by decide +kernel
theorem dX10_digits_2 : decode cX10_digits 2 = .ok (.iconst 0, 1) := by decide +kernel
theorem dX10_digits_3 : decode cX10_digits 3 = .ok (.istore_n 2, 1) := by decide +kernel
theorem dX10_digits_4 : decode cX10_digits 4 = .ok (.iload_n 2, 1) := by decide +kernel
theorem dX10_digits_5 : decode cX10_digits 5 = .ok (.iconst 2, 1) := by decide +kernel
theorem dX10_digits_6 : decode cX10_digits 6 = .ok (.if_icmp .ge 84, 3) := by decide +kernel
theorem dX10_digits_9 : decode cX10_digits 9 = .ok (.aload_n 0, 1) := by decide +kernel
theorem dX10_digits_10 : decode cX10_digits 10 = .ok (.getfield 35, 3) := by decide +kernel
theorem dX10_digits_13 : decode cX10_digits 13 = .ok (.aload_n 0, 1) := by decide +kernel
theorem dX10_digits_14 : decode cX10_digits 14 = .ok (.getfield 31, 3) := by decide +kernel
theorem dX10_digits_17 : decode cX10_digits 17 = .ok (.if_icmp .ge 73, 3) := by decide +kernel
theorem dX10_digits_20 : decode cX10_digits 20 = .ok (.aload_n 0, 1) := by decide +kernel
theorem dX10_digits_21 : decode cX10_digits 21 = .ok (.getfield 9, 3) := by decide +kernel
theorem dX10_digits_24 : decode cX10_digits 24 = .ok (.aload_n 0, 1) := by decide +kernel
theorem dX10_digits_25 : decode cX10_digits 25 = .ok (.getfield 35, 3) := by decide +kernel
theorem dX10_digits_28 : decode cX10_digits 28 = .ok (.baload, 1) := by decide +kernel
theorem dX10_digits_29 : decode cX10_digits 29 = .ok (.bipush 48, 2) := by decide +kernel
theorem dX10_digits_31 : decode cX10_digits 31 = .ok (.if_icmp .lt 59, 3) := by decide +kernel
theorem dX10_digits_34 : decode cX10_digits 34 = .ok (.aload_n 0, 1) := by decide +kernel
theorem dX10_digits_35 : decode cX10_digits 35 = .ok (.getfield 9, 3) := by decide +kernel
theorem dX10_digits_38 : decode cX10_digits 38 = .ok (.aload_n 0, 1) := by decide +kernel
theorem dX10_digits_39 : decode cX10_digits 39 = .ok (.getfield 35, 3) := by decide +kernel
theorem dX10_digits_42 : decode cX10_digits 42 = .ok (.baload, 1) := by decide +kernel
theorem dX10_digits_43 : decode cX10_digits 43 = .ok (.bipush 57, 2) := by decide +kernel
theorem dX10_digits_45 : decode cX10_digits 45 = .ok (.if_icmp .gt 45, 3) := by decide +kernel
theorem dX10_digits_48 : decode cX10_digits 48 = .ok (.iload_n 1, 1) := by decide +kernel
theorem dX10_digits_49 : decode cX10_digits 49 = .ok (.ifCond .ge 7, 3) := by decide +kernel
theorem dX10_digits_52 : decode cX10_digits 52 = .ok (.iconst 0, 1) := by decide +kernel
theorem dX10_digits_53 : decode cX10_digits 53 = .ok (.goto 7, 3) := by decide +kernel
theorem dX10_digits_56 : decode cX10_digits 56 = .ok (.iload_n 1, 1) := by decide +kernel
theorem dX10_digits_57 : decode cX10_digits 57 = .ok (.bipush 10, 2) := by decide +kernel
theorem dX10_digits_59 : decode cX10_digits 59 = .ok (.imul, 1) := by decide +kernel
theorem dX10_digits_60 : decode cX10_digits 60 = .ok (.aload_n 0, 1) := by decide +kernel
theorem dX10_digits_61 : decode cX10_digits 61 = .ok (.getfield 9, 3) := by decide +kernel
theorem dX10_digits_64 : decode cX10_digits 64 = .ok (.aload_n 0, 1) := by decide +kernel
theorem dX10_digits_65 : decode cX10_digits 65 = .ok (.getfield 35, 3) := by decide +kernel
theorem dX10_digits_68 : decode cX10_digits 68 = .ok (.baload, 1) := by decide +kernel
theorem dX10_digits_69 : decode cX10_digits 69 = .ok (.iadd, 1) := by decide +kernel
theorem dX10_digits_70 : decode cX10_digits 70 = .ok (.bipush 48, 2) := by decide +kernel
theorem dX10_digits_72 : decode cX10_digits 72 = .ok (.isub, 1) := by decide +kernel
theorem dX10_digits_73 : decode cX10_digits 73 = .ok (.istore_n 1, 1) := by decide +kernel
theorem dX10_digits_74 : decode cX10_digits 74 = .ok (.aload_n 0, 1) := by decide +kernel
theorem dX10_digits_75 : decode cX10_digits 75 = .ok (.dup, 1) := by decide +kernel
theorem dX10_digits_76 : decode cX10_digits 76 = .ok (.getfield 35, 3) := by decide +kernel
theorem dX10_digits_79 : decode cX10_digits 79 = .ok (.iconst 1, 1) := by decide +kernel
theorem dX10_digits_80 : decode cX10_digits 80 = .ok (.iadd, 1) := by decide +kernel
theorem dX10_digits_81 : decode cX10_digits 81 = .ok (.putfield 35, 3) := by decide +kernel
theorem dX10_digits_84 : decode cX10_digits 84 = .ok (.iinc 2 1, 3) := by decide +kernel
theorem dX10_digits_87 : decode cX10_digits 87 = .ok (.goto (-83), 3) := by decide +kernel
theorem dX10_digits_90 : decode cX10_digits 90 = .ok (.iload_n 1, 1) := by decide +kernel
theorem dX10_digits_91 : decode cX10_digits 91 = .ok (.ireturn, 1) := by decide +kernel
def fX10_digits_60 (rec4 : Int32 → Int32 → c_G → Option (c_G × Int32)) (w0 : Nat) (x2 : Int32) (y0 : Int32) (g : c_G) : Option (c_G × Int32) :=
  if c_in ((g.1 w0 2)) (100) = true then c_let (((y0 + (g.1 (c_vt w0) ((g.1 w0 2)).toNatClampNeg)) - (48 : Int32))) fun v60002 => c_let (((g.1 w0 2) + (1 : Int32))) fun v60003 => c_let (c_si g w0 2 v60003) fun g60004 => c_let (x2 + (1 : Int32)) fun v60005 => rec4 v60002 v60005 g60004 else none
set_option maxRecDepth 100000 in
set_option maxHeartbeats 4000000 in
theorem jX10_digits_60 {p : Program} {l : Launch} {e : Env} {s : State} {m : MethodId} {below : List Frame} {meth : Method} {c : Code} {D : va_G} {tc : Nat → ClassId} {ad : Nat → Nat} {A : Nat → Prop} {E : (Nat → Nat) × (Nat → Nat) × Nat} {w0 : Nat} {g' : c_G} {r : Int32} (C : c_C p s m meth c D tc A E RX10 wsX10_digits cX10_digits 3 (some .int) ([.ref (ad w0)] : List Value).toArray) (hD : c_D A ad TC) (hq_w0 : c_isV w0 = true) {rec4 : Int32 → Int32 → c_G → Option (c_G × Int32)} (hrec4 : ∀ (x1 : Int32) (x2 : Int32) (g : c_G), rec4 x1 x2 g = some (g', r) → ∀ (H : Heap) (locs : List Loc), va_P D vwCl (c_ws tc ad TC g) H → va_S A s.heap H locs → ∀ ls : Array Slot, lv_has ls 3 [(0, .ref (ad w0)), (1, .int x1), (2, .int x2)] → W p l e (c_rm 0) s m ([.ref (ad w0)] : List Value).toArray below meth c H locs 0 0 (MQ below (va_Qi (fun (x : Int32) (_ : Unit) => x = r) (fun _ t => va_P D vwCl (c_ws tc ad TC g') t.heap) A) ([.ref (ad w0)] : List Value).toArray s 0 0 A) (F0 m 4 ls [])) : ∀ (x2 : Int32) (y0 : Int32) (g : c_G), fX10_digits_60 rec4 w0 x2 y0 g = some (g', r) → ∀ (H : Heap) (locs : List Loc), va_P D vwCl (c_ws tc ad TC g) H → va_S A s.heap H locs → ∀ ls : Array Slot, lv_has ls 3 [(0, .ref (ad w0)), (2, .int x2)] → W p l e (c_rm 0) s m ([.ref (ad w0)] : List Value).toArray below meth c H locs 0 0 (MQ below (va_Qi (fun (x : Int32) (_ : Unit) => x = r) (fun _ t => va_P D vwCl (c_ws tc ad TC g') t.heap) A) ([.ref (ad w0)] : List Value).toArray s 0 0 A) (F0 m 60 ls [.int y0]) := by
  obtain ⟨hx, hb, hr, hml, hts, hown, hlk, hK, hE⟩ := id C
  obtain ⟨fw0_0, fw0_1, fw0_2, fw0_3, fw0_4⟩ := c_isVE hq_w0
  intro x2 y0 g hf H locs hP hS ls hl
  unfold fX10_digits_60 at hf
  refine lv_aload_n hx hb dX10_digits_60 rfl (lv_at hl 0 rfl) ?_
  refine c_get hx hb hts i_X10_digits_X10 hown hK hP w0 fw0_0 rfl 0 (by decide) (hts _ (List.mem_of_getElem? (i := 3) rfl)) (fun _ h9 => h9) rfl (v := .ref (ad (c_vt w0))) rfl dX10_digits_61 ?_
  refine lv_aload_n hx hb dX10_digits_64 rfl (lv_at hl 0 rfl) ?_
  refine c_get hx hb hts i_X10_digits_X10 hown hK hP w0 fw0_0 rfl 2 (by decide) (hts _ (List.mem_of_getElem? (i := 1) rfl)) (fun _ h9 => h9) rfl (v := .int (g.1 w0 2)) rfl dX10_digits_65 ?_
  obtain ⟨hi60001, hf⟩ := c_gd hf
  refine c_bald (j := ((g.1 w0 2)).toNatClampNeg) hx hb hK hP (c_vt w0) fw0_4 rfl (c_inV hi60001) dX10_digits_68 ?_
  refine lv_iadd hx hb dX10_digits_69 ?_
  refine lv_bipush (v := (48 : Int32)) hx hb dX10_digits_70 (by decide) ?_
  refine lv_isub hx hb dX10_digits_72 ?_
  obtain ⟨v60002, ev60002, hf⟩ := c_letE hf
  refine c_topi ev60002 ?_
  refine lv_istore_n (lv' := [(1, .int v60002), (0, .ref (ad w0)), (2, .int x2)]) hx hb dX10_digits_73 rfl hl (by decide) rfl (fun ls hl => ?_)
  refine lv_aload_n hx hb dX10_digits_74 rfl (lv_at hl 1 rfl) ?_
  refine lv_dup hx hb dX10_digits_75 rfl ?_
  refine c_get hx hb hts i_X10_digits_X10 hown hK hP w0 fw0_0 rfl 2 (by decide) (hts _ (List.mem_of_getElem? (i := 1) rfl)) (fun _ h9 => h9) rfl (v := .int (g.1 w0 2)) rfl dX10_digits_76 ?_
  refine lv_iconst (v := (1 : Int32)) hx hb dX10_digits_79 (by decide) ?_
  refine lv_iadd hx hb dX10_digits_80 ?_
  obtain ⟨v60003, ev60003, hf⟩ := c_letE hf
  refine c_topi ev60003 ?_
  obtain ⟨g60004, eg60004, hf⟩ := c_letE hf
  refine c_put hx hb hts i_X10_digits_X10 tyX10 tyX10_ok nmX10 hown hK hP hD hS w0 fw0_0 rfl 2 (by decide) (hts _ (List.mem_of_getElem? (i := 1) rfl)) (fun _ h9 => h9) rfl (ty := .int) (by decide +kernel) rfl rfl rfl eg60004 dX10_digits_81 (fun H locs hP hS => ?_)
  obtain ⟨v60005, ev60005, hf⟩ := c_letE hf
  refine lv_iinc (v := v60005) (lv' := [(2, .int v60005), (1, .int v60002), (0, .ref (ad w0))]) hx hb dX10_digits_84 hl (k := 2) rfl (by rw [ev60005]; rfl) (by decide) rfl (fun ls hl => ?_)
  refine lv_goto (tgt := 4) hx hb dX10_digits_87 (by decide) ?_
  exact hrec4 v60002 v60005 g60004 hf _ _ hP hS _ (lv_sub hl [2, 1, 0] rfl)
def fX10_digits_4  (w0 : Nat) : Nat → Int32 → Int32 → c_G → Option (c_G × Int32)
  | 0, _, _, _ => none
  | n + 1, x1, x2, g => if (2 : Int32) ≤ x2 then (some (g, x1)) else (if (g.1 w0 1) ≤ (g.1 w0 2) then (some (g, x1)) else (if c_in ((g.1 w0 2)) (100) = true then if (g.1 (c_vt w0) ((g.1 w0 2)).toNatClampNeg) < (48 : Int32) then (some (g, x1)) else (if (57 : Int32) < (g.1 (c_vt w0) ((g.1 w0 2)).toNatClampNeg) then (some (g, x1)) else (if 0 ≤ x1 then (fX10_digits_60 (fX10_digits_4 w0 n) w0 x2 ((x1 * (10 : Int32))) g) else (fX10_digits_60 (fX10_digits_4 w0 n) w0 x2 ((0 : Int32)) g))) else none))
set_option maxRecDepth 100000 in
set_option maxHeartbeats 4000000 in
theorem jX10_digits_4 {p : Program} {l : Launch} {e : Env} {s : State} {m : MethodId} {below : List Frame} {meth : Method} {c : Code} {D : va_G} {tc : Nat → ClassId} {ad : Nat → Nat} {A : Nat → Prop} {E : (Nat → Nat) × (Nat → Nat) × Nat} {w0 : Nat} {g' : c_G} {r : Int32} (C : c_C p s m meth c D tc A E RX10 wsX10_digits cX10_digits 3 (some .int) ([.ref (ad w0)] : List Value).toArray) (hD : c_D A ad TC) (hq_w0 : c_isV w0 = true)  : ∀ (n : Nat) (x1 : Int32) (x2 : Int32) (g : c_G), fX10_digits_4 w0 n x1 x2 g = some (g', r) → ∀ (H : Heap) (locs : List Loc), va_P D vwCl (c_ws tc ad TC g) H → va_S A s.heap H locs → ∀ ls : Array Slot, lv_has ls 3 [(0, .ref (ad w0)), (1, .int x1), (2, .int x2)] → W p l e (c_rm 0) s m ([.ref (ad w0)] : List Value).toArray below meth c H locs 0 0 (MQ below (va_Qi (fun (x : Int32) (_ : Unit) => x = r) (fun _ t => va_P D vwCl (c_ws tc ad TC g') t.heap) A) ([.ref (ad w0)] : List Value).toArray s 0 0 A) (F0 m 4 ls []) := by
  obtain ⟨hx, hb, hr, hml, hts, hown, hlk, hK, hE⟩ := id C
  obtain ⟨fw0_0, fw0_1, fw0_2, fw0_3, fw0_4⟩ := c_isVE hq_w0
  intro n
  induction n with
  | zero =>
    intro x1 x2 g hf
    cases hf
  | succ n ih =>
    intro x1 x2 g hf H locs hP hS ls hl
    unfold fX10_digits_4 at hf
    refine lv_iload_n hx hb dX10_digits_4 rfl (lv_at hl 2 rfl) ?_
    refine lv_iconst (v := (2 : Int32)) hx hb dX10_digits_5 (by decide) ?_
    refine lv_icmp_ge (tgt := 90) hx hb dX10_digits_6 (by decide) (fun c4001 => ?_) (fun c4001 => ?_)
    · have hf := c_it c4001 hf
      refine lv_iload_n hx hb dX10_digits_90 rfl (lv_at hl 1 rfl) ?_
      exact c_iret hx hb hr hlk hP hS rfl (c_inj hf) dX10_digits_91
    · have hf := c_ie c4001 hf
      refine lv_aload_n hx hb dX10_digits_9 rfl (lv_at hl 0 rfl) ?_
      refine c_get hx hb hts i_X10_digits_X10 hown hK hP w0 fw0_0 rfl 2 (by decide) (hts _ (List.mem_of_getElem? (i := 1) rfl)) (fun _ h9 => h9) rfl (v := .int (g.1 w0 2)) rfl dX10_digits_10 ?_
      refine lv_aload_n hx hb dX10_digits_13 rfl (lv_at hl 0 rfl) ?_
      refine c_get hx hb hts i_X10_digits_X10 hown hK hP w0 fw0_0 rfl 1 (by decide) (hts _ (List.mem_of_getElem? (i := 2) rfl)) (fun _ h9 => h9) rfl (v := .int (g.1 w0 1)) rfl dX10_digits_14 ?_
      refine lv_icmp_ge (tgt := 90) hx hb dX10_digits_17 (by decide) (fun c4002 => ?_) (fun c4002 => ?_)
      · have hf := c_it c4002 hf
        refine lv_iload_n hx hb dX10_digits_90 rfl (lv_at hl 1 rfl) ?_
        exact c_iret hx hb hr hlk hP hS rfl (c_inj hf) dX10_digits_91
      · have hf := c_ie c4002 hf
        refine lv_aload_n hx hb dX10_digits_20 rfl (lv_at hl 0 rfl) ?_
        refine c_get hx hb hts i_X10_digits_X10 hown hK hP w0 fw0_0 rfl 0 (by decide) (hts _ (List.mem_of_getElem? (i := 3) rfl)) (fun _ h9 => h9) rfl (v := .ref (ad (c_vt w0))) rfl dX10_digits_21 ?_
        refine lv_aload_n hx hb dX10_digits_24 rfl (lv_at hl 0 rfl) ?_
        refine c_get hx hb hts i_X10_digits_X10 hown hK hP w0 fw0_0 rfl 2 (by decide) (hts _ (List.mem_of_getElem? (i := 1) rfl)) (fun _ h9 => h9) rfl (v := .int (g.1 w0 2)) rfl dX10_digits_25 ?_
        obtain ⟨hi4003, hf⟩ := c_gd hf
        refine c_bald (j := ((g.1 w0 2)).toNatClampNeg) hx hb hK hP (c_vt w0) fw0_4 rfl (c_inV hi4003) dX10_digits_28 ?_
        refine lv_bipush (v := (48 : Int32)) hx hb dX10_digits_29 (by decide) ?_
        refine lv_icmp_lt (tgt := 90) hx hb dX10_digits_31 (by decide) (fun c4004 => ?_) (fun c4004 => ?_)
        · have hf := c_it c4004 hf
          refine lv_iload_n hx hb dX10_digits_90 rfl (lv_at hl 1 rfl) ?_
          exact c_iret hx hb hr hlk hP hS rfl (c_inj hf) dX10_digits_91
        · have hf := c_ie c4004 hf
          refine lv_aload_n hx hb dX10_digits_34 rfl (lv_at hl 0 rfl) ?_
          refine c_get hx hb hts i_X10_digits_X10 hown hK hP w0 fw0_0 rfl 0 (by decide) (hts _ (List.mem_of_getElem? (i := 3) rfl)) (fun _ h9 => h9) rfl (v := .ref (ad (c_vt w0))) rfl dX10_digits_35 ?_
          refine lv_aload_n hx hb dX10_digits_38 rfl (lv_at hl 0 rfl) ?_
          refine c_get hx hb hts i_X10_digits_X10 hown hK hP w0 fw0_0 rfl 2 (by decide) (hts _ (List.mem_of_getElem? (i := 1) rfl)) (fun _ h9 => h9) rfl (v := .int (g.1 w0 2)) rfl dX10_digits_39 ?_
          refine c_bald (j := ((g.1 w0 2)).toNatClampNeg) hx hb hK hP (c_vt w0) fw0_4 rfl (c_inV hi4003) dX10_digits_42 ?_
          refine lv_bipush (v := (57 : Int32)) hx hb dX10_digits_43 (by decide) ?_
          refine lv_icmp_gt (tgt := 90) hx hb dX10_digits_45 (by decide) (fun c4005 => ?_) (fun c4005 => ?_)
          · have hf := c_it c4005 hf
            refine lv_iload_n hx hb dX10_digits_90 rfl (lv_at hl 1 rfl) ?_
            exact c_iret hx hb hr hlk hP hS rfl (c_inj hf) dX10_digits_91
          · have hf := c_ie c4005 hf
            refine lv_iload_n hx hb dX10_digits_48 rfl (lv_at hl 1 rfl) ?_
            refine lv_if_ge (tgt := 56) hx hb dX10_digits_49 (by decide) (fun c4006 => ?_) (fun c4006 => ?_)
            · have hf := c_it c4006 hf
              refine lv_iload_n hx hb dX10_digits_56 rfl (lv_at hl 1 rfl) ?_
              refine lv_bipush (v := (10 : Int32)) hx hb dX10_digits_57 (by decide) ?_
              refine lv_imul hx hb dX10_digits_59 ?_
              exact jX10_digits_60 C hD hq_w0 ih x2 ((x1 * (10 : Int32))) g hf _ _ hP hS _ (lv_sub hl [0, 2] rfl)
            · have hf := c_ie c4006 hf
              refine lv_iconst (v := (0 : Int32)) hx hb dX10_digits_52 (by decide) ?_
              refine lv_goto (tgt := 60) hx hb dX10_digits_53 (by decide) ?_
              exact jX10_digits_60 C hD hq_w0 ih x2 ((0 : Int32)) g hf _ _ hP hS _ (lv_sub hl [0, 2] rfl)
def fX10_digits (g : c_G) (w0 : Nat) : Option (c_G × Int32) :=
  if c_isV w0 = true then (fX10_digits_4 w0 c_F ((-1 : Int32)) ((0 : Int32)) g) else none
set_option maxRecDepth 100000 in
set_option maxHeartbeats 4000000 in
theorem kX10_digits {l : Launch} {D : va_G} {tc : Nat → ClassId} {ad : Nat → Nat} {A : Nat → Prop} {E : (Nat → Nat) × (Nat → Nat) × Nat} (hD : c_D A ad TC) {w0 : Nat} {g g' : c_G} {r : Int32} (hf : fX10_digits g w0 = some (g', r)) : c_Mi l yX10_digits wsX10_digits (c_rm 0) D tc ad A E TC ([.ref (ad w0)] : List Value) g g' r := by
  refine c_ofW (bytes := cX10_digits) (maxL := 3) (ret := (some .int)) (by decide) rfl (Nat.le_of_ble_eq_true rfl) ?_
  intro p e s m below meth c ls C hP hS hl
  unfold fX10_digits at hf
  obtain ⟨hq_w0, hf⟩ := c_gd hf
  obtain ⟨hx, hb, hr, hml, hts, hown, hlk, hK, hE⟩ := id C
  obtain ⟨fw0_0, fw0_1, fw0_2, fw0_3, fw0_4⟩ := c_isVE hq_w0
  have hl : lv_has ls 3 [(0, .ref (ad w0))] := hl
  refine lv_iconst (v := (-1 : Int32)) hx hb dX10_digits_0 (by decide) ?_
  refine lv_istore_n (lv' := [(1, .int (-1 : Int32)), (0, .ref (ad w0))]) hx hb dX10_digits_1 rfl hl (by decide) rfl (fun ls hl => ?_)
  refine lv_iconst (v := (0 : Int32)) hx hb dX10_digits_2 (by decide) ?_
  refine lv_istore_n (lv' := [(2, .int (0 : Int32)), (1, .int (-1 : Int32)), (0, .ref (ad w0))]) hx hb dX10_digits_3 rfl hl (by decide) rfl (fun ls hl => ?_)
  exact jX10_digits_4 C hD hq_w0 c_F ((-1 : Int32)) ((0 : Int32)) g hf _ _ hP hS _ (lv_sub hl [2, 1, 0] rfl)
theorem i_X10_oneOf_X10 : ∀ w ∈ u_ws RX10 TX10 8, w ∈ wsX10_oneOf := c_inP [93, 94, 95, 96, 97, 98, 99, 100] (by decide +kernel)
theorem dX10_oneOf_0 : decode cX10_oneOf 0 = .ok (.aload_n 0, 1) := by decide +kernel
theorem dX10_oneOf_1 : decode cX10_oneOf 1 = .ok (.getfield 35, 3) := by decide +kernel
theorem dX10_oneOf_4 : decode cX10_oneOf 4 = .ok (.aload_n 0, 1) := by decide +kernel
theorem dX10_oneOf_5 : decode cX10_oneOf 5 = .ok (.getfield 31, 3) := by decide +kernel
theorem dX10_oneOf_8 : decode cX10_oneOf 8 = .ok (.if_icmp .ge 20, 3) := by decide +kernel
theorem dX10_oneOf_11 : decode cX10_oneOf 11 = .ok (.aload_n 1, 1) := by decide +kernel
theorem dX10_oneOf_12 : decode cX10_oneOf 12 = .ok (.aload_n 0, 1) := by decide +kernel
theorem dX10_oneOf_13 : decode cX10_oneOf 13 = .ok (.getfield 9, 3) := by decide +kernel
theorem dX10_oneOf_16 : decode cX10_oneOf 16 = .ok (.aload_n 0, 1) := by decide +kernel
theorem dX10_oneOf_17 : decode cX10_oneOf 17 = .ok (.getfield 35, 3) := by decide +kernel
theorem dX10_oneOf_20 : decode cX10_oneOf 20 = .ok (.baload, 1) := by decide +kernel
theorem dX10_oneOf_21 : decode cX10_oneOf 21 = .ok (.i2c, 1) := by decide +kernel
theorem dX10_oneOf_22 : decode cX10_oneOf 22 = .ok (.invokevirtual 91, 3) := by decide +kernel
theorem dX10_oneOf_25 : decode cX10_oneOf 25 = .ok (.goto 4, 3) := by decide +kernel
theorem dX10_oneOf_28 : decode cX10_oneOf 28 = .ok (.iconst (-1), 1) := by decide +kernel
theorem dX10_oneOf_29 : decode cX10_oneOf 29 = .ok (.istore_n 2, 1) := by decide +kernel
theorem dX10_oneOf_30 : decode cX10_oneOf 30 = .ok (.iload_n 2, 1) := by decide +kernel
theorem dX10_oneOf_31 : decode cX10_oneOf 31 = .ok (.ifCond .lt 13, 3) := by decide +kernel
theorem dX10_oneOf_34 : decode cX10_oneOf 34 = .ok (.aload_n 0, 1) := by decide +kernel
theorem dX10_oneOf_35 : decode cX10_oneOf 35 = .ok (.dup, 1) := by decide +kernel
theorem dX10_oneOf_36 : decode cX10_oneOf 36 = .ok (.getfield 35, 3) := by decide +kernel
theorem dX10_oneOf_39 : decode cX10_oneOf 39 = .ok (.iconst 1, 1) := by decide +kernel
theorem dX10_oneOf_40 : decode cX10_oneOf 40 = .ok (.iadd, 1) := by decide +kernel
theorem dX10_oneOf_41 : decode cX10_oneOf 41 = .ok (.putfield 35, 3) := by decide +kernel
theorem dX10_oneOf_44 : decode cX10_oneOf 44 = .ok (.iload_n 2, 1) := by decide +kernel
theorem dX10_oneOf_45 : decode cX10_oneOf 45 = .ok (.ireturn, 1) := by decide +kernel
set_option maxRecDepth 20000 in
theorem ggX10_oneOf_J0_indexOf_0f7a4 : GoodIn wsX10_oneOf wsJ0_indexOf_0f7a4 := goodIn_r _ [8, 9, 10, 11, 7, 12, 13, 14, 15, 16, 17, 18, 19, 20, 21, 22, 23, 24, 25, 26, 27, 28, 29, 30, 31, 32, 33, 34, 35, 36, 37, 38, 39, 40, 41, 42, 43, 44, 45, 46, 47, 48, 49, 50, 51, 52, 53, 54, 55, 56, 57, 58, 59, 60, 61, 62, 63, 64, 65, 66, 67, 68, 69, 70, 71, 72, 73, 74, 75, 76, 77, 78, 79, 80, 81, 82, 83, 84, 85, 86, 87, 88, 89, 90, 91, 92] (by decide +kernel) (by decide +kernel)
set_option maxRecDepth 20000 in
theorem gX10_oneOf_J0_indexOf_0f7a4 : GoodIn wsX10_oneOf (wsV RX10 91 RJ0 yJ0_indexOf_0f7a4 wsJ0_indexOf_0f7a4) := goodIn_app (goodIn_of _ (by decide +kernel)) ggX10_oneOf_J0_indexOf_0f7a4
def fX10_oneOf_29  (w0 : Nat) (a1 : Nat) (y0 : Int32) (g : c_G) : Option (c_G × Int32) :=
  if y0 < 0 then (some (g, y0)) else (c_let (((g.1 w0 2) + (1 : Int32))) fun v29002 => c_let (c_si g w0 2 v29002) fun g29003 => some (g29003, y0))
set_option maxRecDepth 100000 in
set_option maxHeartbeats 4000000 in
theorem jX10_oneOf_29 {p : Program} {l : Launch} {e : Env} {s : State} {m : MethodId} {below : List Frame} {meth : Method} {c : Code} {D : va_G} {tc : Nat → ClassId} {ad : Nat → Nat} {A : Nat → Prop} {E : (Nat → Nat) × (Nat → Nat) × Nat} {w0 : Nat} {a1 : Nat} {g' : c_G} {r : Int32} (C : c_C p s m meth c D tc A E RX10 wsX10_oneOf cX10_oneOf 3 (some .int) ([.ref (ad w0), .ref (E.1 a1)] : List Value).toArray) (hD : c_D A ad TC) (hq_w0 : c_isV w0 = true) (hk_a1 : a1 < 5)  : ∀ (y0 : Int32) (g : c_G), fX10_oneOf_29 w0 a1 y0 g = some (g', r) → ∀ (H : Heap) (locs : List Loc), va_P D vwCl (c_ws tc ad TC g) H → va_S A s.heap H locs → ∀ ls : Array Slot, lv_has ls 3 [(0, .ref (ad w0))] → W p l e (c_rm 4) s m ([.ref (ad w0), .ref (E.1 a1)] : List Value).toArray below meth c H locs 0 0 (MQ below (va_Qi (fun (x : Int32) (_ : Unit) => x = r) (fun _ t => va_P D vwCl (c_ws tc ad TC g') t.heap) A) ([.ref (ad w0), .ref (E.1 a1)] : List Value).toArray s 0 0 A) (F0 m 29 ls [.int y0]) := by
  obtain ⟨hx, hb, hr, hml, hts, hown, hlk, hK, hE⟩ := id C
  obtain ⟨fw0_0, fw0_1, fw0_2, fw0_3, fw0_4⟩ := c_isVE hq_w0
  intro y0 g hf H locs hP hS ls hl
  unfold fX10_oneOf_29 at hf
  refine lv_istore_n (lv' := [(2, .int y0), (0, .ref (ad w0))]) hx hb dX10_oneOf_29 rfl hl (by decide) rfl (fun ls hl => ?_)
  refine lv_iload_n hx hb dX10_oneOf_30 rfl (lv_at hl 0 rfl) ?_
  refine lv_if_lt (tgt := 44) hx hb dX10_oneOf_31 (by decide) (fun c29001 => ?_) (fun c29001 => ?_)
  · have hf := c_it c29001 hf
    refine lv_iload_n hx hb dX10_oneOf_44 rfl (lv_at hl 0 rfl) ?_
    exact c_iret hx hb hr hlk hP hS rfl (c_inj hf) dX10_oneOf_45
  · have hf := c_ie c29001 hf
    refine lv_aload_n hx hb dX10_oneOf_34 rfl (lv_at hl 1 rfl) ?_
    refine lv_dup hx hb dX10_oneOf_35 rfl ?_
    refine c_get hx hb hts i_X10_oneOf_X10 hown hK hP w0 fw0_0 rfl 2 (by decide) (hts _ (List.mem_of_getElem? (i := 1) rfl)) (fun _ h9 => h9) rfl (v := .int (g.1 w0 2)) rfl dX10_oneOf_36 ?_
    refine lv_iconst (v := (1 : Int32)) hx hb dX10_oneOf_39 (by decide) ?_
    refine lv_iadd hx hb dX10_oneOf_40 ?_
    obtain ⟨v29002, ev29002, hf⟩ := c_letE hf
    refine c_topi ev29002 ?_
    obtain ⟨g29003, eg29003, hf⟩ := c_letE hf
    refine c_put hx hb hts i_X10_oneOf_X10 tyX10 tyX10_ok nmX10 hown hK hP hD hS w0 fw0_0 rfl 2 (by decide) (hts _ (List.mem_of_getElem? (i := 1) rfl)) (fun _ h9 => h9) rfl (ty := .int) (by decide +kernel) rfl rfl rfl eg29003 dX10_oneOf_41 (fun H locs hP hS => ?_)
    refine lv_iload_n hx hb dX10_oneOf_44 rfl (lv_at hl 0 rfl) ?_
    exact c_iret hx hb hr hlk hP hS rfl (c_inj hf) dX10_oneOf_45
def fX10_oneOf (g : c_G) (w0 : Nat) (a1 : Nat) : Option (c_G × Int32) :=
  if c_isV w0 = true then (if a1 < 5 then (if (g.1 w0 1) ≤ (g.1 w0 2) then (fX10_oneOf_29 w0 a1 ((-1 : Int32)) g) else (if c_in ((g.1 w0 2)) (100) = true then (fJ0_indexOf_0f7a4 TC g a1 (((((g.1 (c_vt w0) ((g.1 w0 2)).toNatClampNeg)).toUInt32 % 65536).toInt32))).bind fun r3 => fX10_oneOf_29 w0 a1 r3 g else none)) else none) else none
set_option maxRecDepth 100000 in
set_option maxHeartbeats 4000000 in
theorem kX10_oneOf {l : Launch} {D : va_G} {tc : Nat → ClassId} {ad : Nat → Nat} {A : Nat → Prop} {E : (Nat → Nat) × (Nat → Nat) × Nat} (hD : c_D A ad TC) {w0 : Nat} {a1 : Nat} {g g' : c_G} {r : Int32} (hf : fX10_oneOf g w0 a1 = some (g', r)) : c_Mi l yX10_oneOf wsX10_oneOf (c_rm 4) D tc ad A E TC ([.ref (ad w0), .ref (E.1 a1)] : List Value) g g' r := by
  refine c_ofW (bytes := cX10_oneOf) (maxL := 3) (ret := (some .int)) (by decide) rfl (Nat.le_of_ble_eq_true rfl) ?_
  intro p e s m below meth c ls C hP hS hl
  unfold fX10_oneOf at hf
  obtain ⟨hq_w0, hf⟩ := c_gd hf
  obtain ⟨hk_a1, hf⟩ := c_gp hf
  obtain ⟨hx, hb, hr, hml, hts, hown, hlk, hK, hE⟩ := id C
  obtain ⟨fw0_0, fw0_1, fw0_2, fw0_3, fw0_4⟩ := c_isVE hq_w0
  have hl : lv_has ls 3 [(0, .ref (ad w0)), (1, .ref (E.1 a1))] := hl
  refine lv_aload_n hx hb dX10_oneOf_0 rfl (lv_at hl 0 rfl) ?_
  refine c_get hx hb hts i_X10_oneOf_X10 hown hK hP w0 fw0_0 rfl 2 (by decide) (hts _ (List.mem_of_getElem? (i := 1) rfl)) (fun _ h9 => h9) rfl (v := .int (g.1 w0 2)) rfl dX10_oneOf_1 ?_
  refine lv_aload_n hx hb dX10_oneOf_4 rfl (lv_at hl 0 rfl) ?_
  refine c_get hx hb hts i_X10_oneOf_X10 hown hK hP w0 fw0_0 rfl 1 (by decide) (hts _ (List.mem_of_getElem? (i := 2) rfl)) (fun _ h9 => h9) rfl (v := .int (g.1 w0 1)) rfl dX10_oneOf_5 ?_
  refine lv_icmp_ge (tgt := 28) hx hb dX10_oneOf_8 (by decide) (fun c1 => ?_) (fun c1 => ?_)
  · have hf := c_it c1 hf
    refine lv_iconst (v := (-1 : Int32)) hx hb dX10_oneOf_28 (by decide) ?_
    exact jX10_oneOf_29 C hD hq_w0 hk_a1 ((-1 : Int32)) g hf _ _ hP hS _ (lv_sub hl [0] rfl)
  · have hf := c_ie c1 hf
    refine lv_aload_n hx hb dX10_oneOf_11 rfl (lv_at hl 1 rfl) ?_
    refine lv_aload_n hx hb dX10_oneOf_12 rfl (lv_at hl 0 rfl) ?_
    refine c_get hx hb hts i_X10_oneOf_X10 hown hK hP w0 fw0_0 rfl 0 (by decide) (hts _ (List.mem_of_getElem? (i := 3) rfl)) (fun _ h9 => h9) rfl (v := .ref (ad (c_vt w0))) rfl dX10_oneOf_13 ?_
    refine lv_aload_n hx hb dX10_oneOf_16 rfl (lv_at hl 0 rfl) ?_
    refine c_get hx hb hts i_X10_oneOf_X10 hown hK hP w0 fw0_0 rfl 2 (by decide) (hts _ (List.mem_of_getElem? (i := 1) rfl)) (fun _ h9 => h9) rfl (v := .int (g.1 w0 2)) rfl dX10_oneOf_17 ?_
    obtain ⟨hi2, hf⟩ := c_gd hf
    refine c_bald (j := ((g.1 w0 2)).toNatClampNeg) hx hb hK hP (c_vt w0) fw0_4 rfl (c_inV hi2) dX10_oneOf_20 ?_
    refine lv_i2c hx hb dX10_oneOf_21 rfl ?_
    obtain ⟨r3, hc4, hf⟩ := c_bd hf
    refine c_goi (va_runV (As := [.int ((((g.1 (c_vt w0) ((g.1 w0 2)).toNatClampNeg)).toUInt32 % 65536).toInt32)]) (rest := []) ⟨hx, hb, hml, hown, hts⟩ (kJ0_indexOf_0f7a4 hD hc4) (cwV 1 hts gX10_oneOf_J0_indexOf_0f7a4 rfl rfl rfl (by decide +kernel) ⟨Nat.le_of_ble_eq_true rfl, Nat.le_of_ble_eq_true rfl⟩) (c_preVs (k := a1) hK hP hE hS hk_a1) rfl rfl hl.1 rfl (lv_room (Nat.le_of_ble_eq_true rfl)) dX10_oneOf_22 ⟨Nat.zero_le _, Nat.zero_le _⟩) hS (fun H locs hP hS => ?_)
    refine lv_goto (tgt := 29) hx hb dX10_oneOf_25 (by decide) ?_
    exact jX10_oneOf_29 C hD hq_w0 hk_a1 r3 g hf _ _ hP hS _ (lv_sub hl [0] rfl)
theorem i_X10_step_X10 : ∀ w ∈ u_ws RX10 TX10 8, w ∈ wsX10_step := c_inP [5, 6, 7, 8, 9, 10, 11, 12] (by decide +kernel)
theorem dX10_step_0 : decode cX10_step 0 = .ok (.aload_n 0, 1) := by decide +kernel
theorem dX10_step_1 : decode cX10_step 1 = .ok (.getfield 38, 3) := by decide +kernel
theorem dX10_step_4 : decode cX10_step 4 = .ok (.bipush 100, 2) := by decide +kernel
theorem dX10_step_6 : decode cX10_step 6 = .ok (.if_icmp .lt 4, 3) := by decide +kernel
theorem dX10_step_9 : decode cX10_step 9 = .ok (.return_, 1) := by decide +kernel
theorem dX10_step_10 : decode cX10_step 10 = .ok (.aload_n 0, 1) := by decide +kernel
theorem dX10_step_11 : decode cX10_step 11 = .ok (.getfield 15, 3) := by decide +kernel
theorem dX10_step_14 : decode cX10_step 14 = .ok (.aload_n 0, 1) := by decide +kernel
theorem dX10_step_15 : decode cX10_step 15 = .ok (.getfield 38, 3) := by decide +kernel
theorem dX10_step_18 : decode cX10_step 18 = .ok (.iload_n 1, 1) := by decide +kernel
theorem dX10_step_19 : decode cX10_step 19 = .ok (.iastore, 1) := by decide +kernel
theorem dX10_step_20 : decode cX10_step 20 = .ok (.aload_n 0, 1) := by decide +kernel
theorem dX10_step_21 : decode cX10_step 21 = .ok (.getfield 19, 3) := by decide +kernel
theorem dX10_step_24 : decode cX10_step 24 = .ok (.aload_n 0, 1) := by decide +kernel
theorem dX10_step_25 : decode cX10_step 25 = .ok (.getfield 38, 3) := by decide +kernel
theorem dX10_step_28 : decode cX10_step 28 = .ok (.iload_n 2, 1) := by decide +kernel
theorem dX10_step_29 : decode cX10_step 29 = .ok (.iastore, 1) := by decide +kernel
theorem dX10_step_30 : decode cX10_step 30 = .ok (.aload_n 0, 1) := by decide +kernel
theorem dX10_step_31 : decode cX10_step 31 = .ok (.getfield 22, 3) := by decide +kernel
theorem dX10_step_34 : decode cX10_step 34 = .ok (.aload_n 0, 1) := by decide +kernel
theorem dX10_step_35 : decode cX10_step 35 = .ok (.getfield 38, 3) := by decide +kernel
theorem dX10_step_38 : decode cX10_step 38 = .ok (.iload_n 3, 1) := by decide +kernel
theorem dX10_step_39 : decode cX10_step 39 = .ok (.iastore, 1) := by decide +kernel
theorem dX10_step_40 : decode cX10_step 40 = .ok (.aload_n 0, 1) := by decide +kernel
theorem dX10_step_41 : decode cX10_step 41 = .ok (.dup, 1) := by decide +kernel
theorem dX10_step_42 : decode cX10_step 42 = .ok (.getfield 38, 3) := by decide +kernel
theorem dX10_step_45 : decode cX10_step 45 = .ok (.iconst 1, 1) := by decide +kernel
theorem dX10_step_46 : decode cX10_step 46 = .ok (.iadd, 1) := by decide +kernel
theorem dX10_step_47 : decode cX10_step 47 = .ok (.putfield 38, 3) := by decide +kernel
theorem dX10_step_50 : decode cX10_step 50 = .ok (.return_, 1) := by decide +kernel
def fX10_step (g : c_G) (w0 : Nat) (a1 : Int32) (a2 : Int32) (a3 : Int32) : Option (c_G) :=
  if c_isV w0 = true then (if (g.1 w0 6) < (100 : Int32) then (if c_in ((g.1 w0 6)) (100) = true then c_let (c_si g (w0 + 1) ((g.1 w0 6)).toNatClampNeg a1) fun g3 => if c_in ((g3.1 w0 6)) (100) = true then c_let (c_si g3 (w0 + 2) ((g3.1 w0 6)).toNatClampNeg a2) fun g5 => if c_in ((g5.1 w0 6)) (100) = true then c_let (c_si g5 (w0 + 3) ((g5.1 w0 6)).toNatClampNeg a3) fun g7 => c_let (((g7.1 w0 6) + (1 : Int32))) fun v8 => c_let (c_si g7 w0 6 v8) fun g9 => some g9 else none else none else none) else (some g)) else none
set_option maxRecDepth 100000 in
set_option maxHeartbeats 4000000 in
theorem kX10_step {l : Launch} {D : va_G} {tc : Nat → ClassId} {ad : Nat → Nat} {A : Nat → Prop} {E : (Nat → Nat) × (Nat → Nat) × Nat} (hD : c_D A ad TC) {w0 : Nat} {a1 : Int32} {a2 : Int32} {a3 : Int32} {g g' : c_G} (hf : fX10_step g w0 a1 a2 a3 = some g') : c_Mv l yX10_step wsX10_step (c_rm 0) D tc ad A E TC ([.ref (ad w0), .int a1, .int a2, .int a3] : List Value) g g' := by
  refine c_ofW (bytes := cX10_step) (maxL := 4) (ret := none) (by decide) rfl (Nat.le_of_ble_eq_true rfl) ?_
  intro p e s m below meth c ls C hP hS hl
  unfold fX10_step at hf
  obtain ⟨hq_w0, hf⟩ := c_gd hf
  obtain ⟨hx, hb, hr, hml, hts, hown, hlk, hK, hE⟩ := id C
  obtain ⟨fw0_0, fw0_1, fw0_2, fw0_3, fw0_4⟩ := c_isVE hq_w0
  have hl : lv_has ls 4 [(0, .ref (ad w0)), (1, .int a1), (2, .int a2), (3, .int a3)] := hl
  refine lv_aload_n hx hb dX10_step_0 rfl (lv_at hl 0 rfl) ?_
  refine c_get hx hb hts i_X10_step_X10 hown hK hP w0 fw0_0 rfl 6 (by decide) (hts _ (List.mem_of_getElem? (i := 1) rfl)) (fun _ h9 => h9) rfl (v := .int (g.1 w0 6)) rfl dX10_step_1 ?_
  refine lv_bipush (v := (100 : Int32)) hx hb dX10_step_4 (by decide) ?_
  refine lv_icmp_lt (tgt := 10) hx hb dX10_step_6 (by decide) (fun c1 => ?_) (fun c1 => ?_)
  · have hf := c_it c1 hf
    refine lv_aload_n hx hb dX10_step_10 rfl (lv_at hl 0 rfl) ?_
    refine c_get hx hb hts i_X10_step_X10 hown hK hP w0 fw0_0 rfl 3 (by decide) (hts _ (List.mem_of_getElem? (i := 2) rfl)) (fun _ h9 => h9) rfl (v := .ref (ad (w0 + 1))) rfl dX10_step_11 ?_
    refine lv_aload_n hx hb dX10_step_14 rfl (lv_at hl 0 rfl) ?_
    refine c_get hx hb hts i_X10_step_X10 hown hK hP w0 fw0_0 rfl 6 (by decide) (hts _ (List.mem_of_getElem? (i := 1) rfl)) (fun _ h9 => h9) rfl (v := .int (g.1 w0 6)) rfl dX10_step_15 ?_
    refine lv_iload_n hx hb dX10_step_18 rfl (lv_at hl 1 rfl) ?_
    obtain ⟨hi2, hf⟩ := c_gd hf
    obtain ⟨g3, eg3, hf⟩ := c_letE hf
    refine c_iast (j := ((g.1 w0 6)).toNatClampNeg) hx hb hK hP hD hS (w0 + 1) fw0_1 rfl (c_inV hi2) eg3 dX10_step_19 (fun H locs hP hS => ?_)
    refine lv_aload_n hx hb dX10_step_20 rfl (lv_at hl 0 rfl) ?_
    refine c_get hx hb hts i_X10_step_X10 hown hK hP w0 fw0_0 rfl 4 (by decide) (hts _ (List.mem_of_getElem? (i := 3) rfl)) (fun _ h9 => h9) rfl (v := .ref (ad (w0 + 2))) rfl dX10_step_21 ?_
    refine lv_aload_n hx hb dX10_step_24 rfl (lv_at hl 0 rfl) ?_
    refine c_get hx hb hts i_X10_step_X10 hown hK hP w0 fw0_0 rfl 6 (by decide) (hts _ (List.mem_of_getElem? (i := 1) rfl)) (fun _ h9 => h9) rfl (v := .int (g3.1 w0 6)) rfl dX10_step_25 ?_
    refine lv_iload_n hx hb dX10_step_28 rfl (lv_at hl 2 rfl) ?_
    obtain ⟨hi4, hf⟩ := c_gd hf
    obtain ⟨g5, eg5, hf⟩ := c_letE hf
    refine c_iast (j := ((g3.1 w0 6)).toNatClampNeg) hx hb hK hP hD hS (w0 + 2) fw0_2 rfl (c_inV hi4) eg5 dX10_step_29 (fun H locs hP hS => ?_)
    refine lv_aload_n hx hb dX10_step_30 rfl (lv_at hl 0 rfl) ?_
    refine c_get hx hb hts i_X10_step_X10 hown hK hP w0 fw0_0 rfl 5 (by decide) (hts _ (List.mem_of_getElem? (i := 4) rfl)) (fun _ h9 => h9) rfl (v := .ref (ad (w0 + 3))) rfl dX10_step_31 ?_
    refine lv_aload_n hx hb dX10_step_34 rfl (lv_at hl 0 rfl) ?_
    refine c_get hx hb hts i_X10_step_X10 hown hK hP w0 fw0_0 rfl 6 (by decide) (hts _ (List.mem_of_getElem? (i := 1) rfl)) (fun _ h9 => h9) rfl (v := .int (g5.1 w0 6)) rfl dX10_step_35 ?_
    refine lv_iload_n hx hb dX10_step_38 rfl (lv_at hl 3 rfl) ?_
    obtain ⟨hi6, hf⟩ := c_gd hf
    obtain ⟨g7, eg7, hf⟩ := c_letE hf
    refine c_iast (j := ((g5.1 w0 6)).toNatClampNeg) hx hb hK hP hD hS (w0 + 3) fw0_3 rfl (c_inV hi6) eg7 dX10_step_39 (fun H locs hP hS => ?_)
    refine lv_aload_n hx hb dX10_step_40 rfl (lv_at hl 0 rfl) ?_
    refine lv_dup hx hb dX10_step_41 rfl ?_
    refine c_get hx hb hts i_X10_step_X10 hown hK hP w0 fw0_0 rfl 6 (by decide) (hts _ (List.mem_of_getElem? (i := 1) rfl)) (fun _ h9 => h9) rfl (v := .int (g7.1 w0 6)) rfl dX10_step_42 ?_
    refine lv_iconst (v := (1 : Int32)) hx hb dX10_step_45 (by decide) ?_
    refine lv_iadd hx hb dX10_step_46 ?_
    obtain ⟨v8, ev8, hf⟩ := c_letE hf
    refine c_topi ev8 ?_
    obtain ⟨g9, eg9, hf⟩ := c_letE hf
    refine c_put hx hb hts i_X10_step_X10 tyX10 tyX10_ok nmX10 hown hK hP hD hS w0 fw0_0 rfl 6 (by decide) (hts _ (List.mem_of_getElem? (i := 1) rfl)) (fun _ h9 => h9) rfl (ty := .int) (by decide +kernel) rfl rfl rfl eg9 dX10_step_47 (fun H locs hP hS => ?_)
    exact c_vret hx hb hr hlk hP hS (Option.some.inj hf) dX10_step_50
  · have hf := c_ie c1 hf
    exact c_vret hx hb hr hlk hP hS (Option.some.inj hf) dX10_step_9
theorem dX10_test_0 : decode cX10_test 0 = .ok (.aload_n 0, 1) := by decide +kernel
theorem dX10_test_1 : decode cX10_test 1 = .ok (.ldc 83, 2) := by decide +kernel
theorem dX10_test_3 : decode cX10_test 3 = .ok (.invokevirtual 85, 3) := by decide +kernel
theorem dX10_test_6 : decode cX10_test 6 = .ok (.istore_n 1, 1) := by decide +kernel
theorem dX10_test_7 : decode cX10_test 7 = .ok (.iload_n 1, 1) := by decide +kernel
theorem dX10_test_8 : decode cX10_test 8 = .ok (.ifCond .ge 5, 3) := by decide +kernel
theorem dX10_test_11 : decode cX10_test 11 = .ok (.iconst 0, 1) := by decide +kernel
theorem dX10_test_12 : decode cX10_test 12 = .ok (.ireturn, 1) := by decide +kernel
theorem dX10_test_13 : decode cX10_test 13 = .ok (.aload_n 0, 1) := by decide +kernel
theorem dX10_test_14 : decode cX10_test 14 = .ok (.ldc 89, 2) := by decide +kernel
theorem dX10_test_16 : decode cX10_test 16 = .ok (.invokevirtual 85, 3) := by decide +kernel
theorem dX10_test_19 : decode cX10_test 19 = .ok (.istore_n 2, 1) := by decide +kernel
theorem dX10_test_20 : decode cX10_test 20 = .ok (.iload_n 2, 1) := by decide +kernel
theorem dX10_test_21 : decode cX10_test 21 = .ok (.ifCond .ge 5, 3) := by decide +kernel
theorem dX10_test_24 : decode cX10_test 24 = .ok (.iconst 0, 1) := by decide +kernel
theorem dX10_test_25 : decode cX10_test 25 = .ok (.ireturn, 1) := by decide +kernel
theorem dX10_test_26 : decode cX10_test 26 = .ok (.aload_n 0, 1) := by decide +kernel
theorem dX10_test_27 : decode cX10_test 27 = .ok (.invokevirtual 62, 3) := by decide +kernel
theorem dX10_test_30 : decode cX10_test 30 = .ok (.istore_n 3, 1) := by decide +kernel
theorem dX10_test_31 : decode cX10_test 31 = .ok (.iload_n 3, 1) := by decide +kernel
theorem dX10_test_32 : decode cX10_test 32 = .ok (.ifCond .ge 5, 3) := by decide +kernel
theorem dX10_test_35 : decode cX10_test 35 = .ok (.iconst 0, 1) := by decide +kernel
theorem dX10_test_36 : decode cX10_test 36 = .ok (.ireturn, 1) := by decide +kernel
theorem dX10_test_37 : decode cX10_test 37 = .ok (.aload_n 0, 1) := by decide +kernel
theorem dX10_test_38 : decode cX10_test 38 = .ok (.iload_n 1, 1) := by decide +kernel
theorem dX10_test_39 : decode cX10_test 39 = .ok (.iload_n 2, 1) := by decide +kernel
theorem dX10_test_40 : decode cX10_test 40 = .ok (.iload_n 3, 1) := by decide +kernel
theorem dX10_test_41 : decode cX10_test 41 = .ok (.invokevirtual 70, 3) := by decide +kernel
theorem dX10_test_44 : decode cX10_test 44 = .ok (.iconst 1, 1) := by decide +kernel
theorem dX10_test_45 : decode cX10_test 45 = .ok (.ireturn, 1) := by decide +kernel
set_option maxRecDepth 20000 in
theorem ggX10_test_X10_oneOf : GoodIn wsX10_test wsX10_oneOf := goodIn_r _ [5, 6, 7, 8, 9, 10, 11, 12, 13, 14, 15, 16, 17, 18, 19, 20, 21, 22, 23, 24, 25, 26, 27, 28, 29, 30, 31, 32, 33, 34, 35, 36, 37, 38, 39, 40, 41, 42, 43, 44, 45, 46, 47, 48, 49, 50, 51, 52, 53, 54, 55, 56, 57, 58, 59, 60, 61, 62, 63, 64, 65, 66, 67, 68, 69, 70, 71, 72, 73, 74, 75, 76, 77, 78, 79, 80, 81, 82, 83, 84, 85, 86, 87, 88, 89, 90, 91, 92, 93, 94, 95, 96, 97, 110, 111, 112, 113, 114, 115, 116, 117] (by decide +kernel) (by decide +kernel)
set_option maxRecDepth 20000 in
theorem gX10_test_X10_oneOf : GoodIn wsX10_test (wsV RX10 85 RX10 yX10_oneOf wsX10_oneOf) := goodIn_app (goodIn_of _ (by decide +kernel)) ggX10_test_X10_oneOf
set_option maxRecDepth 20000 in
theorem ggX10_test_X10_digits : GoodIn wsX10_test wsX10_digits := goodIn_r _ [101, 6, 7, 8, 110, 111, 112, 113, 114, 115, 116, 117] (by decide +kernel) (by decide +kernel)
set_option maxRecDepth 20000 in
theorem gX10_test_X10_digits : GoodIn wsX10_test (wsV RX10 62 RX10 yX10_digits wsX10_digits) := goodIn_app (goodIn_of _ (by decide +kernel)) ggX10_test_X10_digits
set_option maxRecDepth 20000 in
theorem ggX10_test_X10_step : GoodIn wsX10_test wsX10_step := goodIn_r _ [105, 106, 107, 108, 109, 110, 111, 112, 113, 114, 115, 116, 117] (by decide +kernel) (by decide +kernel)
set_option maxRecDepth 20000 in
theorem gX10_test_X10_step : GoodIn wsX10_test (wsV RX10 70 RX10 yX10_step wsX10_step) := goodIn_app (goodIn_of _ (by decide +kernel)) ggX10_test_X10_step
def fX10_test (g : c_G) (w0 : Nat) : Option (c_G × Int32) :=
  if c_isV w0 = true then (c_b2 (fX10_oneOf g w0 3) fun g2 r3 => if 0 ≤ r3 then (c_b2 (fX10_oneOf g2 w0 4) fun g6 r7 => if 0 ≤ r7 then (c_b2 (fX10_digits g6 w0) fun g10 r11 => if 0 ≤ r11 then ((fX10_step g10 w0 r3 r7 r11).bind fun g14 => some (g14, (1 : Int32))) else (some (g10, (0 : Int32)))) else (some (g6, (0 : Int32)))) else (some (g2, (0 : Int32)))) else none
set_option maxRecDepth 100000 in
set_option maxHeartbeats 4000000 in
theorem kX10_test {l : Launch} {D : va_G} {tc : Nat → ClassId} {ad : Nat → Nat} {A : Nat → Prop} {E : (Nat → Nat) × (Nat → Nat) × Nat} (hD : c_D A ad TC) {w0 : Nat} {g g' : c_G} {r : Int32} (hf : fX10_test g w0 = some (g', r)) : c_Mi l yX10_test wsX10_test (c_rm 5) D tc ad A E TC ([.ref (ad w0)] : List Value) g g' r := by
  refine c_ofW (bytes := cX10_test) (maxL := 4) (ret := (some .boolean)) (by decide) rfl (Nat.le_of_ble_eq_true rfl) ?_
  intro p e s m below meth c ls C hP hS hl
  unfold fX10_test at hf
  obtain ⟨hq_w0, hf⟩ := c_gd hf
  obtain ⟨hx, hb, hr, hml, hts, hown, hlk, hK, hE⟩ := id C
  obtain ⟨fw0_0, fw0_1, fw0_2, fw0_3, fw0_4⟩ := c_isVE hq_w0
  have hl : lv_has ls 4 [(0, .ref (ad w0))] := hl
  refine lv_aload_n hx hb dX10_test_0 rfl (lv_at hl 0 rfl) ?_
  refine va_ldcS hx hb hown (q := E.1 3) (hE.2 3 (by decide)) dX10_test_1 ?_
  obtain ⟨g2, r3, hc1, hf⟩ := c_b2E hf
  refine c_goi (va_runV (As := [.ref (E.1 3)]) (rest := []) ⟨hx, hb, hml, hown, hts⟩ (kX10_oneOf hD hc1) (cwV 1 hts gX10_test_X10_oneOf rfl rfl rfl (by decide +kernel) ⟨Nat.le_of_ble_eq_true rfl, Nat.le_of_ble_eq_true rfl⟩) (c_preV hK hP hE hS fw0_0 rfl) rfl rfl hl.1 rfl (lv_room (Nat.le_of_ble_eq_true rfl)) dX10_test_3 ⟨Nat.zero_le _, Nat.zero_le _⟩) hS (fun H locs hP hS => ?_)
  refine lv_istore_n (lv' := [(1, .int r3), (0, .ref (ad w0))]) hx hb dX10_test_6 rfl hl (by decide) rfl (fun ls hl => ?_)
  refine lv_iload_n hx hb dX10_test_7 rfl (lv_at hl 0 rfl) ?_
  refine lv_if_ge (tgt := 13) hx hb dX10_test_8 (by decide) (fun c4 => ?_) (fun c4 => ?_)
  · have hf := c_it c4 hf
    refine lv_aload_n hx hb dX10_test_13 rfl (lv_at hl 1 rfl) ?_
    refine va_ldcS hx hb hown (q := E.1 4) (hE.2 4 (by decide)) dX10_test_14 ?_
    obtain ⟨g6, r7, hc5, hf⟩ := c_b2E hf
    refine c_goi (va_runV (As := [.ref (E.1 4)]) (rest := []) ⟨hx, hb, hml, hown, hts⟩ (kX10_oneOf hD hc5) (cwV 1 hts gX10_test_X10_oneOf rfl rfl rfl (by decide +kernel) ⟨Nat.le_of_ble_eq_true rfl, Nat.le_of_ble_eq_true rfl⟩) (c_preV hK hP hE hS fw0_0 rfl) rfl rfl hl.1 rfl (lv_room (Nat.le_of_ble_eq_true rfl)) dX10_test_16 ⟨Nat.zero_le _, Nat.zero_le _⟩) hS (fun H locs hP hS => ?_)
    refine lv_istore_n (lv' := [(2, .int r7), (1, .int r3), (0, .ref (ad w0))]) hx hb dX10_test_19 rfl hl (by decide) rfl (fun ls hl => ?_)
    refine lv_iload_n hx hb dX10_test_20 rfl (lv_at hl 0 rfl) ?_
    refine lv_if_ge (tgt := 26) hx hb dX10_test_21 (by decide) (fun c8 => ?_) (fun c8 => ?_)
    · have hf := c_it c8 hf
      refine lv_aload_n hx hb dX10_test_26 rfl (lv_at hl 2 rfl) ?_
      obtain ⟨g10, r11, hc9, hf⟩ := c_b2E hf
      refine c_goi (va_runV (As := []) (rest := []) ⟨hx, hb, hml, hown, hts⟩ (kX10_digits hD hc9) (cwV 0 hts gX10_test_X10_digits rfl rfl rfl (by decide +kernel) ⟨Nat.le_of_ble_eq_true rfl, Nat.le_of_ble_eq_true rfl⟩) (c_preV hK hP hE hS fw0_0 rfl) rfl rfl hl.1 rfl (lv_room (Nat.le_of_ble_eq_true rfl)) dX10_test_27 ⟨Nat.zero_le _, Nat.zero_le _⟩) hS (fun H locs hP hS => ?_)
      refine lv_istore_n (lv' := [(3, .int r11), (2, .int r7), (1, .int r3), (0, .ref (ad w0))]) hx hb dX10_test_30 rfl hl (by decide) rfl (fun ls hl => ?_)
      refine lv_iload_n hx hb dX10_test_31 rfl (lv_at hl 0 rfl) ?_
      refine lv_if_ge (tgt := 37) hx hb dX10_test_32 (by decide) (fun c12 => ?_) (fun c12 => ?_)
      · have hf := c_it c12 hf
        refine lv_aload_n hx hb dX10_test_37 rfl (lv_at hl 3 rfl) ?_
        refine lv_iload_n hx hb dX10_test_38 rfl (lv_at hl 2 rfl) ?_
        refine lv_iload_n hx hb dX10_test_39 rfl (lv_at hl 1 rfl) ?_
        refine lv_iload_n hx hb dX10_test_40 rfl (lv_at hl 0 rfl) ?_
        obtain ⟨g14, hc13, hf⟩ := c_bd hf
        refine c_gov (va_runV (As := [.int r3, .int r7, .int r11]) (rest := []) ⟨hx, hb, hml, hown, hts⟩ (kX10_step hD hc13) (cwV 3 hts gX10_test_X10_step rfl rfl rfl (by decide +kernel) ⟨Nat.le_of_ble_eq_true rfl, Nat.le_of_ble_eq_true rfl⟩) (c_preV hK hP hE hS fw0_0 rfl) rfl rfl hl.1 rfl (lv_room (Nat.le_of_ble_eq_true rfl)) dX10_test_41 ⟨Nat.zero_le _, Nat.zero_le _⟩) hS (fun H locs hP hS => ?_)
        refine lv_iconst (v := (1 : Int32)) hx hb dX10_test_44 (by decide) ?_
        exact c_iret hx hb hr hlk hP hS rfl (c_inj hf) dX10_test_45
      · have hf := c_ie c12 hf
        refine lv_iconst (v := (0 : Int32)) hx hb dX10_test_35 (by decide) ?_
        exact c_iret hx hb hr hlk hP hS rfl (c_inj hf) dX10_test_36
    · have hf := c_ie c8 hf
      refine lv_iconst (v := (0 : Int32)) hx hb dX10_test_24 (by decide) ?_
      exact c_iret hx hb hr hlk hP hS rfl (c_inj hf) dX10_test_25
  · have hf := c_ie c4 hf
    refine lv_iconst (v := (0 : Int32)) hx hb dX10_test_11 (by decide) ?_
    exact c_iret hx hb hr hlk hP hS rfl (c_inj hf) dX10_test_12
theorem dX10_holds_0 : decode cX10_holds 0 = .ok (.iload_n 1, 1) := by decide +kernel
theorem dX10_holds_1 : decode cX10_holds 1 = .ok (.ifCond .ne 14, 3) := by decide +kernel
theorem dX10_holds_4 : decode cX10_holds 4 = .ok (.iload_n 0, 1) := by decide +kernel
theorem dX10_holds_5 : decode cX10_holds 5 = .ok (.iload_n 2, 1) := by decide +kernel
theorem dX10_holds_6 : decode cX10_holds 6 = .ok (.if_icmp .ge 7, 3) := by decide +kernel
theorem dX10_holds_9 : decode cX10_holds 9 = .ok (.iconst 1, 1) := by decide +kernel
theorem dX10_holds_10 : decode cX10_holds 10 = .ok (.goto 4, 3) := by decide +kernel
theorem dX10_holds_13 : decode cX10_holds 13 = .ok (.iconst 0, 1) := by decide +kernel
theorem dX10_holds_14 : decode cX10_holds 14 = .ok (.ireturn, 1) := by decide +kernel
theorem dX10_holds_15 : decode cX10_holds 15 = .ok (.iload_n 1, 1) := by decide +kernel
theorem dX10_holds_16 : decode cX10_holds 16 = .ok (.iconst 1, 1) := by decide +kernel
theorem dX10_holds_17 : decode cX10_holds 17 = .ok (.if_icmp .ne 16, 3) := by decide +kernel
theorem dX10_holds_20 : decode cX10_holds 20 = .ok (.iload_n 0, 1) := by decide +kernel
theorem dX10_holds_21 : decode cX10_holds 21 = .ok (.iload_n 2, 1) := by decide +kernel
theorem dX10_holds_22 : decode cX10_holds 22 = .ok (.if_icmp .ne 7, 3) := by decide +kernel
theorem dX10_holds_25 : decode cX10_holds 25 = .ok (.iconst 1, 1) := by decide +kernel
theorem dX10_holds_26 : decode cX10_holds 26 = .ok (.goto 17, 3) := by decide +kernel
theorem dX10_holds_29 : decode cX10_holds 29 = .ok (.iconst 0, 1) := by decide +kernel
theorem dX10_holds_30 : decode cX10_holds 30 = .ok (.goto 13, 3) := by decide +kernel
theorem dX10_holds_33 : decode cX10_holds 33 = .ok (.iload_n 0, 1) := by decide +kernel
theorem dX10_holds_34 : decode cX10_holds 34 = .ok (.iload_n 2, 1) := by decide +kernel
theorem dX10_holds_35 : decode cX10_holds 35 = .ok (.if_icmp .le 7, 3) := by decide +kernel
theorem dX10_holds_38 : decode cX10_holds 38 = .ok (.iconst 1, 1) := by decide +kernel
theorem dX10_holds_39 : decode cX10_holds 39 = .ok (.goto 4, 3) := by decide +kernel
theorem dX10_holds_42 : decode cX10_holds 42 = .ok (.iconst 0, 1) := by decide +kernel
theorem dX10_holds_43 : decode cX10_holds 43 = .ok (.ireturn, 1) := by decide +kernel
def fX10_holds (a1 : Int32) (a2 : Int32) (a3 : Int32) : Int32 :=
  if a2 = 0 then (if a3 ≤ a1 then ((0 : Int32)) else ((1 : Int32))) else (if a2 = (1 : Int32) then (if a1 = a3 then ((1 : Int32)) else ((0 : Int32))) else (if a1 ≤ a3 then ((0 : Int32)) else ((1 : Int32))))
set_option maxRecDepth 100000 in
set_option maxHeartbeats 4000000 in
theorem kX10_holds {l : Launch} {D : va_G} {tc : Nat → ClassId} {ad : Nat → Nat} {A : Nat → Prop} {E : (Nat → Nat) × (Nat → Nat) × Nat} {T : List c_T} {a1 : Int32} {a2 : Int32} {a3 : Int32} {g : c_G} {r : Int32} (hf : fX10_holds a1 a2 a3 = r) : c_Mi l yX10_holds wsX10_holds (c_rm 0) D tc ad A E T ([.int a1, .int a2, .int a3] : List Value) g g r := by
  refine c_ofW (bytes := cX10_holds) (maxL := 3) (ret := (some .boolean)) (by decide) rfl (Nat.le_of_ble_eq_true rfl) ?_
  intro p e s m below meth c ls C hP hS hl
  unfold fX10_holds at hf
  obtain ⟨hx, hb, hr, hml, hts, hown, hlk, hK, hE⟩ := id C
  have hl : lv_has ls 3 [(0, .int a1), (1, .int a2), (2, .int a3)] := hl
  refine lv_iload_n hx hb dX10_holds_0 rfl (lv_at hl 1 rfl) ?_
  refine lv_if_ne (tgt := 15) hx hb dX10_holds_1 (by decide) (fun c1 => ?_) (fun c1 => ?_)
  · have hf := c_ie c1 hf
    refine lv_iload_n hx hb dX10_holds_15 rfl (lv_at hl 1 rfl) ?_
    refine lv_iconst (v := (1 : Int32)) hx hb dX10_holds_16 (by decide) ?_
    refine lv_icmp_ne (tgt := 33) hx hb dX10_holds_17 (by decide) (fun c2 => ?_) (fun c2 => ?_)
    · have hf := c_ie c2 hf
      refine lv_iload_n hx hb dX10_holds_33 rfl (lv_at hl 0 rfl) ?_
      refine lv_iload_n hx hb dX10_holds_34 rfl (lv_at hl 2 rfl) ?_
      refine lv_icmp_le (tgt := 42) hx hb dX10_holds_35 (by decide) (fun c3 => ?_) (fun c3 => ?_)
      · have hf := c_it c3 hf
        refine lv_iconst (v := (0 : Int32)) hx hb dX10_holds_42 (by decide) ?_
        exact c_iret hx hb hr hlk hP hS rfl ⟨rfl, hf⟩ dX10_holds_43
      · have hf := c_ie c3 hf
        refine lv_iconst (v := (1 : Int32)) hx hb dX10_holds_38 (by decide) ?_
        refine lv_goto (tgt := 43) hx hb dX10_holds_39 (by decide) ?_
        exact c_iret hx hb hr hlk hP hS rfl ⟨rfl, hf⟩ dX10_holds_43
    · have hf := c_it c2 hf
      refine lv_iload_n hx hb dX10_holds_20 rfl (lv_at hl 0 rfl) ?_
      refine lv_iload_n hx hb dX10_holds_21 rfl (lv_at hl 2 rfl) ?_
      refine lv_icmp_ne (tgt := 29) hx hb dX10_holds_22 (by decide) (fun c4 => ?_) (fun c4 => ?_)
      · have hf := c_ie c4 hf
        refine lv_iconst (v := (0 : Int32)) hx hb dX10_holds_29 (by decide) ?_
        refine lv_goto (tgt := 43) hx hb dX10_holds_30 (by decide) ?_
        exact c_iret hx hb hr hlk hP hS rfl ⟨rfl, hf⟩ dX10_holds_43
      · have hf := c_it c4 hf
        refine lv_iconst (v := (1 : Int32)) hx hb dX10_holds_25 (by decide) ?_
        refine lv_goto (tgt := 43) hx hb dX10_holds_26 (by decide) ?_
        exact c_iret hx hb hr hlk hP hS rfl ⟨rfl, hf⟩ dX10_holds_43
  · have hf := c_it c1 hf
    refine lv_iload_n hx hb dX10_holds_4 rfl (lv_at hl 0 rfl) ?_
    refine lv_iload_n hx hb dX10_holds_5 rfl (lv_at hl 2 rfl) ?_
    refine lv_icmp_ge (tgt := 13) hx hb dX10_holds_6 (by decide) (fun c5 => ?_) (fun c5 => ?_)
    · have hf := c_it c5 hf
      refine lv_iconst (v := (0 : Int32)) hx hb dX10_holds_13 (by decide) ?_
      exact c_iret hx hb hr hlk hP hS rfl ⟨rfl, hf⟩ dX10_holds_14
    · have hf := c_ie c5 hf
      refine lv_iconst (v := (1 : Int32)) hx hb dX10_holds_9 (by decide) ?_
      refine lv_goto (tgt := 14) hx hb dX10_holds_10 (by decide) ?_
      exact c_iret hx hb hr hlk hP hS rfl ⟨rfl, hf⟩ dX10_holds_14
theorem bX10_holds (a1 : Int32) (a2 : Int32) (a3 : Int32) : fX10_holds a1 a2 a3 = 0 ∨ fX10_holds a1 a2 a3 = 1 := by
  unfold fX10_holds
  first | (repeat' split) <;> first | exact Or.inl rfl | exact Or.inr rfl
theorem i_X10_weight_X10 : ∀ w ∈ u_ws RX10 TX10 8, w ∈ wsX10_weight := c_inP [9, 10, 11, 12, 13, 14, 15, 16] (by decide +kernel)
theorem dX10_weight_0 : decode cX10_weight 0 = .ok (.iconst 0, 1) := by decide +kernel
theorem dX10_weight_1 : decode cX10_weight 1 = .ok (.istore_n 2, 1) := by decide +kernel
theorem dX10_weight_2 : decode cX10_weight 2 = .ok (.iconst 0, 1) := by decide +kernel
theorem dX10_weight_3 : decode cX10_weight 3 = .ok (.istore_n 3, 1) := by decide +kernel
theorem dX10_weight_4 : decode cX10_weight 4 = .ok (.iconst 0, 1) := by decide +kernel
theorem dX10_weight_5 : decode cX10_weight 5 = .ok (.istore 4, 2) := by decide +kernel
theorem dX10_weight_7 : decode cX10_weight 7 = .ok (.iload 4, 2) := by decide +kernel
theorem dX10_weight_9 : decode cX10_weight 9 = .ok (.aload_n 0, 1) := by decide +kernel
theorem dX10_weight_10 : decode cX10_weight 10 = .ok (.getfield 38, 3) := by decide +kernel
theorem dX10_weight_13 : decode cX10_weight 13 = .ok (.if_icmp .ge 133, 3) := by decide +kernel
theorem dX10_weight_16 : decode cX10_weight 16 = .ok (.aload_n 0, 1) := by decide +kernel
theorem dX10_weight_17 : decode cX10_weight 17 = .ok (.getfield 15, 3) := by decide +kernel
theorem dX10_weight_20 : decode cX10_weight 20 = .ok (.iload 4, 2) := by decide +kernel
theorem dX10_weight_22 : decode cX10_weight 22 = .ok (.iaload, 1) := by decide +kernel
theorem dX10_weight_23 : decode cX10_weight 23 = .ok (.tableswitch 78 6 9 #[29, 36, 48, 59], 29) := by decide +kernel
theorem dX10_weight_52 : decode cX10_weight 52 = .ok (.iload_n 3, 1) := by decide +kernel
theorem dX10_weight_53 : decode cX10_weight 53 = .ok (.iconst 1, 1) := by decide +kernel
theorem dX10_weight_54 : decode cX10_weight 54 = .ok (.ixor, 1) := by decide +kernel
theorem dX10_weight_55 : decode cX10_weight 55 = .ok (.istore_n 3, 1) := by decide +kernel
theorem dX10_weight_56 : decode cX10_weight 56 = .ok (.goto 84, 3) := by decide +kernel
theorem dX10_weight_59 : decode cX10_weight 59 = .ok (.iload_n 3, 1) := by decide +kernel
theorem dX10_weight_60 : decode cX10_weight 60 = .ok (.iconst 1, 1) := by decide +kernel
theorem dX10_weight_61 : decode cX10_weight 61 = .ok (.ishr, 1) := by decide +kernel
theorem dX10_weight_62 : decode cX10_weight 62 = .ok (.iload_n 3, 1) := by decide +kernel
theorem dX10_weight_63 : decode cX10_weight 63 = .ok (.bipush (-2), 2) := by decide +kernel
theorem dX10_weight_65 : decode cX10_weight 65 = .ok (.ior, 1) := by decide +kernel
theorem dX10_weight_66 : decode cX10_weight 66 = .ok (.iand, 1) := by decide +kernel
theorem dX10_weight_67 : decode cX10_weight 67 = .ok (.istore_n 3, 1) := by decide +kernel
theorem dX10_weight_68 : decode cX10_weight 68 = .ok (.goto 72, 3) := by decide +kernel
theorem dX10_weight_71 : decode cX10_weight 71 = .ok (.iload_n 3, 1) := by decide +kernel
theorem dX10_weight_72 : decode cX10_weight 72 = .ok (.iconst 1, 1) := by decide +kernel
theorem dX10_weight_73 : decode cX10_weight 73 = .ok (.ishr, 1) := by decide +kernel
theorem dX10_weight_74 : decode cX10_weight 74 = .ok (.iload_n 3, 1) := by decide +kernel
theorem dX10_weight_75 : decode cX10_weight 75 = .ok (.iconst 1, 1) := by decide +kernel
theorem dX10_weight_76 : decode cX10_weight 76 = .ok (.iand, 1) := by decide +kernel
theorem dX10_weight_77 : decode cX10_weight 77 = .ok (.ior, 1) := by decide +kernel
theorem dX10_weight_78 : decode cX10_weight 78 = .ok (.istore_n 3, 1) := by decide +kernel
theorem dX10_weight_79 : decode cX10_weight 79 = .ok (.goto 61, 3) := by decide +kernel
theorem dX10_weight_82 : decode cX10_weight 82 = .ok (.iload_n 2, 1) := by decide +kernel
theorem dX10_weight_83 : decode cX10_weight 83 = .ok (.iload_n 3, 1) := by decide +kernel
theorem dX10_weight_84 : decode cX10_weight 84 = .ok (.iconst 1, 1) := by decide +kernel
theorem dX10_weight_85 : decode cX10_weight 85 = .ok (.iand, 1) := by decide +kernel
theorem dX10_weight_86 : decode cX10_weight 86 = .ok (.aload_n 0, 1) := by decide +kernel
theorem dX10_weight_87 : decode cX10_weight 87 = .ok (.getfield 22, 3) := by decide +kernel
theorem dX10_weight_90 : decode cX10_weight 90 = .ok (.iload 4, 2) := by decide +kernel
theorem dX10_weight_92 : decode cX10_weight 92 = .ok (.iaload, 1) := by decide +kernel
theorem dX10_weight_93 : decode cX10_weight 93 = .ok (.imul, 1) := by decide +kernel
theorem dX10_weight_94 : decode cX10_weight 94 = .ok (.iadd, 1) := by decide +kernel
theorem dX10_weight_95 : decode cX10_weight 95 = .ok (.istore_n 2, 1) := by decide +kernel
theorem dX10_weight_96 : decode cX10_weight 96 = .ok (.iconst 0, 1) := by decide +kernel
theorem dX10_weight_97 : decode cX10_weight 97 = .ok (.istore_n 3, 1) := by decide +kernel
theorem dX10_weight_98 : decode cX10_weight 98 = .ok (.goto 42, 3) := by decide +kernel
theorem dX10_weight_101 : decode cX10_weight 101 = .ok (.iload_n 3, 1) := by decide +kernel
theorem dX10_weight_102 : decode cX10_weight 102 = .ok (.iconst 1, 1) := by decide +kernel
theorem dX10_weight_103 : decode cX10_weight 103 = .ok (.ishl, 1) := by decide +kernel
theorem dX10_weight_104 : decode cX10_weight 104 = .ok (.aload_n 1, 1) := by decide +kernel
theorem dX10_weight_105 : decode cX10_weight 105 = .ok (.aload_n 0, 1) := by decide +kernel
theorem dX10_weight_106 : decode cX10_weight 106 = .ok (.getfield 15, 3) := by decide +kernel
theorem dX10_weight_109 : decode cX10_weight 109 = .ok (.iload 4, 2) := by decide +kernel
theorem dX10_weight_111 : decode cX10_weight 111 = .ok (.iaload, 1) := by decide +kernel
theorem dX10_weight_112 : decode cX10_weight 112 = .ok (.iaload, 1) := by decide +kernel
theorem dX10_weight_113 : decode cX10_weight 113 = .ok (.aload_n 0, 1) := by decide +kernel
theorem dX10_weight_114 : decode cX10_weight 114 = .ok (.getfield 19, 3) := by decide +kernel
theorem dX10_weight_117 : decode cX10_weight 117 = .ok (.iload 4, 2) := by decide +kernel
theorem dX10_weight_119 : decode cX10_weight 119 = .ok (.iaload, 1) := by decide +kernel
theorem dX10_weight_120 : decode cX10_weight 120 = .ok (.aload_n 0, 1) := by decide +kernel
theorem dX10_weight_121 : decode cX10_weight 121 = .ok (.getfield 22, 3) := by decide +kernel
theorem dX10_weight_124 : decode cX10_weight 124 = .ok (.iload 4, 2) := by decide +kernel
theorem dX10_weight_126 : decode cX10_weight 126 = .ok (.iaload, 1) := by decide +kernel
theorem dX10_weight_127 : decode cX10_weight 127 = .ok (.invokestatic 104, 3) := by decide +kernel
theorem dX10_weight_130 : decode cX10_weight 130 = .ok (.ifCond .eq 7, 3) := by decide +kernel
theorem dX10_weight_133 : decode cX10_weight 133 = .ok (.iconst 1, 1) := by decide +kernel
theorem dX10_weight_134 : decode cX10_weight 134 = .ok (.goto 4, 3) := by decide +kernel
theorem dX10_weight_137 : decode cX10_weight 137 = .ok (.iconst 0, 1) := by decide +kernel
theorem dX10_weight_138 : decode cX10_weight 138 = .ok (.ior, 1) := by decide +kernel
theorem dX10_weight_139 : decode cX10_weight 139 = .ok (.istore_n 3, 1) := by decide +kernel
theorem dX10_weight_140 : decode cX10_weight 140 = .ok (.iinc 4 1, 3) := by decide +kernel
theorem dX10_weight_143 : decode cX10_weight 143 = .ok (.goto (-136), 3) := by decide +kernel
theorem dX10_weight_146 : decode cX10_weight 146 = .ok (.iload_n 2, 1) := by decide +kernel
theorem dX10_weight_147 : decode cX10_weight 147 = .ok (.ireturn, 1) := by decide +kernel
set_option maxRecDepth 20000 in
theorem ggX10_weight_X10_holds : GoodIn wsX10_weight wsX10_holds := goodIn_r _ [8] (by decide +kernel) (by decide +kernel)
set_option maxRecDepth 20000 in
theorem gX10_weight_X10_holds : GoodIn wsX10_weight (va_wsS RX10 104 yX10_holds wsX10_holds) := goodIn_app (goodIn_of _ (by decide +kernel)) ggX10_weight_X10_holds
def fX10_weight_140 (rec7 : Int32 → Int32 → Int32 → c_G → Option (Int32)) (w0 : Nat) (x2 : Int32) (x3 : Int32) (x4 : Int32) (g : c_G) : Option (Int32) :=
  c_let (x4 + (1 : Int32)) fun v140001 => rec7 x2 x3 v140001 g
set_option maxRecDepth 100000 in
set_option maxHeartbeats 4000000 in
theorem jX10_weight_140 {p : Program} {l : Launch} {e : Env} {s : State} {m : MethodId} {below : List Frame} {meth : Method} {c : Code} {D : va_G} {tc : Nat → ClassId} {ad : Nat → Nat} {A : Nat → Prop} {E : (Nat → Nat) × (Nat → Nat) × Nat} {w0 : Nat} {r : Int32} (C : c_C p s m meth c D tc A E RX10 wsX10_weight cX10_weight 5 (some .int) ([.ref (ad w0), .ref (ad 3)] : List Value).toArray) (hD : c_D A ad TC) (hq_w0 : c_isV w0 = true) {rec7 : Int32 → Int32 → Int32 → c_G → Option (Int32)} (hrec7 : ∀ (x2 : Int32) (x3 : Int32) (x4 : Int32) (g : c_G), rec7 x2 x3 x4 g = some r → ∀ (H : Heap) (locs : List Loc), va_P D vwCl (c_ws tc ad TC g) H → va_S A s.heap H locs → ∀ ls : Array Slot, lv_has ls 5 [(0, .ref (ad w0)), (1, .ref (ad 3)), (2, .int x2), (3, .int x3), (4, .int x4)] → W p l e (c_rm 1) s m ([.ref (ad w0), .ref (ad 3)] : List Value).toArray below meth c H locs 0 0 (MQ below (va_Qi (fun (x : Int32) (_ : Unit) => x = r) (fun _ t => va_P D vwCl (c_ws tc ad TC g) t.heap) A) ([.ref (ad w0), .ref (ad 3)] : List Value).toArray s 0 0 A) (F0 m 7 ls [])) : ∀ (x2 : Int32) (x3 : Int32) (x4 : Int32) (g : c_G), fX10_weight_140 rec7 w0 x2 x3 x4 g = some r → ∀ (H : Heap) (locs : List Loc), va_P D vwCl (c_ws tc ad TC g) H → va_S A s.heap H locs → ∀ ls : Array Slot, lv_has ls 5 [(0, .ref (ad w0)), (1, .ref (ad 3)), (2, .int x2), (3, .int x3), (4, .int x4)] → W p l e (c_rm 1) s m ([.ref (ad w0), .ref (ad 3)] : List Value).toArray below meth c H locs 0 0 (MQ below (va_Qi (fun (x : Int32) (_ : Unit) => x = r) (fun _ t => va_P D vwCl (c_ws tc ad TC g) t.heap) A) ([.ref (ad w0), .ref (ad 3)] : List Value).toArray s 0 0 A) (F0 m 140 ls []) := by
  obtain ⟨hx, hb, hr, hml, hts, hown, hlk, hK, hE⟩ := id C
  obtain ⟨fw0_0, fw0_1, fw0_2, fw0_3, fw0_4⟩ := c_isVE hq_w0
  intro x2 x3 x4 g hf H locs hP hS ls hl
  unfold fX10_weight_140 at hf
  obtain ⟨v140001, ev140001, hf⟩ := c_letE hf
  refine lv_iinc (v := v140001) (lv' := [(4, .int v140001), (0, .ref (ad w0)), (1, .ref (ad 3)), (2, .int x2), (3, .int x3)]) hx hb dX10_weight_140 hl (k := 4) rfl (by rw [ev140001]; rfl) (by decide) rfl (fun ls hl => ?_)
  refine lv_goto (tgt := 7) hx hb dX10_weight_143 (by decide) ?_
  exact hrec7 x2 x3 v140001 g hf _ _ hP hS _ (lv_sub hl [1, 2, 3, 4, 0] rfl)
def fX10_weight_138 (rec7 : Int32 → Int32 → Int32 → c_G → Option (Int32)) (w0 : Nat) (x2 : Int32) (x4 : Int32) (y0 : Int32) (y1 : Int32) (g : c_G) : Option (Int32) :=
  c_let ((y0 ||| y1)) fun v138001 => fX10_weight_140 rec7 w0 x2 v138001 x4 g
set_option maxRecDepth 100000 in
set_option maxHeartbeats 4000000 in
theorem jX10_weight_138 {p : Program} {l : Launch} {e : Env} {s : State} {m : MethodId} {below : List Frame} {meth : Method} {c : Code} {D : va_G} {tc : Nat → ClassId} {ad : Nat → Nat} {A : Nat → Prop} {E : (Nat → Nat) × (Nat → Nat) × Nat} {w0 : Nat} {r : Int32} (C : c_C p s m meth c D tc A E RX10 wsX10_weight cX10_weight 5 (some .int) ([.ref (ad w0), .ref (ad 3)] : List Value).toArray) (hD : c_D A ad TC) (hq_w0 : c_isV w0 = true) {rec7 : Int32 → Int32 → Int32 → c_G → Option (Int32)} (hrec7 : ∀ (x2 : Int32) (x3 : Int32) (x4 : Int32) (g : c_G), rec7 x2 x3 x4 g = some r → ∀ (H : Heap) (locs : List Loc), va_P D vwCl (c_ws tc ad TC g) H → va_S A s.heap H locs → ∀ ls : Array Slot, lv_has ls 5 [(0, .ref (ad w0)), (1, .ref (ad 3)), (2, .int x2), (3, .int x3), (4, .int x4)] → W p l e (c_rm 1) s m ([.ref (ad w0), .ref (ad 3)] : List Value).toArray below meth c H locs 0 0 (MQ below (va_Qi (fun (x : Int32) (_ : Unit) => x = r) (fun _ t => va_P D vwCl (c_ws tc ad TC g) t.heap) A) ([.ref (ad w0), .ref (ad 3)] : List Value).toArray s 0 0 A) (F0 m 7 ls [])) : ∀ (x2 : Int32) (x4 : Int32) (y0 : Int32) (y1 : Int32) (g : c_G), fX10_weight_138 rec7 w0 x2 x4 y0 y1 g = some r → ∀ (H : Heap) (locs : List Loc), va_P D vwCl (c_ws tc ad TC g) H → va_S A s.heap H locs → ∀ ls : Array Slot, lv_has ls 5 [(0, .ref (ad w0)), (1, .ref (ad 3)), (2, .int x2), (4, .int x4)] → W p l e (c_rm 1) s m ([.ref (ad w0), .ref (ad 3)] : List Value).toArray below meth c H locs 0 0 (MQ below (va_Qi (fun (x : Int32) (_ : Unit) => x = r) (fun _ t => va_P D vwCl (c_ws tc ad TC g) t.heap) A) ([.ref (ad w0), .ref (ad 3)] : List Value).toArray s 0 0 A) (F0 m 138 ls [.int y1, .int y0]) := by
  obtain ⟨hx, hb, hr, hml, hts, hown, hlk, hK, hE⟩ := id C
  obtain ⟨fw0_0, fw0_1, fw0_2, fw0_3, fw0_4⟩ := c_isVE hq_w0
  intro x2 x4 y0 y1 g hf H locs hP hS ls hl
  unfold fX10_weight_138 at hf
  refine lv_ior hx hb dX10_weight_138 ?_
  obtain ⟨v138001, ev138001, hf⟩ := c_letE hf
  refine c_topi ev138001 ?_
  refine lv_istore_n (lv' := [(3, .int v138001), (0, .ref (ad w0)), (1, .ref (ad 3)), (2, .int x2), (4, .int x4)]) hx hb dX10_weight_139 rfl hl (by decide) rfl (fun ls hl => ?_)
  exact jX10_weight_140 C hD hq_w0 hrec7 x2 v138001 x4 g hf _ _ hP hS _ (lv_sub hl [1, 2, 3, 0, 4] rfl)
def fX10_weight_7  (w0 : Nat) : Nat → Int32 → Int32 → Int32 → c_G → Option (Int32)
  | 0, _, _, _, _ => none
  | n + 1, x2, x3, x4, g => if (g.1 w0 6) ≤ x4 then (some x2) else (if c_in (x4) (100) = true then if (g.1 (w0 + 1) (x4).toNatClampNeg) = (6 : Int32) then (c_let ((x3 ^^^ (1 : Int32))) fun v7004 => fX10_weight_140 (fX10_weight_7 w0 n) w0 x2 v7004 x4 g) else if (g.1 (w0 + 1) (x4).toNatClampNeg) = (7 : Int32) then (c_let (((x3 >>> ((1 : Int32) &&& 31)) &&& (x3 ||| (-2 : Int32)))) fun v7006 => fX10_weight_140 (fX10_weight_7 w0 n) w0 x2 v7006 x4 g) else if (g.1 (w0 + 1) (x4).toNatClampNeg) = (8 : Int32) then (c_let (((x3 >>> ((1 : Int32) &&& 31)) ||| (x3 &&& (1 : Int32)))) fun v7008 => fX10_weight_140 (fX10_weight_7 w0 n) w0 x2 v7008 x4 g) else if (g.1 (w0 + 1) (x4).toNatClampNeg) = (9 : Int32) then (c_let ((x2 + ((x3 &&& (1 : Int32)) * (g.1 (w0 + 3) (x4).toNatClampNeg)))) fun v7010 => fX10_weight_140 (fX10_weight_7 w0 n) w0 v7010 ((0 : Int32)) x4 g) else (if c_in ((g.1 (w0 + 1) (x4).toNatClampNeg)) (8) = true then if (fX10_holds ((g.1 3 ((g.1 (w0 + 1) (x4).toNatClampNeg)).toNatClampNeg)) ((g.1 (w0 + 2) (x4).toNatClampNeg)) ((g.1 (w0 + 3) (x4).toNatClampNeg))) = 0 then (fX10_weight_138 (fX10_weight_7 w0 n) w0 x2 x4 ((x3 <<< ((1 : Int32) &&& 31))) ((0 : Int32)) g) else (fX10_weight_138 (fX10_weight_7 w0 n) w0 x2 x4 ((x3 <<< ((1 : Int32) &&& 31))) ((1 : Int32)) g) else none) else none)
set_option maxRecDepth 100000 in
set_option maxHeartbeats 4000000 in
theorem jX10_weight_7 {p : Program} {l : Launch} {e : Env} {s : State} {m : MethodId} {below : List Frame} {meth : Method} {c : Code} {D : va_G} {tc : Nat → ClassId} {ad : Nat → Nat} {A : Nat → Prop} {E : (Nat → Nat) × (Nat → Nat) × Nat} {w0 : Nat} {r : Int32} (C : c_C p s m meth c D tc A E RX10 wsX10_weight cX10_weight 5 (some .int) ([.ref (ad w0), .ref (ad 3)] : List Value).toArray) (hD : c_D A ad TC) (hq_w0 : c_isV w0 = true)  : ∀ (n : Nat) (x2 : Int32) (x3 : Int32) (x4 : Int32) (g : c_G), fX10_weight_7 w0 n x2 x3 x4 g = some r → ∀ (H : Heap) (locs : List Loc), va_P D vwCl (c_ws tc ad TC g) H → va_S A s.heap H locs → ∀ ls : Array Slot, lv_has ls 5 [(0, .ref (ad w0)), (1, .ref (ad 3)), (2, .int x2), (3, .int x3), (4, .int x4)] → W p l e (c_rm 1) s m ([.ref (ad w0), .ref (ad 3)] : List Value).toArray below meth c H locs 0 0 (MQ below (va_Qi (fun (x : Int32) (_ : Unit) => x = r) (fun _ t => va_P D vwCl (c_ws tc ad TC g) t.heap) A) ([.ref (ad w0), .ref (ad 3)] : List Value).toArray s 0 0 A) (F0 m 7 ls []) := by
  obtain ⟨hx, hb, hr, hml, hts, hown, hlk, hK, hE⟩ := id C
  obtain ⟨fw0_0, fw0_1, fw0_2, fw0_3, fw0_4⟩ := c_isVE hq_w0
  intro n
  induction n with
  | zero =>
    intro x2 x3 x4 g hf
    cases hf
  | succ n ih =>
    intro x2 x3 x4 g hf H locs hP hS ls hl
    unfold fX10_weight_7 at hf
    refine lv_iload hx hb dX10_weight_7 (lv_at hl 4 rfl) ?_
    refine lv_aload_n hx hb dX10_weight_9 rfl (lv_at hl 0 rfl) ?_
    refine c_get hx hb hts i_X10_weight_X10 hown hK hP w0 fw0_0 rfl 6 (by decide) (hts _ (List.mem_of_getElem? (i := 1) rfl)) (fun _ h9 => h9) rfl (v := .int (g.1 w0 6)) rfl dX10_weight_10 ?_
    refine lv_icmp_ge (tgt := 146) hx hb dX10_weight_13 (by decide) (fun c7001 => ?_) (fun c7001 => ?_)
    · have hf := c_it c7001 hf
      refine lv_iload_n hx hb dX10_weight_146 rfl (lv_at hl 2 rfl) ?_
      exact c_iret hx hb hr hlk hP hS rfl ⟨rfl, Option.some.inj hf⟩ dX10_weight_147
    · have hf := c_ie c7001 hf
      refine lv_aload_n hx hb dX10_weight_16 rfl (lv_at hl 0 rfl) ?_
      refine c_get hx hb hts i_X10_weight_X10 hown hK hP w0 fw0_0 rfl 3 (by decide) (hts _ (List.mem_of_getElem? (i := 2) rfl)) (fun _ h9 => h9) rfl (v := .ref (ad (w0 + 1))) rfl dX10_weight_17 ?_
      refine lv_iload hx hb dX10_weight_20 (lv_at hl 4 rfl) ?_
      obtain ⟨hi7002, hf⟩ := c_gd hf
      refine c_iald (j := (x4).toNatClampNeg) hx hb hK hP (w0 + 1) fw0_1 rfl (c_inV hi7002) dX10_weight_22 ?_
      by_cases c7003 : (g.1 (w0 + 1) (x4).toNatClampNeg) = (6 : Int32)
      · have hf := c_it c7003 hf
        refine lv_tableIn (off := 29) (tgt := 52) hx hb dX10_weight_23 (by rw [c7003]; decide) (by rw [c7003]; decide) (by rw [c7003]; rfl) (by decide) ?_
        refine lv_iload_n hx hb dX10_weight_52 rfl (lv_at hl 3 rfl) ?_
        refine lv_iconst (v := (1 : Int32)) hx hb dX10_weight_53 (by decide) ?_
        refine lv_ixor hx hb dX10_weight_54 ?_
        obtain ⟨v7004, ev7004, hf⟩ := c_letE hf
        refine c_topi ev7004 ?_
        refine lv_istore_n (lv' := [(3, .int v7004), (0, .ref (ad w0)), (1, .ref (ad 3)), (2, .int x2), (4, .int x4)]) hx hb dX10_weight_55 rfl hl (by decide) rfl (fun ls hl => ?_)
        refine lv_goto (tgt := 140) hx hb dX10_weight_56 (by decide) ?_
        exact jX10_weight_140 C hD hq_w0 ih x2 v7004 x4 g hf _ _ hP hS _ (lv_sub hl [1, 2, 3, 0, 4] rfl)
      have hf := c_ie c7003 hf
      by_cases c7005 : (g.1 (w0 + 1) (x4).toNatClampNeg) = (7 : Int32)
      · have hf := c_it c7005 hf
        refine lv_tableIn (off := 36) (tgt := 59) hx hb dX10_weight_23 (by rw [c7005]; decide) (by rw [c7005]; decide) (by rw [c7005]; rfl) (by decide) ?_
        refine lv_iload_n hx hb dX10_weight_59 rfl (lv_at hl 3 rfl) ?_
        refine lv_iconst (v := (1 : Int32)) hx hb dX10_weight_60 (by decide) ?_
        refine lv_ishr hx hb dX10_weight_61 ?_
        refine lv_iload_n hx hb dX10_weight_62 rfl (lv_at hl 3 rfl) ?_
        refine lv_bipush (v := (-2 : Int32)) hx hb dX10_weight_63 (by decide) ?_
        refine lv_ior hx hb dX10_weight_65 ?_
        refine lv_iand hx hb dX10_weight_66 ?_
        obtain ⟨v7006, ev7006, hf⟩ := c_letE hf
        refine c_topi ev7006 ?_
        refine lv_istore_n (lv' := [(3, .int v7006), (0, .ref (ad w0)), (1, .ref (ad 3)), (2, .int x2), (4, .int x4)]) hx hb dX10_weight_67 rfl hl (by decide) rfl (fun ls hl => ?_)
        refine lv_goto (tgt := 140) hx hb dX10_weight_68 (by decide) ?_
        exact jX10_weight_140 C hD hq_w0 ih x2 v7006 x4 g hf _ _ hP hS _ (lv_sub hl [1, 2, 3, 0, 4] rfl)
      have hf := c_ie c7005 hf
      by_cases c7007 : (g.1 (w0 + 1) (x4).toNatClampNeg) = (8 : Int32)
      · have hf := c_it c7007 hf
        refine lv_tableIn (off := 48) (tgt := 71) hx hb dX10_weight_23 (by rw [c7007]; decide) (by rw [c7007]; decide) (by rw [c7007]; rfl) (by decide) ?_
        refine lv_iload_n hx hb dX10_weight_71 rfl (lv_at hl 3 rfl) ?_
        refine lv_iconst (v := (1 : Int32)) hx hb dX10_weight_72 (by decide) ?_
        refine lv_ishr hx hb dX10_weight_73 ?_
        refine lv_iload_n hx hb dX10_weight_74 rfl (lv_at hl 3 rfl) ?_
        refine lv_iconst (v := (1 : Int32)) hx hb dX10_weight_75 (by decide) ?_
        refine lv_iand hx hb dX10_weight_76 ?_
        refine lv_ior hx hb dX10_weight_77 ?_
        obtain ⟨v7008, ev7008, hf⟩ := c_letE hf
        refine c_topi ev7008 ?_
        refine lv_istore_n (lv' := [(3, .int v7008), (0, .ref (ad w0)), (1, .ref (ad 3)), (2, .int x2), (4, .int x4)]) hx hb dX10_weight_78 rfl hl (by decide) rfl (fun ls hl => ?_)
        refine lv_goto (tgt := 140) hx hb dX10_weight_79 (by decide) ?_
        exact jX10_weight_140 C hD hq_w0 ih x2 v7008 x4 g hf _ _ hP hS _ (lv_sub hl [1, 2, 3, 0, 4] rfl)
      have hf := c_ie c7007 hf
      by_cases c7009 : (g.1 (w0 + 1) (x4).toNatClampNeg) = (9 : Int32)
      · have hf := c_it c7009 hf
        refine lv_tableIn (off := 59) (tgt := 82) hx hb dX10_weight_23 (by rw [c7009]; decide) (by rw [c7009]; decide) (by rw [c7009]; rfl) (by decide) ?_
        refine lv_iload_n hx hb dX10_weight_82 rfl (lv_at hl 2 rfl) ?_
        refine lv_iload_n hx hb dX10_weight_83 rfl (lv_at hl 3 rfl) ?_
        refine lv_iconst (v := (1 : Int32)) hx hb dX10_weight_84 (by decide) ?_
        refine lv_iand hx hb dX10_weight_85 ?_
        refine lv_aload_n hx hb dX10_weight_86 rfl (lv_at hl 0 rfl) ?_
        refine c_get hx hb hts i_X10_weight_X10 hown hK hP w0 fw0_0 rfl 5 (by decide) (hts _ (List.mem_of_getElem? (i := 3) rfl)) (fun _ h9 => h9) rfl (v := .ref (ad (w0 + 3))) rfl dX10_weight_87 ?_
        refine lv_iload hx hb dX10_weight_90 (lv_at hl 4 rfl) ?_
        refine c_iald (j := (x4).toNatClampNeg) hx hb hK hP (w0 + 3) fw0_3 rfl (c_inV hi7002) dX10_weight_92 ?_
        refine lv_imul hx hb dX10_weight_93 ?_
        refine lv_iadd hx hb dX10_weight_94 ?_
        obtain ⟨v7010, ev7010, hf⟩ := c_letE hf
        refine c_topi ev7010 ?_
        refine lv_istore_n (lv' := [(2, .int v7010), (0, .ref (ad w0)), (1, .ref (ad 3)), (3, .int x3), (4, .int x4)]) hx hb dX10_weight_95 rfl hl (by decide) rfl (fun ls hl => ?_)
        refine lv_iconst (v := (0 : Int32)) hx hb dX10_weight_96 (by decide) ?_
        refine lv_istore_n (lv' := [(3, .int (0 : Int32)), (2, .int v7010), (0, .ref (ad w0)), (1, .ref (ad 3)), (4, .int x4)]) hx hb dX10_weight_97 rfl hl (by decide) rfl (fun ls hl => ?_)
        refine lv_goto (tgt := 140) hx hb dX10_weight_98 (by decide) ?_
        exact jX10_weight_140 C hD hq_w0 ih v7010 ((0 : Int32)) x4 g hf _ _ hP hS _ (lv_sub hl [2, 3, 1, 0, 4] rfl)
      have hf := c_ie c7009 hf
      have h9 := c_sw (x := (g.1 (w0 + 1) (x4).toNatClampNeg)) (lo := 6) (n := 9) (by decide) (fun k hj hk => by rcases (show k = 6 ∨ k = 7 ∨ k = 8 ∨ k = 9 by omega) with rfl | rfl | rfl | rfl <;> assumption)
      refine lv_tableOut (tgt := 101) hx hb dX10_weight_23 (by omega) (by decide) ?_
      refine lv_iload_n hx hb dX10_weight_101 rfl (lv_at hl 3 rfl) ?_
      refine lv_iconst (v := (1 : Int32)) hx hb dX10_weight_102 (by decide) ?_
      refine lv_ishl hx hb dX10_weight_103 ?_
      refine lv_aload_n hx hb dX10_weight_104 rfl (lv_at hl 1 rfl) ?_
      refine lv_aload_n hx hb dX10_weight_105 rfl (lv_at hl 0 rfl) ?_
      refine c_get hx hb hts i_X10_weight_X10 hown hK hP w0 fw0_0 rfl 3 (by decide) (hts _ (List.mem_of_getElem? (i := 2) rfl)) (fun _ h9 => h9) rfl (v := .ref (ad (w0 + 1))) rfl dX10_weight_106 ?_
      refine lv_iload hx hb dX10_weight_109 (lv_at hl 4 rfl) ?_
      refine c_iald (j := (x4).toNatClampNeg) hx hb hK hP (w0 + 1) fw0_1 rfl (c_inV hi7002) dX10_weight_111 ?_
      obtain ⟨hi7011, hf⟩ := c_gd hf
      refine c_iald (j := ((g.1 (w0 + 1) (x4).toNatClampNeg)).toNatClampNeg) hx hb hK hP 3 tC3 rfl (c_inV hi7011) dX10_weight_112 ?_
      refine lv_aload_n hx hb dX10_weight_113 rfl (lv_at hl 0 rfl) ?_
      refine c_get hx hb hts i_X10_weight_X10 hown hK hP w0 fw0_0 rfl 4 (by decide) (hts _ (List.mem_of_getElem? (i := 4) rfl)) (fun _ h9 => h9) rfl (v := .ref (ad (w0 + 2))) rfl dX10_weight_114 ?_
      refine lv_iload hx hb dX10_weight_117 (lv_at hl 4 rfl) ?_
      refine c_iald (j := (x4).toNatClampNeg) hx hb hK hP (w0 + 2) fw0_2 rfl (c_inV hi7002) dX10_weight_119 ?_
      refine lv_aload_n hx hb dX10_weight_120 rfl (lv_at hl 0 rfl) ?_
      refine c_get hx hb hts i_X10_weight_X10 hown hK hP w0 fw0_0 rfl 5 (by decide) (hts _ (List.mem_of_getElem? (i := 3) rfl)) (fun _ h9 => h9) rfl (v := .ref (ad (w0 + 3))) rfl dX10_weight_121 ?_
      refine lv_iload hx hb dX10_weight_124 (lv_at hl 4 rfl) ?_
      refine c_iald (j := (x4).toNatClampNeg) hx hb hK hP (w0 + 3) fw0_3 rfl (c_inV hi7002) dX10_weight_126 ?_
      refine c_goi (va_runS (As := [.int (g.1 3 ((g.1 (w0 + 1) (x4).toNatClampNeg)).toNatClampNeg), .int (g.1 (w0 + 2) (x4).toNatClampNeg), .int (g.1 (w0 + 3) (x4).toNatClampNeg)]) (rest := [.int (x3 <<< ((1 : Int32) &&& 31))]) ⟨hx, hb, hml, hown, hts⟩ (kX10_holds (T := TC) (g := g) rfl) (va_cwS 3 hts gX10_weight_X10_holds rfl rfl rfl (by decide +kernel) ⟨Nat.le_of_ble_eq_true rfl, Nat.le_of_ble_eq_true rfl⟩) (c_preS hK hP hE hS) rfl rfl hl.1 rfl (lv_room (Nat.le_of_ble_eq_true rfl)) dX10_weight_127 ⟨Nat.zero_le _, Nat.zero_le _⟩) hS (fun H locs hP hS => ?_)
      refine lv_if_eq (tgt := 137) hx hb dX10_weight_130 (by decide) (fun c7012 => ?_) (fun c7012 => ?_)
      · have hf := c_it c7012 hf
        refine lv_iconst (v := (0 : Int32)) hx hb dX10_weight_137 (by decide) ?_
        exact jX10_weight_138 C hD hq_w0 ih x2 x4 ((x3 <<< ((1 : Int32) &&& 31))) ((0 : Int32)) g hf _ _ hP hS _ (lv_sub hl [0, 1, 2, 4] rfl)
      · have hf := c_ie c7012 hf
        refine lv_iconst (v := (1 : Int32)) hx hb dX10_weight_133 (by decide) ?_
        refine lv_goto (tgt := 138) hx hb dX10_weight_134 (by decide) ?_
        exact jX10_weight_138 C hD hq_w0 ih x2 x4 ((x3 <<< ((1 : Int32) &&& 31))) ((1 : Int32)) g hf _ _ hP hS _ (lv_sub hl [0, 1, 2, 4] rfl)
def fX10_weight (g : c_G) (w0 : Nat) : Option (Int32) :=
  if c_isV w0 = true then (fX10_weight_7 w0 c_F ((0 : Int32)) ((0 : Int32)) ((0 : Int32)) g) else none
set_option maxRecDepth 100000 in
set_option maxHeartbeats 4000000 in
theorem kX10_weight {l : Launch} {D : va_G} {tc : Nat → ClassId} {ad : Nat → Nat} {A : Nat → Prop} {E : (Nat → Nat) × (Nat → Nat) × Nat} (hD : c_D A ad TC) {w0 : Nat} {g : c_G} {r : Int32} (hf : fX10_weight g w0 = some r) : c_Mi l yX10_weight wsX10_weight (c_rm 1) D tc ad A E TC ([.ref (ad w0), .ref (ad 3)] : List Value) g g r := by
  refine c_ofW (bytes := cX10_weight) (maxL := 5) (ret := (some .int)) (by decide) rfl (Nat.le_of_ble_eq_true rfl) ?_
  intro p e s m below meth c ls C hP hS hl
  unfold fX10_weight at hf
  obtain ⟨hq_w0, hf⟩ := c_gd hf
  obtain ⟨hx, hb, hr, hml, hts, hown, hlk, hK, hE⟩ := id C
  obtain ⟨fw0_0, fw0_1, fw0_2, fw0_3, fw0_4⟩ := c_isVE hq_w0
  have hl : lv_has ls 5 [(0, .ref (ad w0)), (1, .ref (ad 3))] := hl
  refine lv_iconst (v := (0 : Int32)) hx hb dX10_weight_0 (by decide) ?_
  refine lv_istore_n (lv' := [(2, .int (0 : Int32)), (0, .ref (ad w0)), (1, .ref (ad 3))]) hx hb dX10_weight_1 rfl hl (by decide) rfl (fun ls hl => ?_)
  refine lv_iconst (v := (0 : Int32)) hx hb dX10_weight_2 (by decide) ?_
  refine lv_istore_n (lv' := [(3, .int (0 : Int32)), (2, .int (0 : Int32)), (0, .ref (ad w0)), (1, .ref (ad 3))]) hx hb dX10_weight_3 rfl hl (by decide) rfl (fun ls hl => ?_)
  refine lv_iconst (v := (0 : Int32)) hx hb dX10_weight_4 (by decide) ?_
  refine lv_istore (lv' := [(4, .int (0 : Int32)), (3, .int (0 : Int32)), (2, .int (0 : Int32)), (0, .ref (ad w0)), (1, .ref (ad 3))]) hx hb dX10_weight_5 hl (by decide) rfl (fun ls hl => ?_)
  exact jX10_weight_7 C hD hq_w0 c_F ((0 : Int32)) ((0 : Int32)) ((0 : Int32)) g hf _ _ hP hS _ (lv_sub hl [3, 4, 2, 1, 0] rfl)
