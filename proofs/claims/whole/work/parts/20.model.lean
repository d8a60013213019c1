theorem dX12_isIn_0 : decode cX12_isIn 0 = .ok (.iload_n 0, 1) := by decide +kernel
theorem dX12_isIn_1 : decode cX12_isIn 1 = .ok (.iload_n 1, 1) := by decide +kernel
theorem dX12_isIn_2 : decode cX12_isIn 2 = .ok (.if_icmp .lt 12, 3) := by decide +kernel
theorem dX12_isIn_5 : decode cX12_isIn 5 = .ok (.iload_n 0, 1) := by decide +kernel
theorem dX12_isIn_6 : decode cX12_isIn 6 = .ok (.iload_n 2, 1) := by decide +kernel
theorem dX12_isIn_7 : decode cX12_isIn 7 = .ok (.if_icmp .gt 7, 3) := by decide +kernel
theorem dX12_isIn_10 : decode cX12_isIn 10 = .ok (.iconst 1, 1) := by decide +kernel
theorem dX12_isIn_11 : decode cX12_isIn 11 = .ok (.goto 4, 3) := by decide +kernel
theorem dX12_isIn_14 : decode cX12_isIn 14 = .ok (.iconst 0, 1) := by decide +kernel
theorem dX12_isIn_15 : decode cX12_isIn 15 = .ok (.ireturn, 1) := by decide +kernel
def fX12_isIn (a1 : Int32) (a2 : Int32) (a3 : Int32) : Int32 :=
  if a1 < a2 then ((0 : Int32)) else (if a3 < a1 then ((0 : Int32)) else ((1 : Int32)))
set_option maxRecDepth 100000 in
set_option maxHeartbeats 4000000 in
theorem kX12_isIn {l : Launch} {D : va_G} {tc : Nat → ClassId} {ad : Nat → Nat} {A : Nat → Prop} {E : (Nat → Nat) × (Nat → Nat) × Nat} {T : List c_T} {a1 : Int32} {a2 : Int32} {a3 : Int32} {g : c_G} {r : Int32} (hf : fX12_isIn a1 a2 a3 = r) : c_Mi l yX12_isIn wsX12_isIn (c_rm 0) D tc ad A E T ([.int a1, .int a2, .int a3] : List Value) g g r := by
  refine c_ofW (bytes := cX12_isIn) (maxL := 3) (ret := (some .boolean)) (by decide) rfl (Nat.le_of_ble_eq_true rfl) ?_
  intro p e s m below meth c ls C hP hS hl
  unfold fX12_isIn at hf
  obtain ⟨hx, hb, hr, hml, hts, hown, hlk, hK, hE⟩ := id C
  have hl : lv_has ls 3 [(0, .int a1), (1, .int a2), (2, .int a3)] := hl
  refine lv_iload_n hx hb dX12_isIn_0 rfl (lv_at hl 0 rfl) ?_
  refine lv_iload_n hx hb dX12_isIn_1 rfl (lv_at hl 1 rfl) ?_
  refine lv_icmp_lt (tgt := 14) hx hb dX12_isIn_2 (by decide) (fun c1 => ?_) (fun c1 => ?_)
  · have hf := c_it c1 hf
    refine lv_iconst (v := (0 : Int32)) hx hb dX12_isIn_14 (by decide) ?_
    exact c_iret hx hb hr hlk hP hS rfl ⟨rfl, hf⟩ dX12_isIn_15
  · have hf := c_ie c1 hf
    refine lv_iload_n hx hb dX12_isIn_5 rfl (lv_at hl 0 rfl) ?_
    refine lv_iload_n hx hb dX12_isIn_6 rfl (lv_at hl 2 rfl) ?_
    refine lv_icmp_gt (tgt := 14) hx hb dX12_isIn_7 (by decide) (fun c2 => ?_) (fun c2 => ?_)
    · have hf := c_it c2 hf
      refine lv_iconst (v := (0 : Int32)) hx hb dX12_isIn_14 (by decide) ?_
      exact c_iret hx hb hr hlk hP hS rfl ⟨rfl, hf⟩ dX12_isIn_15
    · have hf := c_ie c2 hf
      refine lv_iconst (v := (1 : Int32)) hx hb dX12_isIn_10 (by decide) ?_
      refine lv_goto (tgt := 15) hx hb dX12_isIn_11 (by decide) ?_
      exact c_iret hx hb hr hlk hP hS rfl ⟨rfl, hf⟩ dX12_isIn_15
theorem bX12_isIn (a1 : Int32) (a2 : Int32) (a3 : Int32) : fX12_isIn a1 a2 a3 = 0 ∨ fX12_isIn a1 a2 a3 = 1 := by
  unfold fX12_isIn
  first | (repeat' split) <;> first | exact Or.inl rfl | exact Or.inr rfl
theorem i_X12_keep_X12 : ∀ w ∈ u_ws RX12 TX12 32, w ∈ wsX12_keep := c_inP [3, 4, 5, 6, 7, 8, 9, 10, 11, 12, 13, 14, 15, 16, 17, 18, 19, 20, 21, 22, 23, 24, 25, 26, 27, 28, 29, 30, 31, 32, 33, 34] (by decide +kernel)
theorem dX12_keep_0 : decode cX12_keep 0 = .ok (.iconst 0, 1) := by decide +kernel
theorem dX12_keep_1 : decode cX12_keep 1 = .ok (.istore_n 2, 1) := by decide +kernel
theorem dX12_keep_2 : decode cX12_keep 2 = .ok (.iload_n 2, 1) := by decide +kernel
theorem dX12_keep_3 : decode cX12_keep 3 = .ok (.sipush 136, 3) := by decide +kernel
theorem dX12_keep_6 : decode cX12_keep 6 = .ok (.if_icmp .ge 27, 3) := by decide +kernel
theorem dX12_keep_9 : decode cX12_keep 9 = .ok (.aload_n 0, 1) := by decide +kernel
theorem dX12_keep_10 : decode cX12_keep 10 = .ok (.getfield 19, 3) := by decide +kernel
theorem dX12_keep_13 : decode cX12_keep 13 = .ok (.sipush 136, 3) := by decide +kernel
theorem dX12_keep_16 : decode cX12_keep 16 = .ok (.iload_n 1, 1) := by decide +kernel
theorem dX12_keep_17 : decode cX12_keep 17 = .ok (.imul, 1) := by decide +kernel
theorem dX12_keep_18 : decode cX12_keep 18 = .ok (.iload_n 2, 1) := by decide +kernel
theorem dX12_keep_19 : decode cX12_keep 19 = .ok (.iadd, 1) := by decide +kernel
theorem dX12_keep_20 : decode cX12_keep 20 = .ok (.aload_n 0, 1) := by decide +kernel
theorem dX12_keep_21 : decode cX12_keep 21 = .ok (.getfield 15, 3) := by decide +kernel
theorem dX12_keep_24 : decode cX12_keep 24 = .ok (.iload_n 2, 1) := by decide +kernel
theorem dX12_keep_25 : decode cX12_keep 25 = .ok (.iaload, 1) := by decide +kernel
theorem dX12_keep_26 : decode cX12_keep 26 = .ok (.iastore, 1) := by decide +kernel
theorem dX12_keep_27 : decode cX12_keep 27 = .ok (.iinc 2 1, 3) := by decide +kernel
theorem dX12_keep_30 : decode cX12_keep 30 = .ok (.goto (-28), 3) := by decide +kernel
theorem dX12_keep_33 : decode cX12_keep 33 = .ok (.return_, 1) := by decide +kernel
def fX12_keep_2  (a1 : Int32) : Nat → Int32 → Int32 → c_G → Option (c_G)
  | 0, _, _, _ => none
  | n + 1, x1, x2, g => if (136 : Int32) ≤ x2 then (some g) else (if c_in (x2) (136) = true then if c_in ((((136 : Int32) * x1) + x2)) (272) = true then c_let (c_si g 2 ((((136 : Int32) * x1) + x2)).toNatClampNeg (g.1 1 (x2).toNatClampNeg)) fun g2004 => c_let (x2 + (1 : Int32)) fun v2005 => (fX12_keep_2 a1 n) x1 v2005 g2004 else none else none)
set_option maxRecDepth 100000 in
set_option maxHeartbeats 4000000 in
theorem jX12_keep_2 {p : Program} {l : Launch} {e : Env} {s : State} {m : MethodId} {below : List Frame} {meth : Method} {c : Code} {D : va_G} {tc : Nat → ClassId} {ad : Nat → Nat} {A : Nat → Prop} {E : (Nat → Nat) × (Nat → Nat) × Nat} {a1 : Int32} {g' : c_G} (C : c_C p s m meth c D tc A E RX12 wsX12_keep cX12_keep 3 none ([.ref (ad 0), .int a1] : List Value).toArray) (hD : c_D A ad TM)  : ∀ (n : Nat) (x1 : Int32) (x2 : Int32) (g : c_G), fX12_keep_2 a1 n x1 x2 g = some g' → ∀ (H : Heap) (locs : List Loc), va_P D vwCl (c_ws tc ad TM g) H → va_S A s.heap H locs → ∀ ls : Array Slot, lv_has ls 3 [(0, .ref (ad 0)), (1, .int x1), (2, .int x2)] → W p l e (c_rm 0) s m ([.ref (ad 0), .int a1] : List Value).toArray below meth c H locs 0 0 (MQ below (va_Qv (fun (_ : Unit) => True) (fun _ t => va_P D vwCl (c_ws tc ad TM g') t.heap) A) ([.ref (ad 0), .int a1] : List Value).toArray s 0 0 A) (F0 m 2 ls []) := by
  obtain ⟨hx, hb, hr, hml, hts, hown, hlk, hK, hE⟩ := id C
  intro n
  induction n with
  | zero =>
    intro x1 x2 g hf
    cases hf
  | succ n ih =>
    intro x1 x2 g hf H locs hP hS ls hl
    unfold fX12_keep_2 at hf
    refine lv_iload_n hx hb dX12_keep_2 rfl (lv_at hl 2 rfl) ?_
    refine lv_sipush (v := (136 : Int32)) hx hb dX12_keep_3 (by decide) ?_
    refine lv_icmp_ge (tgt := 33) hx hb dX12_keep_6 (by decide) (fun c2001 => ?_) (fun c2001 => ?_)
    · have hf := c_it c2001 hf
      exact c_vret hx hb hr hlk hP hS (Option.some.inj hf) dX12_keep_33
    · have hf := c_ie c2001 hf
      refine lv_aload_n hx hb dX12_keep_9 rfl (lv_at hl 0 rfl) ?_
      refine c_get hx hb hts i_X12_keep_X12 hown hK hP 0 tM0 rfl 1 (by decide) (hts _ (List.mem_of_getElem? (i := 1) rfl)) (fun _ h9 => h9) rfl (v := .ref (ad 2)) rfl dX12_keep_10 ?_
      refine lv_sipush (v := (136 : Int32)) hx hb dX12_keep_13 (by decide) ?_
      refine lv_iload_n hx hb dX12_keep_16 rfl (lv_at hl 1 rfl) ?_
      refine lv_imul hx hb dX12_keep_17 ?_
      refine lv_iload_n hx hb dX12_keep_18 rfl (lv_at hl 2 rfl) ?_
      refine lv_iadd hx hb dX12_keep_19 ?_
      refine lv_aload_n hx hb dX12_keep_20 rfl (lv_at hl 0 rfl) ?_
      refine c_get hx hb hts i_X12_keep_X12 hown hK hP 0 tM0 rfl 0 (by decide) (hts _ (List.mem_of_getElem? (i := 2) rfl)) (fun _ h9 => h9) rfl (v := .ref (ad 1)) rfl dX12_keep_21 ?_
      refine lv_iload_n hx hb dX12_keep_24 rfl (lv_at hl 2 rfl) ?_
      obtain ⟨hi2002, hf⟩ := c_gd hf
      refine c_iald (j := (x2).toNatClampNeg) hx hb hK hP 1 tM1 rfl (c_inV hi2002) dX12_keep_25 ?_
      obtain ⟨hi2003, hf⟩ := c_gd hf
      obtain ⟨g2004, eg2004, hf⟩ := c_letE hf
      refine c_iast (j := ((((136 : Int32) * x1) + x2)).toNatClampNeg) hx hb hK hP hD hS 2 tM2 rfl (c_inV hi2003) eg2004 dX12_keep_26 (fun H locs hP hS => ?_)
      obtain ⟨v2005, ev2005, hf⟩ := c_letE hf
      refine lv_iinc (v := v2005) (lv' := [(2, .int v2005), (0, .ref (ad 0)), (1, .int x1)]) hx hb dX12_keep_27 hl (k := 2) rfl (by rw [ev2005]; rfl) (by decide) rfl (fun ls hl => ?_)
      refine lv_goto (tgt := 2) hx hb dX12_keep_30 (by decide) ?_
      exact ih x1 v2005 g2004 hf _ _ hP hS _ (lv_sub hl [1, 2, 0] rfl)
def fX12_keep (g : c_G) (a1 : Int32) : Option (c_G) :=
  fX12_keep_2 a1 c_F a1 ((0 : Int32)) g
set_option maxRecDepth 100000 in
set_option maxHeartbeats 4000000 in
theorem kX12_keep {l : Launch} {D : va_G} {tc : Nat → ClassId} {ad : Nat → Nat} {A : Nat → Prop} {E : (Nat → Nat) × (Nat → Nat) × Nat} (hD : c_D A ad TM) {a1 : Int32} {g g' : c_G} (hf : fX12_keep g a1 = some g') : c_Mv l yX12_keep wsX12_keep (c_rm 0) D tc ad A E TM ([.ref (ad 0), .int a1] : List Value) g g' := by
  refine c_ofW (bytes := cX12_keep) (maxL := 3) (ret := none) (by decide) rfl (Nat.le_of_ble_eq_true rfl) ?_
  intro p e s m below meth c ls C hP hS hl
  unfold fX12_keep at hf
  obtain ⟨hx, hb, hr, hml, hts, hown, hlk, hK, hE⟩ := id C
  have hl : lv_has ls 3 [(0, .ref (ad 0)), (1, .int a1)] := hl
  refine lv_iconst (v := (0 : Int32)) hx hb dX12_keep_0 (by decide) ?_
  refine lv_istore_n (lv' := [(2, .int (0 : Int32)), (0, .ref (ad 0)), (1, .int a1)]) hx hb dX12_keep_1 rfl hl (by decide) rfl (fun ls hl => ?_)
  exact jX12_keep_2 C hD c_F a1 ((0 : Int32)) g hf _ _ hP hS _ (lv_sub hl [1, 2, 0] rfl)
theorem i_X12_lay_X12 : ∀ w ∈ u_ws RX12 TX12 32, w ∈ wsX12_lay := c_inP [3, 4, 5, 6, 7, 8, 9, 10, 11, 12, 13, 14, 15, 16, 17, 18, 19, 20, 21, 22, 23, 24, 25, 26, 27, 28, 29, 30, 31, 32, 33, 34] (by decide +kernel)
theorem dX12_lay_0 : decode cX12_lay 0 = .ok (.iconst 0, 1) := by decide +kernel
theorem dX12_lay_1 : decode cX12_lay 1 = .ok (.istore_n 2, 1) := by decide +kernel
theorem dX12_lay_2 : decode cX12_lay 2 = .ok (.iload_n 2, 1) := by decide +kernel
theorem dX12_lay_3 : decode cX12_lay 3 = .ok (.sipush 136, 3) := by decide +kernel
theorem dX12_lay_6 : decode cX12_lay 6 = .ok (.if_icmp .ge 27, 3) := by decide +kernel
theorem dX12_lay_9 : decode cX12_lay 9 = .ok (.aload_n 0, 1) := by decide +kernel
theorem dX12_lay_10 : decode cX12_lay 10 = .ok (.getfield 15, 3) := by decide +kernel
theorem dX12_lay_13 : decode cX12_lay 13 = .ok (.iload_n 2, 1) := by decide +kernel
theorem dX12_lay_14 : decode cX12_lay 14 = .ok (.aload_n 0, 1) := by decide +kernel
theorem dX12_lay_15 : decode cX12_lay 15 = .ok (.getfield 19, 3) := by decide +kernel
theorem dX12_lay_18 : decode cX12_lay 18 = .ok (.sipush 136, 3) := by decide +kernel
theorem dX12_lay_21 : decode cX12_lay 21 = .ok (.iload_n 1, 1) := by decide +kernel
theorem dX12_lay_22 : decode cX12_lay 22 = .ok (.imul, 1) := by decide +kernel
theorem dX12_lay_23 : decode cX12_lay 23 = .ok (.iload_n 2, 1) := by decide +kernel
theorem dX12_lay_24 : decode cX12_lay 24 = .ok (.iadd, 1) := by decide +kernel
theorem dX12_lay_25 : decode cX12_lay 25 = .ok (.iaload, 1) := by decide +kernel
theorem dX12_lay_26 : decode cX12_lay 26 = .ok (.iastore, 1) := by decide +kernel
theorem dX12_lay_27 : decode cX12_lay 27 = .ok (.iinc 2 1, 3) := by decide +kernel
theorem dX12_lay_30 : decode cX12_lay 30 = .ok (.goto (-28), 3) := by decide +kernel
theorem dX12_lay_33 : decode cX12_lay 33 = .ok (.return_, 1) := by decide +kernel
def fX12_lay_2  (a1 : Int32) : Nat → Int32 → Int32 → c_G → Option (c_G)
  | 0, _, _, _ => none
  | n + 1, x1, x2, g => if (136 : Int32) ≤ x2 then (some g) else (if c_in ((((136 : Int32) * x1) + x2)) (272) = true then if c_in (x2) (136) = true then c_let (c_si g 1 (x2).toNatClampNeg (g.1 2 ((((136 : Int32) * x1) + x2)).toNatClampNeg)) fun g2004 => c_let (x2 + (1 : Int32)) fun v2005 => (fX12_lay_2 a1 n) x1 v2005 g2004 else none else none)
set_option maxRecDepth 100000 in
set_option maxHeartbeats 4000000 in
theorem jX12_lay_2 {p : Program} {l : Launch} {e : Env} {s : State} {m : MethodId} {below : List Frame} {meth : Method} {c : Code} {D : va_G} {tc : Nat → ClassId} {ad : Nat → Nat} {A : Nat → Prop} {E : (Nat → Nat) × (Nat → Nat) × Nat} {a1 : Int32} {g' : c_G} (C : c_C p s m meth c D tc A E RX12 wsX12_lay cX12_lay 3 none ([.ref (ad 0), .int a1] : List Value).toArray) (hD : c_D A ad TM)  : ∀ (n : Nat) (x1 : Int32) (x2 : Int32) (g : c_G), fX12_lay_2 a1 n x1 x2 g = some g' → ∀ (H : Heap) (locs : List Loc), va_P D vwCl (c_ws tc ad TM g) H → va_S A s.heap H locs → ∀ ls : Array Slot, lv_has ls 3 [(0, .ref (ad 0)), (1, .int x1), (2, .int x2)] → W p l e (c_rm 0) s m ([.ref (ad 0), .int a1] : List Value).toArray below meth c H locs 0 0 (MQ below (va_Qv (fun (_ : Unit) => True) (fun _ t => va_P D vwCl (c_ws tc ad TM g') t.heap) A) ([.ref (ad 0), .int a1] : List Value).toArray s 0 0 A) (F0 m 2 ls []) := by
  obtain ⟨hx, hb, hr, hml, hts, hown, hlk, hK, hE⟩ := id C
  intro n
  induction n with
  | zero =>
    intro x1 x2 g hf
    cases hf
  | succ n ih =>
    intro x1 x2 g hf H locs hP hS ls hl
    unfold fX12_lay_2 at hf
    refine lv_iload_n hx hb dX12_lay_2 rfl (lv_at hl 2 rfl) ?_
    refine lv_sipush (v := (136 : Int32)) hx hb dX12_lay_3 (by decide) ?_
    refine lv_icmp_ge (tgt := 33) hx hb dX12_lay_6 (by decide) (fun c2001 => ?_) (fun c2001 => ?_)
    · have hf := c_it c2001 hf
      exact c_vret hx hb hr hlk hP hS (Option.some.inj hf) dX12_lay_33
    · have hf := c_ie c2001 hf
      refine lv_aload_n hx hb dX12_lay_9 rfl (lv_at hl 0 rfl) ?_
      refine c_get hx hb hts i_X12_lay_X12 hown hK hP 0 tM0 rfl 0 (by decide) (hts _ (List.mem_of_getElem? (i := 1) rfl)) (fun _ h9 => h9) rfl (v := .ref (ad 1)) rfl dX12_lay_10 ?_
      refine lv_iload_n hx hb dX12_lay_13 rfl (lv_at hl 2 rfl) ?_
      refine lv_aload_n hx hb dX12_lay_14 rfl (lv_at hl 0 rfl) ?_
      refine c_get hx hb hts i_X12_lay_X12 hown hK hP 0 tM0 rfl 1 (by decide) (hts _ (List.mem_of_getElem? (i := 2) rfl)) (fun _ h9 => h9) rfl (v := .ref (ad 2)) rfl dX12_lay_15 ?_
      refine lv_sipush (v := (136 : Int32)) hx hb dX12_lay_18 (by decide) ?_
      refine lv_iload_n hx hb dX12_lay_21 rfl (lv_at hl 1 rfl) ?_
      refine lv_imul hx hb dX12_lay_22 ?_
      refine lv_iload_n hx hb dX12_lay_23 rfl (lv_at hl 2 rfl) ?_
      refine lv_iadd hx hb dX12_lay_24 ?_
      obtain ⟨hi2002, hf⟩ := c_gd hf
      refine c_iald (j := ((((136 : Int32) * x1) + x2)).toNatClampNeg) hx hb hK hP 2 tM2 rfl (c_inV hi2002) dX12_lay_25 ?_
      obtain ⟨hi2003, hf⟩ := c_gd hf
      obtain ⟨g2004, eg2004, hf⟩ := c_letE hf
      refine c_iast (j := (x2).toNatClampNeg) hx hb hK hP hD hS 1 tM1 rfl (c_inV hi2003) eg2004 dX12_lay_26 (fun H locs hP hS => ?_)
      obtain ⟨v2005, ev2005, hf⟩ := c_letE hf
      refine lv_iinc (v := v2005) (lv' := [(2, .int v2005), (0, .ref (ad 0)), (1, .int x1)]) hx hb dX12_lay_27 hl (k := 2) rfl (by rw [ev2005]; rfl) (by decide) rfl (fun ls hl => ?_)
      refine lv_goto (tgt := 2) hx hb dX12_lay_30 (by decide) ?_
      exact ih x1 v2005 g2004 hf _ _ hP hS _ (lv_sub hl [1, 2, 0] rfl)
def fX12_lay (g : c_G) (a1 : Int32) : Option (c_G) :=
  fX12_lay_2 a1 c_F a1 ((0 : Int32)) g
set_option maxRecDepth 100000 in
set_option maxHeartbeats 4000000 in
theorem kX12_lay {l : Launch} {D : va_G} {tc : Nat → ClassId} {ad : Nat → Nat} {A : Nat → Prop} {E : (Nat → Nat) × (Nat → Nat) × Nat} (hD : c_D A ad TM) {a1 : Int32} {g g' : c_G} (hf : fX12_lay g a1 = some g') : c_Mv l yX12_lay wsX12_lay (c_rm 0) D tc ad A E TM ([.ref (ad 0), .int a1] : List Value) g g' := by
  refine c_ofW (bytes := cX12_lay) (maxL := 3) (ret := none) (by decide) rfl (Nat.le_of_ble_eq_true rfl) ?_
  intro p e s m below meth c ls C hP hS hl
  unfold fX12_lay at hf
  obtain ⟨hx, hb, hr, hml, hts, hown, hlk, hK, hE⟩ := id C
  have hl : lv_has ls 3 [(0, .ref (ad 0)), (1, .int a1)] := hl
  refine lv_iconst (v := (0 : Int32)) hx hb dX12_lay_0 (by decide) ?_
  refine lv_istore_n (lv' := [(2, .int (0 : Int32)), (0, .ref (ad 0)), (1, .int a1)]) hx hb dX12_lay_1 rfl hl (by decide) rfl (fun ls hl => ?_)
  exact jX12_lay_2 C hD c_F a1 ((0 : Int32)) g hf _ _ hP hS _ (lv_sub hl [1, 2, 0] rfl)
theorem i_X12_image_X12 : ∀ w ∈ u_ws RX12 TX12 32, w ∈ wsX12_image := c_inP [4, 5, 6, 7, 8, 9, 10, 11, 12, 13, 14, 15, 16, 17, 18, 19, 20, 21, 22, 23, 24, 25, 26, 27, 28, 29, 30, 31, 32, 33, 34, 35] (by decide +kernel)
theorem dX12_image_0 : decode cX12_image 0 = .ok (.aload_n 0, 1) := by decide +kernel
theorem dX12_image_1 : decode cX12_image 1 = .ok (.iconst 1, 1) := by decide +kernel
theorem dX12_image_2 : decode cX12_image 2 = .ok (.putfield 81, 3) := by decide +kernel
theorem dX12_image_5 : decode cX12_image 5 = .ok (.iconst 0, 1) := by decide +kernel
theorem dX12_image_6 : decode cX12_image 6 = .ok (.istore_n 1, 1) := by decide +kernel
theorem dX12_image_7 : decode cX12_image 7 = .ok (.iload_n 1, 1) := by decide +kernel
theorem dX12_image_8 : decode cX12_image 8 = .ok (.sipush 136, 3) := by decide +kernel
theorem dX12_image_11 : decode cX12_image 11 = .ok (.if_icmp .ge 21, 3) := by decide +kernel
theorem dX12_image_14 : decode cX12_image 14 = .ok (.aload_n 0, 1) := by decide +kernel
theorem dX12_image_15 : decode cX12_image 15 = .ok (.getfield 22, 3) := by decide +kernel
theorem dX12_image_18 : decode cX12_image 18 = .ok (.iload_n 1, 1) := by decide +kernel
theorem dX12_image_19 : decode cX12_image 19 = .ok (.aload_n 0, 1) := by decide +kernel
theorem dX12_image_20 : decode cX12_image 20 = .ok (.getfield 15, 3) := by decide +kernel
theorem dX12_image_23 : decode cX12_image 23 = .ok (.iload_n 1, 1) := by decide +kernel
theorem dX12_image_24 : decode cX12_image 24 = .ok (.iaload, 1) := by decide +kernel
theorem dX12_image_25 : decode cX12_image 25 = .ok (.iastore, 1) := by decide +kernel
theorem dX12_image_26 : decode cX12_image 26 = .ok (.iinc 1 1, 3) := by decide +kernel
theorem dX12_image_29 : decode cX12_image 29 = .ok (.goto (-22), 3) := by decide +kernel
theorem dX12_image_32 : decode cX12_image 32 = .ok (.aload_n 0, 1) := by decide +kernel
theorem dX12_image_33 : decode cX12_image 33 = .ok (.getfield 15, 3) := by decide +kernel
theorem dX12_image_36 : decode cX12_image 36 = .ok (.bipush 78, 2) := by decide +kernel
theorem dX12_image_38 : decode cX12_image 38 = .ok (.iaload, 1) := by decide +kernel
theorem dX12_image_39 : decode cX12_image 39 = .ok (.ireturn, 1) := by decide +kernel
def fX12_image_7   : Nat → Int32 → c_G → Option (c_G × Int32)
  | 0, _, _ => none
  | n + 1, x1, g => if (136 : Int32) ≤ x1 then (some (g, (g.1 1 78))) else (if c_in (x1) (136) = true then c_let (c_si g 3 (x1).toNatClampNeg (g.1 1 (x1).toNatClampNeg)) fun g7003 => c_let (x1 + (1 : Int32)) fun v7004 => (fX12_image_7 n) v7004 g7003 else none)
set_option maxRecDepth 100000 in
set_option maxHeartbeats 4000000 in
theorem jX12_image_7 {p : Program} {l : Launch} {e : Env} {s : State} {m : MethodId} {below : List Frame} {meth : Method} {c : Code} {D : va_G} {tc : Nat → ClassId} {ad : Nat → Nat} {A : Nat → Prop} {E : (Nat → Nat) × (Nat → Nat) × Nat} {g' : c_G} {r : Int32} (C : c_C p s m meth c D tc A E RX12 wsX12_image cX12_image 2 (some .int) ([.ref (ad 0)] : List Value).toArray) (hD : c_D A ad TM)  : ∀ (n : Nat) (x1 : Int32) (g : c_G), fX12_image_7 n x1 g = some (g', r) → ∀ (H : Heap) (locs : List Loc), va_P D vwCl (c_ws tc ad TM g) H → va_S A s.heap H locs → ∀ ls : Array Slot, lv_has ls 2 [(0, .ref (ad 0)), (1, .int x1)] → W p l e (c_rm 0) s m ([.ref (ad 0)] : List Value).toArray below meth c H locs 0 0 (MQ below (va_Qi (fun (x : Int32) (_ : Unit) => x = r) (fun _ t => va_P D vwCl (c_ws tc ad TM g') t.heap) A) ([.ref (ad 0)] : List Value).toArray s 0 0 A) (F0 m 7 ls []) := by
  obtain ⟨hx, hb, hr, hml, hts, hown, hlk, hK, hE⟩ := id C
  intro n
  induction n with
  | zero =>
    intro x1 g hf
    cases hf
  | succ n ih =>
    intro x1 g hf H locs hP hS ls hl
    unfold fX12_image_7 at hf
    refine lv_iload_n hx hb dX12_image_7 rfl (lv_at hl 1 rfl) ?_
    refine lv_sipush (v := (136 : Int32)) hx hb dX12_image_8 (by decide) ?_
    refine lv_icmp_ge (tgt := 32) hx hb dX12_image_11 (by decide) (fun c7001 => ?_) (fun c7001 => ?_)
    · have hf := c_it c7001 hf
      refine lv_aload_n hx hb dX12_image_32 rfl (lv_at hl 0 rfl) ?_
      refine c_get hx hb hts i_X12_image_X12 hown hK hP 0 tM0 rfl 0 (by decide) (hts _ (List.mem_of_getElem? (i := 3) rfl)) (fun _ h9 => h9) rfl (v := .ref (ad 1)) rfl dX12_image_33 ?_
      refine lv_bipush (v := (78 : Int32)) hx hb dX12_image_36 (by decide) ?_
      refine c_iald (j := 78) hx hb hK hP 1 tM1 (by decide) (c_inV (by decide)) dX12_image_38 ?_
      exact c_iret hx hb hr hlk hP hS rfl (c_inj hf) dX12_image_39
    · have hf := c_ie c7001 hf
      refine lv_aload_n hx hb dX12_image_14 rfl (lv_at hl 0 rfl) ?_
      refine c_get hx hb hts i_X12_image_X12 hown hK hP 0 tM0 rfl 2 (by decide) (hts _ (List.mem_of_getElem? (i := 2) rfl)) (fun _ h9 => h9) rfl (v := .ref (ad 3)) rfl dX12_image_15 ?_
      refine lv_iload_n hx hb dX12_image_18 rfl (lv_at hl 1 rfl) ?_
      refine lv_aload_n hx hb dX12_image_19 rfl (lv_at hl 0 rfl) ?_
      refine c_get hx hb hts i_X12_image_X12 hown hK hP 0 tM0 rfl 0 (by decide) (hts _ (List.mem_of_getElem? (i := 3) rfl)) (fun _ h9 => h9) rfl (v := .ref (ad 1)) rfl dX12_image_20 ?_
      refine lv_iload_n hx hb dX12_image_23 rfl (lv_at hl 1 rfl) ?_
      obtain ⟨hi7002, hf⟩ := c_gd hf
      refine c_iald (j := (x1).toNatClampNeg) hx hb hK hP 1 tM1 rfl (c_inV hi7002) dX12_image_24 ?_
      obtain ⟨g7003, eg7003, hf⟩ := c_letE hf
      refine c_iast (j := (x1).toNatClampNeg) hx hb hK hP hD hS 3 tM3 rfl (c_inV hi7002) eg7003 dX12_image_25 (fun H locs hP hS => ?_)
      obtain ⟨v7004, ev7004, hf⟩ := c_letE hf
      refine lv_iinc (v := v7004) (lv' := [(1, .int v7004), (0, .ref (ad 0))]) hx hb dX12_image_26 hl (k := 1) rfl (by rw [ev7004]; rfl) (by decide) rfl (fun ls hl => ?_)
      refine lv_goto (tgt := 7) hx hb dX12_image_29 (by decide) ?_
      exact ih v7004 g7003 hf _ _ hP hS _ (lv_sub hl [1, 0] rfl)
def fX12_image (g : c_G)  : Option (c_G × Int32) :=
  c_let (c_si g 0 3 (1 : Int32)) fun g1 => fX12_image_7 c_F ((0 : Int32)) g1
set_option maxRecDepth 100000 in
set_option maxHeartbeats 4000000 in
theorem kX12_image {l : Launch} {D : va_G} {tc : Nat → ClassId} {ad : Nat → Nat} {A : Nat → Prop} {E : (Nat → Nat) × (Nat → Nat) × Nat} (hD : c_D A ad TM)  {g g' : c_G} {r : Int32} (hf : fX12_image g  = some (g', r)) : c_Mi l yX12_image wsX12_image (c_rm 0) D tc ad A E TM ([.ref (ad 0)] : List Value) g g' r := by
  refine c_ofW (bytes := cX12_image) (maxL := 2) (ret := (some .int)) (by decide) rfl (Nat.le_of_ble_eq_true rfl) ?_
  intro p e s m below meth c ls C hP hS hl
  unfold fX12_image at hf
  obtain ⟨hx, hb, hr, hml, hts, hown, hlk, hK, hE⟩ := id C
  have hl : lv_has ls 2 [(0, .ref (ad 0))] := hl
  refine lv_aload_n hx hb dX12_image_0 rfl (lv_at hl 0 rfl) ?_
  refine lv_iconst (v := (1 : Int32)) hx hb dX12_image_1 (by decide) ?_
  obtain ⟨g1, eg1, hf⟩ := c_letE hf
  refine c_put hx hb hts i_X12_image_X12 tyX12 tyX12_ok nmX12 hown hK hP hD hS 0 tM0 rfl 3 (by decide) (hts _ (List.mem_of_getElem? (i := 1) rfl)) (fun _ h9 => h9) rfl (ty := .boolean) (by decide +kernel) rfl rfl rfl eg1 dX12_image_2 (fun H locs hP hS => ?_)
  refine lv_iconst (v := (0 : Int32)) hx hb dX12_image_5 (by decide) ?_
  refine lv_istore_n (lv' := [(1, .int (0 : Int32)), (0, .ref (ad 0))]) hx hb dX12_image_6 rfl hl (by decide) rfl (fun ls hl => ?_)
  exact jX12_image_7 C hD c_F ((0 : Int32)) g1 hf _ _ hP hS _ (lv_sub hl [1, 0] rfl)
theorem i_X12_undo_X12 : ∀ w ∈ u_ws RX12 TX12 32, w ∈ wsX12_undo := c_inP [4, 5, 6, 7, 8, 9, 10, 11, 12, 13, 14, 15, 16, 17, 18, 19, 20, 21, 22, 23, 24, 25, 26, 27, 28, 29, 30, 31, 32, 33, 34, 35] (by decide +kernel)
theorem dX12_undo_0 : decode cX12_undo 0 = .ok (.aload_n 0, 1) := by decide +kernel
theorem dX12_undo_1 : decode cX12_undo 1 = .ok (.getfield 81, 3) := by decide +kernel
theorem dX12_undo_4 : decode cX12_undo 4 = .ok (.ifCond .ne 6, 3) := by decide +kernel
theorem dX12_undo_7 : decode cX12_undo 7 = .ok (.bipush (-3), 2) := by decide +kernel
theorem dX12_undo_9 : decode cX12_undo 9 = .ok (.ireturn, 1) := by decide +kernel
theorem dX12_undo_10 : decode cX12_undo 10 = .ok (.iconst 0, 1) := by decide +kernel
theorem dX12_undo_11 : decode cX12_undo 11 = .ok (.istore_n 1, 1) := by decide +kernel
theorem dX12_undo_12 : decode cX12_undo 12 = .ok (.iload_n 1, 1) := by decide +kernel
theorem dX12_undo_13 : decode cX12_undo 13 = .ok (.sipush 136, 3) := by decide +kernel
theorem dX12_undo_16 : decode cX12_undo 16 = .ok (.if_icmp .ge 21, 3) := by decide +kernel
theorem dX12_undo_19 : decode cX12_undo 19 = .ok (.aload_n 0, 1) := by decide +kernel
theorem dX12_undo_20 : decode cX12_undo 20 = .ok (.getfield 15, 3) := by decide +kernel
theorem dX12_undo_23 : decode cX12_undo 23 = .ok (.iload_n 1, 1) := by decide +kernel
theorem dX12_undo_24 : decode cX12_undo 24 = .ok (.aload_n 0, 1) := by decide +kernel
theorem dX12_undo_25 : decode cX12_undo 25 = .ok (.getfield 22, 3) := by decide +kernel
theorem dX12_undo_28 : decode cX12_undo 28 = .ok (.iload_n 1, 1) := by decide +kernel
theorem dX12_undo_29 : decode cX12_undo 29 = .ok (.iaload, 1) := by decide +kernel
theorem dX12_undo_30 : decode cX12_undo 30 = .ok (.iastore, 1) := by decide +kernel
theorem dX12_undo_31 : decode cX12_undo 31 = .ok (.iinc 1 1, 3) := by decide +kernel
theorem dX12_undo_34 : decode cX12_undo 34 = .ok (.goto (-22), 3) := by decide +kernel
theorem dX12_undo_37 : decode cX12_undo 37 = .ok (.aload_n 0, 1) := by decide +kernel
theorem dX12_undo_38 : decode cX12_undo 38 = .ok (.getfield 15, 3) := by decide +kernel
theorem dX12_undo_41 : decode cX12_undo 41 = .ok (.bipush 78, 2) := by decide +kernel
theorem dX12_undo_43 : decode cX12_undo 43 = .ok (.iaload, 1) := by decide +kernel
theorem dX12_undo_44 : decode cX12_undo 44 = .ok (.ireturn, 1) := by decide +kernel
def fX12_undo_12   : Nat → Int32 → c_G → Option (c_G × Int32)
  | 0, _, _ => none
  | n + 1, x1, g => if (136 : Int32) ≤ x1 then (some (g, (g.1 1 78))) else (if c_in (x1) (136) = true then c_let (c_si g 1 (x1).toNatClampNeg (g.1 3 (x1).toNatClampNeg)) fun g12003 => c_let (x1 + (1 : Int32)) fun v12004 => (fX12_undo_12 n) v12004 g12003 else none)
set_option maxRecDepth 100000 in
set_option maxHeartbeats 4000000 in
theorem jX12_undo_12 {p : Program} {l : Launch} {e : Env} {s : State} {m : MethodId} {below : List Frame} {meth : Method} {c : Code} {D : va_G} {tc : Nat → ClassId} {ad : Nat → Nat} {A : Nat → Prop} {E : (Nat → Nat) × (Nat → Nat) × Nat} {g' : c_G} {r : Int32} (C : c_C p s m meth c D tc A E RX12 wsX12_undo cX12_undo 2 (some .int) ([.ref (ad 0)] : List Value).toArray) (hD : c_D A ad TM)  : ∀ (n : Nat) (x1 : Int32) (g : c_G), fX12_undo_12 n x1 g = some (g', r) → ∀ (H : Heap) (locs : List Loc), va_P D vwCl (c_ws tc ad TM g) H → va_S A s.heap H locs → ∀ ls : Array Slot, lv_has ls 2 [(0, .ref (ad 0)), (1, .int x1)] → W p l e (c_rm 0) s m ([.ref (ad 0)] : List Value).toArray below meth c H locs 0 0 (MQ below (va_Qi (fun (x : Int32) (_ : Unit) => x = r) (fun _ t => va_P D vwCl (c_ws tc ad TM g') t.heap) A) ([.ref (ad 0)] : List Value).toArray s 0 0 A) (F0 m 12 ls []) := by
  obtain ⟨hx, hb, hr, hml, hts, hown, hlk, hK, hE⟩ := id C
  intro n
  induction n with
  | zero =>
    intro x1 g hf
    cases hf
  | succ n ih =>
    intro x1 g hf H locs hP hS ls hl
    unfold fX12_undo_12 at hf
    refine lv_iload_n hx hb dX12_undo_12 rfl (lv_at hl 1 rfl) ?_
    refine lv_sipush (v := (136 : Int32)) hx hb dX12_undo_13 (by decide) ?_
    refine lv_icmp_ge (tgt := 37) hx hb dX12_undo_16 (by decide) (fun c12001 => ?_) (fun c12001 => ?_)
    · have hf := c_it c12001 hf
      refine lv_aload_n hx hb dX12_undo_37 rfl (lv_at hl 0 rfl) ?_
      refine c_get hx hb hts i_X12_undo_X12 hown hK hP 0 tM0 rfl 0 (by decide) (hts _ (List.mem_of_getElem? (i := 2) rfl)) (fun _ h9 => h9) rfl (v := .ref (ad 1)) rfl dX12_undo_38 ?_
      refine lv_bipush (v := (78 : Int32)) hx hb dX12_undo_41 (by decide) ?_
      refine c_iald (j := 78) hx hb hK hP 1 tM1 (by decide) (c_inV (by decide)) dX12_undo_43 ?_
      exact c_iret hx hb hr hlk hP hS rfl (c_inj hf) dX12_undo_44
    · have hf := c_ie c12001 hf
      refine lv_aload_n hx hb dX12_undo_19 rfl (lv_at hl 0 rfl) ?_
      refine c_get hx hb hts i_X12_undo_X12 hown hK hP 0 tM0 rfl 0 (by decide) (hts _ (List.mem_of_getElem? (i := 2) rfl)) (fun _ h9 => h9) rfl (v := .ref (ad 1)) rfl dX12_undo_20 ?_
      refine lv_iload_n hx hb dX12_undo_23 rfl (lv_at hl 1 rfl) ?_
      refine lv_aload_n hx hb dX12_undo_24 rfl (lv_at hl 0 rfl) ?_
      refine c_get hx hb hts i_X12_undo_X12 hown hK hP 0 tM0 rfl 2 (by decide) (hts _ (List.mem_of_getElem? (i := 3) rfl)) (fun _ h9 => h9) rfl (v := .ref (ad 3)) rfl dX12_undo_25 ?_
      refine lv_iload_n hx hb dX12_undo_28 rfl (lv_at hl 1 rfl) ?_
      obtain ⟨hi12002, hf⟩ := c_gd hf
      refine c_iald (j := (x1).toNatClampNeg) hx hb hK hP 3 tM3 rfl (c_inV hi12002) dX12_undo_29 ?_
      obtain ⟨g12003, eg12003, hf⟩ := c_letE hf
      refine c_iast (j := (x1).toNatClampNeg) hx hb hK hP hD hS 1 tM1 rfl (c_inV hi12002) eg12003 dX12_undo_30 (fun H locs hP hS => ?_)
      obtain ⟨v12004, ev12004, hf⟩ := c_letE hf
      refine lv_iinc (v := v12004) (lv' := [(1, .int v12004), (0, .ref (ad 0))]) hx hb dX12_undo_31 hl (k := 1) rfl (by rw [ev12004]; rfl) (by decide) rfl (fun ls hl => ?_)
      refine lv_goto (tgt := 12) hx hb dX12_undo_34 (by decide) ?_
      exact ih v12004 g12003 hf _ _ hP hS _ (lv_sub hl [1, 0] rfl)
def fX12_undo (g : c_G)  : Option (c_G × Int32) :=
  if (g.1 0 3) = 0 then (some (g, (-3 : Int32))) else (fX12_undo_12 c_F ((0 : Int32)) g)
set_option maxRecDepth 100000 in
set_option maxHeartbeats 4000000 in
theorem kX12_undo {l : Launch} {D : va_G} {tc : Nat → ClassId} {ad : Nat → Nat} {A : Nat → Prop} {E : (Nat → Nat) × (Nat → Nat) × Nat} (hD : c_D A ad TM)  {g g' : c_G} {r : Int32} (hf : fX12_undo g  = some (g', r)) : c_Mi l yX12_undo wsX12_undo (c_rm 0) D tc ad A E TM ([.ref (ad 0)] : List Value) g g' r := by
  refine c_ofW (bytes := cX12_undo) (maxL := 2) (ret := (some .int)) (by decide) rfl (Nat.le_of_ble_eq_true rfl) ?_
  intro p e s m below meth c ls C hP hS hl
  unfold fX12_undo at hf
  obtain ⟨hx, hb, hr, hml, hts, hown, hlk, hK, hE⟩ := id C
  have hl : lv_has ls 2 [(0, .ref (ad 0))] := hl
  refine lv_aload_n hx hb dX12_undo_0 rfl (lv_at hl 0 rfl) ?_
  refine c_get hx hb hts i_X12_undo_X12 hown hK hP 0 tM0 rfl 3 (by decide) (hts _ (List.mem_of_getElem? (i := 1) rfl)) (fun _ h9 => h9) rfl (v := .int (g.1 0 3)) rfl dX12_undo_1 ?_
  refine lv_if_ne (tgt := 10) hx hb dX12_undo_4 (by decide) (fun c1 => ?_) (fun c1 => ?_)
  · have hf := c_ie c1 hf
    refine lv_iconst (v := (0 : Int32)) hx hb dX12_undo_10 (by decide) ?_
    refine lv_istore_n (lv' := [(1, .int (0 : Int32)), (0, .ref (ad 0))]) hx hb dX12_undo_11 rfl hl (by decide) rfl (fun ls hl => ?_)
    exact jX12_undo_12 C hD c_F ((0 : Int32)) g hf _ _ hP hS _ (lv_sub hl [1, 0] rfl)
  · have hf := c_it c1 hf
    refine lv_bipush (v := (-3 : Int32)) hx hb dX12_undo_7 (by decide) ?_
    exact c_iret hx hb hr hlk hP hS rfl (c_inj hf) dX12_undo_9
theorem i_X12_isChild_X12 : ∀ w ∈ u_ws RX12 TX12 32, w ∈ wsX12_isChild := c_inP [6, 7, 8, 9, 10, 11, 12, 13, 14, 15, 16, 17, 18, 19, 20, 21, 22, 23, 24, 25, 26, 27, 28, 29, 30, 31, 32, 33, 34, 35, 36, 37] (by decide +kernel)
theorem dX12_isChild_0 : decode cX12_isChild 0 = .ok (.iload_n 1, 1) := by decide +kernel
theorem dX12_isChild_1 : decode cX12_isChild 1 = .ok (.iconst 0, 1) := by decide +kernel
theorem dX12_isChild_2 : decode cX12_isChild 2 = .ok (.aload_n 0, 1) := by decide +kernel
theorem dX12_isChild_3 : decode cX12_isChild 3 = .ok (.getfield 15, 3) := by decide +kernel
theorem dX12_isChild_6 : decode cX12_isChild 6 = .ok (.bipush 78, 2) := by decide +kernel
theorem dX12_isChild_8 : decode cX12_isChild 8 = .ok (.iaload, 1) := by decide +kernel
theorem dX12_isChild_9 : decode cX12_isChild 9 = .ok (.iconst 1, 1) := by decide +kernel
theorem dX12_isChild_10 : decode cX12_isChild 10 = .ok (.isub, 1) := by decide +kernel
theorem dX12_isChild_11 : decode cX12_isChild 11 = .ok (.invokestatic 85, 3) := by decide +kernel
theorem dX12_isChild_14 : decode cX12_isChild 14 = .ok (.ireturn, 1) := by decide +kernel
set_option maxRecDepth 20000 in
theorem ggX12_isChild_X12_isIn : GoodIn wsX12_isChild wsX12_isIn := goodIn_r _ [5] (by decide +kernel) (by decide +kernel)
set_option maxRecDepth 20000 in
theorem gX12_isChild_X12_isIn : GoodIn wsX12_isChild (va_wsS RX12 85 yX12_isIn wsX12_isIn) := goodIn_app (goodIn_of _ (by decide +kernel)) ggX12_isChild_X12_isIn
def fX12_isChild (g : c_G) (a1 : Int32) : Option (Int32) :=
  if c_bo (fX12_isIn a1 ((0 : Int32)) (((g.1 1 78) - (1 : Int32)))) = true then some (fX12_isIn a1 ((0 : Int32)) (((g.1 1 78) - (1 : Int32)))) else none
set_option maxRecDepth 100000 in
set_option maxHeartbeats 4000000 in
theorem kX12_isChild {l : Launch} {D : va_G} {tc : Nat → ClassId} {ad : Nat → Nat} {A : Nat → Prop} {E : (Nat → Nat) × (Nat → Nat) × Nat} (hD : c_D A ad TM) {a1 : Int32} {g : c_G} {r : Int32} (hf : fX12_isChild g a1 = some r) : c_Mi l yX12_isChild wsX12_isChild (c_rm 1) D tc ad A E TM ([.ref (ad 0), .int a1] : List Value) g g r := by
  refine c_ofW (bytes := cX12_isChild) (maxL := 2) (ret := (some .boolean)) (by decide) rfl (Nat.le_of_ble_eq_true rfl) ?_
  intro p e s m below meth c ls C hP hS hl
  unfold fX12_isChild at hf
  obtain ⟨hx, hb, hr, hml, hts, hown, hlk, hK, hE⟩ := id C
  have hl : lv_has ls 2 [(0, .ref (ad 0)), (1, .int a1)] := hl
  refine lv_iload_n hx hb dX12_isChild_0 rfl (lv_at hl 1 rfl) ?_
  refine lv_iconst (v := (0 : Int32)) hx hb dX12_isChild_1 (by decide) ?_
  refine lv_aload_n hx hb dX12_isChild_2 rfl (lv_at hl 0 rfl) ?_
  refine c_get hx hb hts i_X12_isChild_X12 hown hK hP 0 tM0 rfl 0 (by decide) (hts _ (List.mem_of_getElem? (i := 1) rfl)) (fun _ h9 => h9) rfl (v := .ref (ad 1)) rfl dX12_isChild_3 ?_
  refine lv_bipush (v := (78 : Int32)) hx hb dX12_isChild_6 (by decide) ?_
  refine c_iald (j := 78) hx hb hK hP 1 tM1 (by decide) (c_inV (by decide)) dX12_isChild_8 ?_
  refine lv_iconst (v := (1 : Int32)) hx hb dX12_isChild_9 (by decide) ?_
  refine lv_isub hx hb dX12_isChild_10 ?_
  refine c_goi (va_runS (As := [.int a1, .int (0 : Int32), .int ((g.1 1 78) - (1 : Int32))]) (rest := []) ⟨hx, hb, hml, hown, hts⟩ (kX12_isIn (T := TM) (g := g) rfl) (va_cwS 3 hts gX12_isChild_X12_isIn rfl rfl rfl (by decide +kernel) ⟨Nat.le_of_ble_eq_true rfl, Nat.le_of_ble_eq_true rfl⟩) (c_preS hK hP hE hS) rfl rfl hl.1 rfl (lv_room (Nat.le_of_ble_eq_true rfl)) dX12_isChild_11 ⟨Nat.zero_le _, Nat.zero_le _⟩) hS (fun H locs hP hS => ?_)
  obtain ⟨hb1, hf⟩ := c_gd hf
  exact c_iret hx hb hr hlk hP hS (c_boE hb1) ⟨rfl, Option.some.inj hf⟩ dX12_isChild_14
theorem dX12_isElder_0 : decode cX12_isElder 0 = .ok (.iload_n 0, 1) := by decide +kernel
theorem dX12_isElder_1 : decode cX12_isElder 1 = .ok (.iconst 0, 1) := by decide +kernel
theorem dX12_isElder_2 : decode cX12_isElder 2 = .ok (.iconst 5, 1) := by decide +kernel
theorem dX12_isElder_3 : decode cX12_isElder 3 = .ok (.invokestatic 85, 3) := by decide +kernel
theorem dX12_isElder_6 : decode cX12_isElder 6 = .ok (.ireturn, 1) := by decide +kernel
set_option maxRecDepth 20000 in
theorem ggX12_isElder_X12_isIn : GoodIn wsX12_isElder wsX12_isIn := goodIn_r _ [4] (by decide +kernel) (by decide +kernel)
set_option maxRecDepth 20000 in
theorem gX12_isElder_X12_isIn : GoodIn wsX12_isElder (va_wsS RX12 85 yX12_isIn wsX12_isIn) := goodIn_app (goodIn_of _ (by decide +kernel)) ggX12_isElder_X12_isIn
def fX12_isElder (a1 : Int32) : Int32 :=
  (fX12_isIn a1 ((0 : Int32)) ((5 : Int32)))
set_option maxRecDepth 100000 in
set_option maxHeartbeats 4000000 in
theorem kX12_isElder {l : Launch} {D : va_G} {tc : Nat → ClassId} {ad : Nat → Nat} {A : Nat → Prop} {E : (Nat → Nat) × (Nat → Nat) × Nat} {T : List c_T} {a1 : Int32} {g : c_G} {r : Int32} (hf : fX12_isElder a1 = r) : c_Mi l yX12_isElder wsX12_isElder (c_rm 1) D tc ad A E T ([.int a1] : List Value) g g r := by
  refine c_ofW (bytes := cX12_isElder) (maxL := 1) (ret := (some .boolean)) (by decide) rfl (Nat.le_of_ble_eq_true rfl) ?_
  intro p e s m below meth c ls C hP hS hl
  unfold fX12_isElder at hf
  obtain ⟨hx, hb, hr, hml, hts, hown, hlk, hK, hE⟩ := id C
  have hl : lv_has ls 1 [(0, .int a1)] := hl
  refine lv_iload_n hx hb dX12_isElder_0 rfl (lv_at hl 0 rfl) ?_
  refine lv_iconst (v := (0 : Int32)) hx hb dX12_isElder_1 (by decide) ?_
  refine lv_iconst (v := (5 : Int32)) hx hb dX12_isElder_2 (by decide) ?_
  refine c_goi (va_runS (As := [.int a1, .int (0 : Int32), .int (5 : Int32)]) (rest := []) ⟨hx, hb, hml, hown, hts⟩ (kX12_isIn (T := T) (g := g) rfl) (va_cwS 3 hts gX12_isElder_X12_isIn rfl rfl rfl (by decide +kernel) ⟨Nat.le_of_ble_eq_true rfl, Nat.le_of_ble_eq_true rfl⟩) (c_preS hK hP hE hS) rfl rfl hl.1 rfl (lv_room (Nat.le_of_ble_eq_true rfl)) dX12_isElder_3 ⟨Nat.zero_le _, Nat.zero_le _⟩) hS (fun H locs hP hS => ?_)
  exact c_iret hx hb hr hlk hP hS (c_bN (bX12_isIn a1 ((0 : Int32)) ((5 : Int32)))) ⟨rfl, hf⟩ dX12_isElder_6
theorem bX12_isElder (a1 : Int32) : fX12_isElder a1 = 0 ∨ fX12_isElder a1 = 1 := by
  unfold fX12_isElder
  first | exact bX12_isIn _ _ _ | (repeat' split) <;> first | exact Or.inl rfl | exact Or.inr rfl
theorem dX12_isWord_0 : decode cX12_isWord 0 = .ok (.iload_n 0, 1) := by decide +kernel
theorem dX12_isWord_1 : decode cX12_isWord 1 = .ok (.iconst 0, 1) := by decide +kernel
theorem dX12_isWord_2 : decode cX12_isWord 2 = .ok (.bipush 11, 2) := by decide +kernel
theorem dX12_isWord_4 : decode cX12_isWord 4 = .ok (.invokestatic 85, 3) := by decide +kernel
theorem dX12_isWord_7 : decode cX12_isWord 7 = .ok (.ireturn, 1) := by decide +kernel
set_option maxRecDepth 20000 in
theorem ggX12_isWord_X12_isIn : GoodIn wsX12_isWord wsX12_isIn := goodIn_r _ [4] (by decide +kernel) (by decide +kernel)
set_option maxRecDepth 20000 in
theorem gX12_isWord_X12_isIn : GoodIn wsX12_isWord (va_wsS RX12 85 yX12_isIn wsX12_isIn) := goodIn_app (goodIn_of _ (by decide +kernel)) ggX12_isWord_X12_isIn
def fX12_isWord (a1 : Int32) : Int32 :=
  (fX12_isIn a1 ((0 : Int32)) ((11 : Int32)))
set_option maxRecDepth 100000 in
set_option maxHeartbeats 4000000 in
theorem kX12_isWord {l : Launch} {D : va_G} {tc : Nat → ClassId} {ad : Nat → Nat} {A : Nat → Prop} {E : (Nat → Nat) × (Nat → Nat) × Nat} {T : List c_T} {a1 : Int32} {g : c_G} {r : Int32} (hf : fX12_isWord a1 = r) : c_Mi l yX12_isWord wsX12_isWord (c_rm 1) D tc ad A E T ([.int a1] : List Value) g g r := by
  refine c_ofW (bytes := cX12_isWord) (maxL := 1) (ret := (some .boolean)) (by decide) rfl (Nat.le_of_ble_eq_true rfl) ?_
  intro p e s m below meth c ls C hP hS hl
  unfold fX12_isWord at hf
  obtain ⟨hx, hb, hr, hml, hts, hown, hlk, hK, hE⟩ := id C
  have hl : lv_has ls 1 [(0, .int a1)] := hl
  refine lv_iload_n hx hb dX12_isWord_0 rfl (lv_at hl 0 rfl) ?_
  refine lv_iconst (v := (0 : Int32)) hx hb dX12_isWord_1 (by decide) ?_
  refine lv_bipush (v := (11 : Int32)) hx hb dX12_isWord_2 (by decide) ?_
  refine c_goi (va_runS (As := [.int a1, .int (0 : Int32), .int (11 : Int32)]) (rest := []) ⟨hx, hb, hml, hown, hts⟩ (kX12_isIn (T := T) (g := g) rfl) (va_cwS 3 hts gX12_isWord_X12_isIn rfl rfl rfl (by decide +kernel) ⟨Nat.le_of_ble_eq_true rfl, Nat.le_of_ble_eq_true rfl⟩) (c_preS hK hP hE hS) rfl rfl hl.1 rfl (lv_room (Nat.le_of_ble_eq_true rfl)) dX12_isWord_4 ⟨Nat.zero_le _, Nat.zero_le _⟩) hS (fun H locs hP hS => ?_)
  exact c_iret hx hb hr hlk hP hS (c_bN (bX12_isIn a1 ((0 : Int32)) ((11 : Int32)))) ⟨rfl, hf⟩ dX12_isWord_7
theorem bX12_isWord (a1 : Int32) : fX12_isWord a1 = 0 ∨ fX12_isWord a1 = 1 := by
  unfold fX12_isWord
  first | exact bX12_isIn _ _ _ | (repeat' split) <;> first | exact Or.inl rfl | exact Or.inr rfl
theorem dX12_isSet_0 : decode cX12_isSet 0 = .ok (.iload_n 0, 1) := by decide +kernel
theorem dX12_isSet_1 : decode cX12_isSet 1 = .ok (.iconst 0, 1) := by decide +kernel
theorem dX12_isSet_2 : decode cX12_isSet 2 = .ok (.sipush 4095, 3) := by decide +kernel
theorem dX12_isSet_5 : decode cX12_isSet 5 = .ok (.invokestatic 85, 3) := by decide +kernel
theorem dX12_isSet_8 : decode cX12_isSet 8 = .ok (.ireturn, 1) := by decide +kernel
set_option maxRecDepth 20000 in
theorem ggX12_isSet_X12_isIn : GoodIn wsX12_isSet wsX12_isIn := goodIn_r _ [4] (by decide +kernel) (by decide +kernel)
set_option maxRecDepth 20000 in
theorem gX12_isSet_X12_isIn : GoodIn wsX12_isSet (va_wsS RX12 85 yX12_isIn wsX12_isIn) := goodIn_app (goodIn_of _ (by decide +kernel)) ggX12_isSet_X12_isIn
def fX12_isSet (a1 : Int32) : Int32 :=
  (fX12_isIn a1 ((0 : Int32)) ((4095 : Int32)))
set_option maxRecDepth 100000 in
set_option maxHeartbeats 4000000 in
theorem kX12_isSet {l : Launch} {D : va_G} {tc : Nat → ClassId} {ad : Nat → Nat} {A : Nat → Prop} {E : (Nat → Nat) × (Nat → Nat) × Nat} {T : List c_T} {a1 : Int32} {g : c_G} {r : Int32} (hf : fX12_isSet a1 = r) : c_Mi l yX12_isSet wsX12_isSet (c_rm 1) D tc ad A E T ([.int a1] : List Value) g g r := by
  refine c_ofW (bytes := cX12_isSet) (maxL := 1) (ret := (some .boolean)) (by decide) rfl (Nat.le_of_ble_eq_true rfl) ?_
  intro p e s m below meth c ls C hP hS hl
  unfold fX12_isSet at hf
  obtain ⟨hx, hb, hr, hml, hts, hown, hlk, hK, hE⟩ := id C
  have hl : lv_has ls 1 [(0, .int a1)] := hl
  refine lv_iload_n hx hb dX12_isSet_0 rfl (lv_at hl 0 rfl) ?_
  refine lv_iconst (v := (0 : Int32)) hx hb dX12_isSet_1 (by decide) ?_
  refine lv_sipush (v := (4095 : Int32)) hx hb dX12_isSet_2 (by decide) ?_
  refine c_goi (va_runS (As := [.int a1, .int (0 : Int32), .int (4095 : Int32)]) (rest := []) ⟨hx, hb, hml, hown, hts⟩ (kX12_isIn (T := T) (g := g) rfl) (va_cwS 3 hts gX12_isSet_X12_isIn rfl rfl rfl (by decide +kernel) ⟨Nat.le_of_ble_eq_true rfl, Nat.le_of_ble_eq_true rfl⟩) (c_preS hK hP hE hS) rfl rfl hl.1 rfl (lv_room (Nat.le_of_ble_eq_true rfl)) dX12_isSet_5 ⟨Nat.zero_le _, Nat.zero_le _⟩) hS (fun H locs hP hS => ?_)
  exact c_iret hx hb hr hlk hP hS (c_bN (bX12_isIn a1 ((0 : Int32)) ((4095 : Int32)))) ⟨rfl, hf⟩ dX12_isSet_8
theorem bX12_isSet (a1 : Int32) : fX12_isSet a1 = 0 ∨ fX12_isSet a1 = 1 := by
  unfold fX12_isSet
  first | exact bX12_isIn _ _ _ | (repeat' split) <;> first | exact Or.inl rfl | exact Or.inr rfl
theorem dX12_orNever_0 : decode cX12_orNever 0 = .ok (.iload_n 0, 1) := by decide +kernel
theorem dX12_orNever_1 : decode cX12_orNever 1 = .ok (.iconst (-1), 1) := by decide +kernel
theorem dX12_orNever_2 : decode cX12_orNever 2 = .ok (.if_icmp .ne 8, 3) := by decide +kernel
theorem dX12_orNever_5 : decode cX12_orNever 5 = .ok (.bipush (-5), 2) := by decide +kernel
theorem dX12_orNever_7 : decode cX12_orNever 7 = .ok (.goto 4, 3) := by decide +kernel
theorem dX12_orNever_10 : decode cX12_orNever 10 = .ok (.iload_n 0, 1) := by decide +kernel
theorem dX12_orNever_11 : decode cX12_orNever 11 = .ok (.ireturn, 1) := by decide +kernel
def fX12_orNever (a1 : Int32) : Int32 :=
  if a1 = (-1 : Int32) then ((-5 : Int32)) else (a1)
set_option maxRecDepth 100000 in
set_option maxHeartbeats 4000000 in
theorem kX12_orNever {l : Launch} {D : va_G} {tc : Nat → ClassId} {ad : Nat → Nat} {A : Nat → Prop} {E : (Nat → Nat) × (Nat → Nat) × Nat} {T : List c_T} {a1 : Int32} {g : c_G} {r : Int32} (hf : fX12_orNever a1 = r) : c_Mi l yX12_orNever wsX12_orNever (c_rm 0) D tc ad A E T ([.int a1] : List Value) g g r := by
  refine c_ofW (bytes := cX12_orNever) (maxL := 1) (ret := (some .int)) (by decide) rfl (Nat.le_of_ble_eq_true rfl) ?_
  intro p e s m below meth c ls C hP hS hl
  unfold fX12_orNever at hf
  obtain ⟨hx, hb, hr, hml, hts, hown, hlk, hK, hE⟩ := id C
  have hl : lv_has ls 1 [(0, .int a1)] := hl
  refine lv_iload_n hx hb dX12_orNever_0 rfl (lv_at hl 0 rfl) ?_
  refine lv_iconst (v := (-1 : Int32)) hx hb dX12_orNever_1 (by decide) ?_
  refine lv_icmp_ne (tgt := 10) hx hb dX12_orNever_2 (by decide) (fun c1 => ?_) (fun c1 => ?_)
  · have hf := c_ie c1 hf
    refine lv_iload_n hx hb dX12_orNever_10 rfl (lv_at hl 0 rfl) ?_
    exact c_iret hx hb hr hlk hP hS rfl ⟨rfl, hf⟩ dX12_orNever_11
  · have hf := c_it c1 hf
    refine lv_bipush (v := (-5 : Int32)) hx hb dX12_orNever_5 (by decide) ?_
    refine lv_goto (tgt := 11) hx hb dX12_orNever_7 (by decide) ?_
    exact c_iret hx hb hr hlk hP hS rfl ⟨rfl, hf⟩ dX12_orNever_11
theorem i_X12_one_X12 : ∀ w ∈ u_ws RX12 TX12 32, w ∈ wsX12_one := c_inP [2, 3, 4, 5, 6, 7, 8, 9, 10, 11, 12, 13, 14, 15, 16, 17, 18, 19, 20, 21, 22, 23, 24, 25, 26, 27, 28, 29, 30, 31, 32, 33] (by decide +kernel)
theorem dX12_one_0 : decode cX12_one 0 = .ok (.aload_n 0, 1) := by decide +kernel
theorem dX12_one_1 : decode cX12_one 1 = .ok (.getfield 15, 3) := by decide +kernel
theorem dX12_one_4 : decode cX12_one 4 = .ok (.bipush 24, 2) := by decide +kernel
theorem dX12_one_6 : decode cX12_one 6 = .ok (.bipush 9, 2) := by decide +kernel
theorem dX12_one_8 : decode cX12_one 8 = .ok (.iload_n 1, 1) := by decide +kernel
theorem dX12_one_9 : decode cX12_one 9 = .ok (.imul, 1) := by decide +kernel
theorem dX12_one_10 : decode cX12_one 10 = .ok (.iadd, 1) := by decide +kernel
theorem dX12_one_11 : decode cX12_one 11 = .ok (.iload_n 2, 1) := by decide +kernel
theorem dX12_one_12 : decode cX12_one 12 = .ok (.iadd, 1) := by decide +kernel
theorem dX12_one_13 : decode cX12_one 13 = .ok (.iaload, 1) := by decide +kernel
theorem dX12_one_14 : decode cX12_one 14 = .ok (.ireturn, 1) := by decide +kernel
def fX12_one (g : c_G) (a1 : Int32) (a2 : Int32) : Option (Int32) :=
  if c_in ((((24 : Int32) + ((9 : Int32) * a1)) + a2)) (136) = true then some (g.1 1 ((((24 : Int32) + ((9 : Int32) * a1)) + a2)).toNatClampNeg) else none
set_option maxRecDepth 100000 in
set_option maxHeartbeats 4000000 in
theorem kX12_one {l : Launch} {D : va_G} {tc : Nat → ClassId} {ad : Nat → Nat} {A : Nat → Prop} {E : (Nat → Nat) × (Nat → Nat) × Nat} (hD : c_D A ad TM) {a1 : Int32} {a2 : Int32} {g : c_G} {r : Int32} (hf : fX12_one g a1 a2 = some r) : c_Mi l yX12_one wsX12_one (c_rm 0) D tc ad A E TM ([.ref (ad 0), .int a1, .int a2] : List Value) g g r := by
  refine c_ofW (bytes := cX12_one) (maxL := 3) (ret := (some .int)) (by decide) rfl (Nat.le_of_ble_eq_true rfl) ?_
  intro p e s m below meth c ls C hP hS hl
  unfold fX12_one at hf
  obtain ⟨hx, hb, hr, hml, hts, hown, hlk, hK, hE⟩ := id C
  have hl : lv_has ls 3 [(0, .ref (ad 0)), (1, .int a1), (2, .int a2)] := hl
  refine lv_aload_n hx hb dX12_one_0 rfl (lv_at hl 0 rfl) ?_
  refine c_get hx hb hts i_X12_one_X12 hown hK hP 0 tM0 rfl 0 (by decide) (hts _ (List.mem_of_getElem? (i := 1) rfl)) (fun _ h9 => h9) rfl (v := .ref (ad 1)) rfl dX12_one_1 ?_
  refine lv_bipush (v := (24 : Int32)) hx hb dX12_one_4 (by decide) ?_
  refine lv_bipush (v := (9 : Int32)) hx hb dX12_one_6 (by decide) ?_
  refine lv_iload_n hx hb dX12_one_8 rfl (lv_at hl 1 rfl) ?_
  refine lv_imul hx hb dX12_one_9 ?_
  refine lv_iadd hx hb dX12_one_10 ?_
  refine lv_iload_n hx hb dX12_one_11 rfl (lv_at hl 2 rfl) ?_
  refine lv_iadd hx hb dX12_one_12 ?_
  obtain ⟨hi1, hf⟩ := c_gd hf
  refine c_iald (j := ((((24 : Int32) + ((9 : Int32) * a1)) + a2)).toNatClampNeg) hx hb hK hP 1 tM1 rfl (c_inV hi1) dX12_one_13 ?_
  exact c_iret hx hb hr hlk hP hS rfl ⟨rfl, Option.some.inj hf⟩ dX12_one_14
theorem i_X12_change_X12 : ∀ w ∈ u_ws RX12 TX12 32, w ∈ wsX12_change := c_inP [7, 8, 9, 10, 11, 12, 13, 14, 15, 16, 17, 18, 19, 20, 21, 22, 23, 24, 25, 26, 27, 28, 29, 30, 31, 32, 33, 34, 35, 36, 37, 38] (by decide +kernel)
theorem dX12_change_0 : decode cX12_change 0 = .ok (.aload_n 0, 1) := by decide +kernel
theorem dX12_change_1 : decode cX12_change 1 = .ok (.iload_n 1, 1) := by decide +kernel
theorem dX12_change_2 : decode cX12_change 2 = .ok (.iload_n 2, 1) := by decide +kernel
theorem dX12_change_3 : decode cX12_change 3 = .ok (.invokevirtual 89, 3) := by decide +kernel
theorem dX12_change_6 : decode cX12_change 6 = .ok (.istore 4, 2) := by decide +kernel
theorem dX12_change_8 : decode cX12_change 8 = .ok (.aload_n 0, 1) := by decide +kernel
theorem dX12_change_9 : decode cX12_change 9 = .ok (.getfield 15, 3) := by decide +kernel
theorem dX12_change_12 : decode cX12_change 12 = .ok (.bipush 24, 2) := by decide +kernel
theorem dX12_change_14 : decode cX12_change 14 = .ok (.bipush 9, 2) := by decide +kernel
theorem dX12_change_16 : decode cX12_change 16 = .ok (.iload_n 1, 1) := by decide +kernel
theorem dX12_change_17 : decode cX12_change 17 = .ok (.imul, 1) := by decide +kernel
theorem dX12_change_18 : decode cX12_change 18 = .ok (.iadd, 1) := by decide +kernel
theorem dX12_change_19 : decode cX12_change 19 = .ok (.iload_n 2, 1) := by decide +kernel
theorem dX12_change_20 : decode cX12_change 20 = .ok (.iadd, 1) := by decide +kernel
theorem dX12_change_21 : decode cX12_change 21 = .ok (.iload_n 3, 1) := by decide +kernel
theorem dX12_change_22 : decode cX12_change 22 = .ok (.iastore, 1) := by decide +kernel
theorem dX12_change_23 : decode cX12_change 23 = .ok (.iload 4, 2) := by decide +kernel
theorem dX12_change_25 : decode cX12_change 25 = .ok (.ireturn, 1) := by decide +kernel
set_option maxRecDepth 20000 in
theorem ggX12_change_X12_one : GoodIn wsX12_change wsX12_one := goodIn_r _ [6, 1, 7, 8, 9, 10, 11, 12, 13, 14, 15, 16, 17, 18, 19, 20, 21, 22, 23, 24, 25, 26, 27, 28, 29, 30, 31, 32, 33, 34, 35, 36, 37, 38] (by decide +kernel) (by decide +kernel)
set_option maxRecDepth 20000 in
theorem gX12_change_X12_one : GoodIn wsX12_change (wsV RX12 89 RX12 yX12_one wsX12_one) := goodIn_app (goodIn_of _ (by decide +kernel)) ggX12_change_X12_one
def fX12_change (g : c_G) (a1 : Int32) (a2 : Int32) (a3 : Int32) : Option (c_G × Int32) :=
  (fX12_one g a1 a2).bind fun r1 => if c_in ((((24 : Int32) + ((9 : Int32) * a1)) + a2)) (136) = true then c_let (c_si g 1 ((((24 : Int32) + ((9 : Int32) * a1)) + a2)).toNatClampNeg a3) fun g4 => some (g4, r1) else none
set_option maxRecDepth 100000 in
set_option maxHeartbeats 4000000 in
theorem kX12_change {l : Launch} {D : va_G} {tc : Nat → ClassId} {ad : Nat → Nat} {A : Nat → Prop} {E : (Nat → Nat) × (Nat → Nat) × Nat} (hD : c_D A ad TM) {a1 : Int32} {a2 : Int32} {a3 : Int32} {g g' : c_G} {r : Int32} (hf : fX12_change g a1 a2 a3 = some (g', r)) : c_Mi l yX12_change wsX12_change (c_rm 1) D tc ad A E TM ([.ref (ad 0), .int a1, .int a2, .int a3] : List Value) g g' r := by
  refine c_ofW (bytes := cX12_change) (maxL := 5) (ret := (some .int)) (by decide) rfl (Nat.le_of_ble_eq_true rfl) ?_
  intro p e s m below meth c ls C hP hS hl
  unfold fX12_change at hf
  obtain ⟨hx, hb, hr, hml, hts, hown, hlk, hK, hE⟩ := id C
  have hl : lv_has ls 5 [(0, .ref (ad 0)), (1, .int a1), (2, .int a2), (3, .int a3)] := hl
  refine lv_aload_n hx hb dX12_change_0 rfl (lv_at hl 0 rfl) ?_
  refine lv_iload_n hx hb dX12_change_1 rfl (lv_at hl 1 rfl) ?_
  refine lv_iload_n hx hb dX12_change_2 rfl (lv_at hl 2 rfl) ?_
  obtain ⟨r1, hc2, hf⟩ := c_bd hf
  refine c_goi (va_runV (As := [.int a1, .int a2]) (rest := []) ⟨hx, hb, hml, hown, hts⟩ (kX12_one hD hc2) (cwV 2 hts gX12_change_X12_one rfl rfl rfl (by decide +kernel) ⟨Nat.le_of_ble_eq_true rfl, Nat.le_of_ble_eq_true rfl⟩) (c_preV hK hP hE hS tM0 rfl) rfl rfl hl.1 rfl (lv_room (Nat.le_of_ble_eq_true rfl)) dX12_change_3 ⟨Nat.zero_le _, Nat.zero_le _⟩) hS (fun H locs hP hS => ?_)
  refine lv_istore (lv' := [(4, .int r1), (0, .ref (ad 0)), (1, .int a1), (2, .int a2), (3, .int a3)]) hx hb dX12_change_6 hl (by decide) rfl (fun ls hl => ?_)
  refine lv_aload_n hx hb dX12_change_8 rfl (lv_at hl 1 rfl) ?_
  refine c_get hx hb hts i_X12_change_X12 hown hK hP 0 tM0 rfl 0 (by decide) (hts _ (List.mem_of_getElem? (i := 1) rfl)) (fun _ h9 => h9) rfl (v := .ref (ad 1)) rfl dX12_change_9 ?_
  refine lv_bipush (v := (24 : Int32)) hx hb dX12_change_12 (by decide) ?_
  refine lv_bipush (v := (9 : Int32)) hx hb dX12_change_14 (by decide) ?_
  refine lv_iload_n hx hb dX12_change_16 rfl (lv_at hl 2 rfl) ?_
  refine lv_imul hx hb dX12_change_17 ?_
  refine lv_iadd hx hb dX12_change_18 ?_
  refine lv_iload_n hx hb dX12_change_19 rfl (lv_at hl 3 rfl) ?_
  refine lv_iadd hx hb dX12_change_20 ?_
  refine lv_iload_n hx hb dX12_change_21 rfl (lv_at hl 4 rfl) ?_
  obtain ⟨hi3, hf⟩ := c_gd hf
  obtain ⟨g4, eg4, hf⟩ := c_letE hf
  refine c_iast (j := ((((24 : Int32) + ((9 : Int32) * a1)) + a2)).toNatClampNeg) hx hb hK hP hD hS 1 tM1 rfl (c_inV hi3) eg4 dX12_change_22 (fun H locs hP hS => ?_)
  refine lv_iload hx hb dX12_change_23 (lv_at hl 0 rfl) ?_
  exact c_iret hx hb hr hlk hP hS rfl (c_inj hf) dX12_change_25
theorem dX12_of_0 : decode cX12_of 0 = .ok (.aload_n 1, 1) := by decide +kernel
theorem dX12_of_1 : decode cX12_of 1 = .ok (.iconst 4, 1) := by decide +kernel
theorem dX12_of_2 : decode cX12_of 2 = .ok (.iload_n 2, 1) := by decide +kernel
theorem dX12_of_3 : decode cX12_of 3 = .ok (.imul, 1) := by decide +kernel
theorem dX12_of_4 : decode cX12_of 4 = .ok (.iload_n 3, 1) := by decide +kernel
theorem dX12_of_5 : decode cX12_of 5 = .ok (.iadd, 1) := by decide +kernel
theorem dX12_of_6 : decode cX12_of 6 = .ok (.iaload, 1) := by decide +kernel
theorem dX12_of_7 : decode cX12_of 7 = .ok (.ireturn, 1) := by decide +kernel
def fX12_of (g : c_G) (a2 : Int32) (a3 : Int32) : Option (Int32) :=
  if c_in ((((4 : Int32) * a2) + a3)) (136) = true then some (g.1 1 ((((4 : Int32) * a2) + a3)).toNatClampNeg) else none
set_option maxRecDepth 100000 in
set_option maxHeartbeats 4000000 in
theorem kX12_of {l : Launch} {D : va_G} {tc : Nat → ClassId} {ad : Nat → Nat} {A : Nat → Prop} {E : (Nat → Nat) × (Nat → Nat) × Nat} (hD : c_D A ad TM) {a2 : Int32} {a3 : Int32} {g : c_G} {r : Int32} (hf : fX12_of g a2 a3 = some r) : c_Mi l yX12_of wsX12_of (c_rm 0) D tc ad A E TM ([.ref (ad 0), .ref (ad 1), .int a2, .int a3] : List Value) g g r := by
  refine c_ofW (bytes := cX12_of) (maxL := 4) (ret := (some .int)) (by decide) rfl (Nat.le_of_ble_eq_true rfl) ?_
  intro p e s m below meth c ls C hP hS hl
  unfold fX12_of at hf
  obtain ⟨hx, hb, hr, hml, hts, hown, hlk, hK, hE⟩ := id C
  have hl : lv_has ls 4 [(0, .ref (ad 0)), (1, .ref (ad 1)), (2, .int a2), (3, .int a3)] := hl
  refine lv_aload_n hx hb dX12_of_0 rfl (lv_at hl 1 rfl) ?_
  refine lv_iconst (v := (4 : Int32)) hx hb dX12_of_1 (by decide) ?_
  refine lv_iload_n hx hb dX12_of_2 rfl (lv_at hl 2 rfl) ?_
  refine lv_imul hx hb dX12_of_3 ?_
  refine lv_iload_n hx hb dX12_of_4 rfl (lv_at hl 3 rfl) ?_
  refine lv_iadd hx hb dX12_of_5 ?_
  obtain ⟨hi1, hf⟩ := c_gd hf
  refine c_iald (j := ((((4 : Int32) * a2) + a3)).toNatClampNeg) hx hb hK hP 1 tM1 rfl (c_inV hi1) dX12_of_6 ?_
  exact c_iret hx hb hr hlk hP hS rfl ⟨rfl, Option.some.inj hf⟩ dX12_of_7
theorem dX12_many_0 : decode cX12_many 0 = .ok (.iconst 0, 1) := by decide +kernel
theorem dX12_many_1 : decode cX12_many 1 = .ok (.istore_n 1, 1) := by decide +kernel
theorem dX12_many_2 : decode cX12_many 2 = .ok (.iconst 0, 1) := by decide +kernel
theorem dX12_many_3 : decode cX12_many 3 = .ok (.istore_n 2, 1) := by decide +kernel
theorem dX12_many_4 : decode cX12_many 4 = .ok (.iload_n 2, 1) := by decide +kernel
theorem dX12_many_5 : decode cX12_many 5 = .ok (.bipush 12, 2) := by decide +kernel
theorem dX12_many_7 : decode cX12_many 7 = .ok (.if_icmp .ge 17, 3) := by decide +kernel
theorem dX12_many_10 : decode cX12_many 10 = .ok (.iload_n 1, 1) := by decide +kernel
theorem dX12_many_11 : decode cX12_many 11 = .ok (.iload_n 0, 1) := by decide +kernel
theorem dX12_many_12 : decode cX12_many 12 = .ok (.iload_n 2, 1) := by decide +kernel
theorem dX12_many_13 : decode cX12_many 13 = .ok (.ishr, 1) := by decide +kernel
theorem dX12_many_14 : decode cX12_many 14 = .ok (.iconst 1, 1) := by decide +kernel
theorem dX12_many_15 : decode cX12_many 15 = .ok (.iand, 1) := by decide +kernel
theorem dX12_many_16 : decode cX12_many 16 = .ok (.iadd, 1) := by decide +kernel
theorem dX12_many_17 : decode cX12_many 17 = .ok (.istore_n 1, 1) := by decide +kernel
theorem dX12_many_18 : decode cX12_many 18 = .ok (.iinc 2 1, 3) := by decide +kernel
theorem dX12_many_21 : decode cX12_many 21 = .ok (.goto (-17), 3) := by decide +kernel
theorem dX12_many_24 : decode cX12_many 24 = .ok (.iload_n 1, 1) := by decide +kernel
theorem dX12_many_25 : decode cX12_many 25 = .ok (.ireturn, 1) := by decide +kernel
def fX12_many_4  (a1 : Int32) : Nat → Int32 → Int32 → Int32 → c_G → Option (Int32)
  | 0, _, _, _, _ => none
  | n + 1, x0, x1, x2, g => if (12 : Int32) ≤ x2 then (some x1) else (c_let ((x1 + ((x0 >>> (x2 &&& 31)) &&& (1 : Int32)))) fun v4002 => c_let (x2 + (1 : Int32)) fun v4003 => (fX12_many_4 a1 n) x0 v4002 v4003 g)
set_option maxRecDepth 100000 in
set_option maxHeartbeats 4000000 in
theorem jX12_many_4 {p : Program} {l : Launch} {e : Env} {s : State} {m : MethodId} {below : List Frame} {meth : Method} {c : Code} {D : va_G} {tc : Nat → ClassId} {ad : Nat → Nat} {A : Nat → Prop} {E : (Nat → Nat) × (Nat → Nat) × Nat} {a1 : Int32} {r : Int32} (C : c_C p s m meth c D tc A E RX12 wsX12_many cX12_many 3 (some .int) ([.int a1] : List Value).toArray) (hD : c_D A ad TM)  : ∀ (n : Nat) (x0 : Int32) (x1 : Int32) (x2 : Int32) (g : c_G), fX12_many_4 a1 n x0 x1 x2 g = some r → ∀ (H : Heap) (locs : List Loc), va_P D vwCl (c_ws tc ad TM g) H → va_S A s.heap H locs → ∀ ls : Array Slot, lv_has ls 3 [(0, .int x0), (1, .int x1), (2, .int x2)] → W p l e (c_rm 0) s m ([.int a1] : List Value).toArray below meth c H locs 0 0 (MQ below (va_Qi (fun (x : Int32) (_ : Unit) => x = r) (fun _ t => va_P D vwCl (c_ws tc ad TM g) t.heap) A) ([.int a1] : List Value).toArray s 0 0 A) (F0 m 4 ls []) := by
  obtain ⟨hx, hb, hr, hml, hts, hown, hlk, hK, hE⟩ := id C
  intro n
  induction n with
  | zero =>
    intro x0 x1 x2 g hf
    cases hf
  | succ n ih =>
    intro x0 x1 x2 g hf H locs hP hS ls hl
    unfold fX12_many_4 at hf
    refine lv_iload_n hx hb dX12_many_4 rfl (lv_at hl 2 rfl) ?_
    refine lv_bipush (v := (12 : Int32)) hx hb dX12_many_5 (by decide) ?_
    refine lv_icmp_ge (tgt := 24) hx hb dX12_many_7 (by decide) (fun c4001 => ?_) (fun c4001 => ?_)
    · have hf := c_it c4001 hf
      refine lv_iload_n hx hb dX12_many_24 rfl (lv_at hl 1 rfl) ?_
      exact c_iret hx hb hr hlk hP hS rfl ⟨rfl, Option.some.inj hf⟩ dX12_many_25
    · have hf := c_ie c4001 hf
      refine lv_iload_n hx hb dX12_many_10 rfl (lv_at hl 1 rfl) ?_
      refine lv_iload_n hx hb dX12_many_11 rfl (lv_at hl 0 rfl) ?_
      refine lv_iload_n hx hb dX12_many_12 rfl (lv_at hl 2 rfl) ?_
      refine lv_ishr hx hb dX12_many_13 ?_
      refine lv_iconst (v := (1 : Int32)) hx hb dX12_many_14 (by decide) ?_
      refine lv_iand hx hb dX12_many_15 ?_
      refine lv_iadd hx hb dX12_many_16 ?_
      obtain ⟨v4002, ev4002, hf⟩ := c_letE hf
      refine c_topi ev4002 ?_
      refine lv_istore_n (lv' := [(1, .int v4002), (0, .int x0), (2, .int x2)]) hx hb dX12_many_17 rfl hl (by decide) rfl (fun ls hl => ?_)
      obtain ⟨v4003, ev4003, hf⟩ := c_letE hf
      refine lv_iinc (v := v4003) (lv' := [(2, .int v4003), (1, .int v4002), (0, .int x0)]) hx hb dX12_many_18 hl (k := 2) rfl (by rw [ev4003]; rfl) (by decide) rfl (fun ls hl => ?_)
      refine lv_goto (tgt := 4) hx hb dX12_many_21 (by decide) ?_
      exact ih x0 v4002 v4003 g hf _ _ hP hS _ (lv_sub hl [2, 1, 0] rfl)
def fX12_many (g : c_G) (a1 : Int32) : Option (Int32) :=
  fX12_many_4 a1 c_F a1 ((0 : Int32)) ((0 : Int32)) g
set_option maxRecDepth 100000 in
set_option maxHeartbeats 4000000 in
theorem kX12_many {l : Launch} {D : va_G} {tc : Nat → ClassId} {ad : Nat → Nat} {A : Nat → Prop} {E : (Nat → Nat) × (Nat → Nat) × Nat} (hD : c_D A ad TM) {a1 : Int32} {g : c_G} {r : Int32} (hf : fX12_many g a1 = some r) : c_Mi l yX12_many wsX12_many (c_rm 0) D tc ad A E TM ([.int a1] : List Value) g g r := by
  refine c_ofW (bytes := cX12_many) (maxL := 3) (ret := (some .int)) (by decide) rfl (Nat.le_of_ble_eq_true rfl) ?_
  intro p e s m below meth c ls C hP hS hl
  unfold fX12_many at hf
  obtain ⟨hx, hb, hr, hml, hts, hown, hlk, hK, hE⟩ := id C
  have hl : lv_has ls 3 [(0, .int a1)] := hl
  refine lv_iconst (v := (0 : Int32)) hx hb dX12_many_0 (by decide) ?_
  refine lv_istore_n (lv' := [(1, .int (0 : Int32)), (0, .int a1)]) hx hb dX12_many_1 rfl hl (by decide) rfl (fun ls hl => ?_)
  refine lv_iconst (v := (0 : Int32)) hx hb dX12_many_2 (by decide) ?_
  refine lv_istore_n (lv' := [(2, .int (0 : Int32)), (1, .int (0 : Int32)), (0, .int a1)]) hx hb dX12_many_3 rfl hl (by decide) rfl (fun ls hl => ?_)
  exact jX12_many_4 C hD c_F a1 ((0 : Int32)) ((0 : Int32)) g hf _ _ hP hS _ (lv_sub hl [2, 1, 0] rfl)
theorem i_X12_child_X12 : ∀ w ∈ u_ws RX12 TX12 32, w ∈ wsX12_child := c_inP [17, 18, 19, 20, 21, 22, 23, 24, 25, 26, 27, 28, 29, 30, 31, 32, 33, 34, 35, 36, 37, 38, 39, 40, 41, 42, 43, 44, 45, 46, 47, 48] (by decide +kernel)
theorem dX12_child_0 : decode cX12_child 0 = .ok (.iload_n 1, 1) := by decide +kernel
theorem dX12_child_1 : decode cX12_child 1 = .ok (.iconst 0, 1) := by decide +kernel
theorem dX12_child_2 : decode cX12_child 2 = .ok (.bipush 6, 2) := by decide +kernel
theorem dX12_child_4 : decode cX12_child 4 = .ok (.invokestatic 85, 3) := by decide +kernel
theorem dX12_child_7 : decode cX12_child 7 = .ok (.ifCond .ne 5, 3) := by decide +kernel
theorem dX12_child_10 : decode cX12_child 10 = .ok (.iconst (-1), 1) := by decide +kernel
theorem dX12_child_11 : decode cX12_child 11 = .ok (.ireturn, 1) := by decide +kernel
theorem dX12_child_12 : decode cX12_child 12 = .ok (.iload_n 2, 1) := by decide +kernel
theorem dX12_child_13 : decode cX12_child 13 = .ok (.iconst 0, 1) := by decide +kernel
theorem dX12_child_14 : decode cX12_child 14 = .ok (.bipush 9, 2) := by decide +kernel
theorem dX12_child_16 : decode cX12_child 16 = .ok (.invokestatic 85, 3) := by decide +kernel
theorem dX12_child_19 : decode cX12_child 19 = .ok (.ifCond .eq 10, 3) := by decide +kernel
theorem dX12_child_22 : decode cX12_child 22 = .ok (.iload_n 3, 1) := by decide +kernel
theorem dX12_child_23 : decode cX12_child 23 = .ok (.invokestatic 93, 3) := by decide +kernel
theorem dX12_child_26 : decode cX12_child 26 = .ok (.ifCond .ne 6, 3) := by decide +kernel
theorem dX12_child_29 : decode cX12_child 29 = .ok (.bipush (-2), 2) := by decide +kernel
theorem dX12_child_31 : decode cX12_child 31 = .ok (.ireturn, 1) := by decide +kernel
theorem dX12_child_32 : decode cX12_child 32 = .ok (.aload_n 0, 1) := by decide +kernel
theorem dX12_child_33 : decode cX12_child 33 = .ok (.getfield 15, 3) := by decide +kernel
theorem dX12_child_36 : decode cX12_child 36 = .ok (.bipush 78, 2) := by decide +kernel
theorem dX12_child_38 : decode cX12_child 38 = .ok (.iaload, 1) := by decide +kernel
theorem dX12_child_39 : decode cX12_child 39 = .ok (.istore 4, 2) := by decide +kernel
theorem dX12_child_41 : decode cX12_child 41 = .ok (.iload 4, 2) := by decide +kernel
theorem dX12_child_43 : decode cX12_child 43 = .ok (.bipush 6, 2) := by decide +kernel
theorem dX12_child_45 : decode cX12_child 45 = .ok (.if_icmp .ne 6, 3) := by decide +kernel
theorem dX12_child_48 : decode cX12_child 48 = .ok (.bipush (-4), 2) := by decide +kernel
theorem dX12_child_50 : decode cX12_child 50 = .ok (.ireturn, 1) := by decide +kernel
theorem dX12_child_51 : decode cX12_child 51 = .ok (.iconst 0, 1) := by decide +kernel
theorem dX12_child_52 : decode cX12_child 52 = .ok (.istore 5, 2) := by decide +kernel
theorem dX12_child_54 : decode cX12_child 54 = .ok (.iload 5, 2) := by decide +kernel
theorem dX12_child_56 : decode cX12_child 56 = .ok (.bipush 9, 2) := by decide +kernel
theorem dX12_child_58 : decode cX12_child 58 = .ok (.if_icmp .ge 19, 3) := by decide +kernel
theorem dX12_child_61 : decode cX12_child 61 = .ok (.aload_n 0, 1) := by decide +kernel
theorem dX12_child_62 : decode cX12_child 62 = .ok (.iload 4, 2) := by decide +kernel
theorem dX12_child_64 : decode cX12_child 64 = .ok (.iload 5, 2) := by decide +kernel
theorem dX12_child_66 : decode cX12_child 66 = .ok (.iconst 0, 1) := by decide +kernel
theorem dX12_child_67 : decode cX12_child 67 = .ok (.invokevirtual 97, 3) := by decide +kernel
theorem dX12_child_70 : decode cX12_child 70 = .ok (.pop, 1) := by decide +kernel
theorem dX12_child_71 : decode cX12_child 71 = .ok (.iinc 5 1, 3) := by decide +kernel
theorem dX12_child_74 : decode cX12_child 74 = .ok (.goto (-20), 3) := by decide +kernel
theorem dX12_child_77 : decode cX12_child 77 = .ok (.aload_n 0, 1) := by decide +kernel
theorem dX12_child_78 : decode cX12_child 78 = .ok (.iload 4, 2) := by decide +kernel
theorem dX12_child_80 : decode cX12_child 80 = .ok (.iconst 0, 1) := by decide +kernel
theorem dX12_child_81 : decode cX12_child 81 = .ok (.iload_n 1, 1) := by decide +kernel
theorem dX12_child_82 : decode cX12_child 82 = .ok (.invokevirtual 97, 3) := by decide +kernel
theorem dX12_child_85 : decode cX12_child 85 = .ok (.pop, 1) := by decide +kernel
theorem dX12_child_86 : decode cX12_child 86 = .ok (.aload_n 0, 1) := by decide +kernel
theorem dX12_child_87 : decode cX12_child 87 = .ok (.iload 4, 2) := by decide +kernel
theorem dX12_child_89 : decode cX12_child 89 = .ok (.iconst 1, 1) := by decide +kernel
theorem dX12_child_90 : decode cX12_child 90 = .ok (.iload_n 2, 1) := by decide +kernel
theorem dX12_child_91 : decode cX12_child 91 = .ok (.invokevirtual 97, 3) := by decide +kernel
theorem dX12_child_94 : decode cX12_child 94 = .ok (.pop, 1) := by decide +kernel
theorem dX12_child_95 : decode cX12_child 95 = .ok (.aload_n 0, 1) := by decide +kernel
theorem dX12_child_96 : decode cX12_child 96 = .ok (.iload 4, 2) := by decide +kernel
theorem dX12_child_98 : decode cX12_child 98 = .ok (.iconst 2, 1) := by decide +kernel
theorem dX12_child_99 : decode cX12_child 99 = .ok (.iload_n 3, 1) := by decide +kernel
theorem dX12_child_100 : decode cX12_child 100 = .ok (.invokevirtual 97, 3) := by decide +kernel
theorem dX12_child_103 : decode cX12_child 103 = .ok (.pop, 1) := by decide +kernel
theorem dX12_child_104 : decode cX12_child 104 = .ok (.aload_n 0, 1) := by decide +kernel
theorem dX12_child_105 : decode cX12_child 105 = .ok (.iload 4, 2) := by decide +kernel
theorem dX12_child_107 : decode cX12_child 107 = .ok (.iconst 4, 1) := by decide +kernel
theorem dX12_child_108 : decode cX12_child 108 = .ok (.iconst (-1), 1) := by decide +kernel
theorem dX12_child_109 : decode cX12_child 109 = .ok (.invokevirtual 97, 3) := by decide +kernel
theorem dX12_child_112 : decode cX12_child 112 = .ok (.pop, 1) := by decide +kernel
theorem dX12_child_113 : decode cX12_child 113 = .ok (.aload_n 0, 1) := by decide +kernel
theorem dX12_child_114 : decode cX12_child 114 = .ok (.getfield 15, 3) := by decide +kernel
theorem dX12_child_117 : decode cX12_child 117 = .ok (.bipush 78, 2) := by decide +kernel
theorem dX12_child_119 : decode cX12_child 119 = .ok (.dup2, 1) := by decide +kernel
theorem dX12_child_120 : decode cX12_child 120 = .ok (.iaload, 1) := by decide +kernel
theorem dX12_child_121 : decode cX12_child 121 = .ok (.iconst 1, 1) := by decide +kernel
theorem dX12_child_122 : decode cX12_child 122 = .ok (.iadd, 1) := by decide +kernel
theorem dX12_child_123 : decode cX12_child 123 = .ok (.iastore, 1) := by decide +kernel
theorem dX12_child_124 : decode cX12_child 124 = .ok (.iload 4, 2) := by decide +kernel
theorem dX12_child_126 : decode cX12_child 126 = .ok (.ireturn, 1) := by decide +kernel
set_option maxRecDepth 20000 in
theorem ggX12_child_X12_isIn : GoodIn wsX12_child wsX12_isIn := goodIn_r _ [5] (by decide +kernel) (by decide +kernel)
set_option maxRecDepth 20000 in
theorem gX12_child_X12_isIn : GoodIn wsX12_child (va_wsS RX12 85 yX12_isIn wsX12_isIn) := goodIn_app (goodIn_of _ (by decide +kernel)) ggX12_child_X12_isIn
set_option maxRecDepth 20000 in
theorem ggX12_child_X12_isSet : GoodIn wsX12_child wsX12_isSet := goodIn_r _ [8, 2, 3, 4, 5] (by decide +kernel) (by decide +kernel)
set_option maxRecDepth 20000 in
theorem gX12_child_X12_isSet : GoodIn wsX12_child (va_wsS RX12 93 yX12_isSet wsX12_isSet) := goodIn_app (goodIn_of _ (by decide +kernel)) ggX12_child_X12_isSet
set_option maxRecDepth 20000 in
theorem ggX12_child_X12_change : GoodIn wsX12_child wsX12_change := goodIn_r _ [12, 1, 13, 14, 15, 4, 16, 17, 18, 19, 20, 21, 22, 23, 24, 25, 26, 27, 28, 29, 30, 31, 32, 33, 34, 35, 36, 37, 38, 39, 40, 41, 42, 43, 44, 45, 46, 47, 48] (by decide +kernel) (by decide +kernel)
set_option maxRecDepth 20000 in
theorem gX12_child_X12_change : GoodIn wsX12_child (wsV RX12 97 RX12 yX12_change wsX12_change) := goodIn_app (goodIn_of _ (by decide +kernel)) ggX12_child_X12_change
def fX12_child_54  (a1 : Int32) (a2 : Int32) (a3 : Int32) : Nat → Int32 → Int32 → Int32 → Int32 → Int32 → c_G → Option (c_G × Int32)
  | 0, _, _, _, _, _, _ => none
  | n + 1, x1, x2, x3, x4, x5, g => if (9 : Int32) ≤ x5 then (c_b2 (fX12_change g x4 ((0 : Int32)) x1) fun g54003 r54004 => c_b2 (fX12_change g54003 x4 ((1 : Int32)) x2) fun g54006 r54007 => c_b2 (fX12_change g54006 x4 ((2 : Int32)) x3) fun g54009 r54010 => c_b2 (fX12_change g54009 x4 ((4 : Int32)) ((-1 : Int32))) fun g54012 r54013 => c_let (((g54012.1 1 78) + (1 : Int32))) fun v54014 => c_let (c_si g54012 1 78 v54014) fun g54015 => some (g54015, x4)) else (c_b2 (fX12_change g x4 x5 ((0 : Int32))) fun g54017 r54018 => c_let (x5 + (1 : Int32)) fun v54019 => (fX12_child_54 a1 a2 a3 n) x1 x2 x3 x4 v54019 g54017)
set_option maxRecDepth 100000 in
set_option maxHeartbeats 4000000 in
theorem jX12_child_54 {p : Program} {l : Launch} {e : Env} {s : State} {m : MethodId} {below : List Frame} {meth : Method} {c : Code} {D : va_G} {tc : Nat → ClassId} {ad : Nat → Nat} {A : Nat → Prop} {E : (Nat → Nat) × (Nat → Nat) × Nat} {a1 : Int32} {a2 : Int32} {a3 : Int32} {g' : c_G} {r : Int32} (C : c_C p s m meth c D tc A E RX12 wsX12_child cX12_child 6 (some .int) ([.ref (ad 0), .int a1, .int a2, .int a3] : List Value).toArray) (hD : c_D A ad TM)  : ∀ (n : Nat) (x1 : Int32) (x2 : Int32) (x3 : Int32) (x4 : Int32) (x5 : Int32) (g : c_G), fX12_child_54 a1 a2 a3 n x1 x2 x3 x4 x5 g = some (g', r) → ∀ (H : Heap) (locs : List Loc), va_P D vwCl (c_ws tc ad TM g) H → va_S A s.heap H locs → ∀ ls : Array Slot, lv_has ls 6 [(0, .ref (ad 0)), (1, .int x1), (2, .int x2), (3, .int x3), (4, .int x4), (5, .int x5)] → W p l e (c_rm 2) s m ([.ref (ad 0), .int a1, .int a2, .int a3] : List Value).toArray below meth c H locs 0 0 (MQ below (va_Qi (fun (x : Int32) (_ : Unit) => x = r) (fun _ t => va_P D vwCl (c_ws tc ad TM g') t.heap) A) ([.ref (ad 0), .int a1, .int a2, .int a3] : List Value).toArray s 0 0 A) (F0 m 54 ls []) := by
  obtain ⟨hx, hb, hr, hml, hts, hown, hlk, hK, hE⟩ := id C
  intro n
  induction n with
  | zero =>
    intro x1 x2 x3 x4 x5 g hf
    cases hf
  | succ n ih =>
    intro x1 x2 x3 x4 x5 g hf H locs hP hS ls hl
    unfold fX12_child_54 at hf
    refine lv_iload hx hb dX12_child_54 (lv_at hl 5 rfl) ?_
    refine lv_bipush (v := (9 : Int32)) hx hb dX12_child_56 (by decide) ?_
    refine lv_icmp_ge (tgt := 77) hx hb dX12_child_58 (by decide) (fun c54001 => ?_) (fun c54001 => ?_)
    · have hf := c_it c54001 hf
      refine lv_aload_n hx hb dX12_child_77 rfl (lv_at hl 0 rfl) ?_
      refine lv_iload hx hb dX12_child_78 (lv_at hl 4 rfl) ?_
      refine lv_iconst (v := (0 : Int32)) hx hb dX12_child_80 (by decide) ?_
      refine lv_iload_n hx hb dX12_child_81 rfl (lv_at hl 1 rfl) ?_
      obtain ⟨g54003, r54004, hc54002, hf⟩ := c_b2E hf
      refine c_goi (va_runV (As := [.int x4, .int (0 : Int32), .int x1]) (rest := []) ⟨hx, hb, hml, hown, hts⟩ (kX12_change hD hc54002) (cwV 3 hts gX12_child_X12_change rfl rfl rfl (by decide +kernel) ⟨Nat.le_of_ble_eq_true rfl, Nat.le_of_ble_eq_true rfl⟩) (c_preV hK hP hE hS tM0 rfl) rfl rfl hl.1 rfl (lv_room (Nat.le_of_ble_eq_true rfl)) dX12_child_82 ⟨Nat.zero_le _, Nat.zero_le _⟩) hS (fun H locs hP hS => ?_)
      refine lv_pop hx hb dX12_child_85 rfl ?_
      refine lv_aload_n hx hb dX12_child_86 rfl (lv_at hl 0 rfl) ?_
      refine lv_iload hx hb dX12_child_87 (lv_at hl 4 rfl) ?_
      refine lv_iconst (v := (1 : Int32)) hx hb dX12_child_89 (by decide) ?_
      refine lv_iload_n hx hb dX12_child_90 rfl (lv_at hl 2 rfl) ?_
      obtain ⟨g54006, r54007, hc54005, hf⟩ := c_b2E hf
      refine c_goi (va_runV (As := [.int x4, .int (1 : Int32), .int x2]) (rest := []) ⟨hx, hb, hml, hown, hts⟩ (kX12_change hD hc54005) (cwV 3 hts gX12_child_X12_change rfl rfl rfl (by decide +kernel) ⟨Nat.le_of_ble_eq_true rfl, Nat.le_of_ble_eq_true rfl⟩) (c_preV hK hP hE hS tM0 rfl) rfl rfl hl.1 rfl (lv_room (Nat.le_of_ble_eq_true rfl)) dX12_child_91 ⟨Nat.zero_le _, Nat.zero_le _⟩) hS (fun H locs hP hS => ?_)
      refine lv_pop hx hb dX12_child_94 rfl ?_
      refine lv_aload_n hx hb dX12_child_95 rfl (lv_at hl 0 rfl) ?_
      refine lv_iload hx hb dX12_child_96 (lv_at hl 4 rfl) ?_
      refine lv_iconst (v := (2 : Int32)) hx hb dX12_child_98 (by decide) ?_
      refine lv_iload_n hx hb dX12_child_99 rfl (lv_at hl 3 rfl) ?_
      obtain ⟨g54009, r54010, hc54008, hf⟩ := c_b2E hf
      refine c_goi (va_runV (As := [.int x4, .int (2 : Int32), .int x3]) (rest := []) ⟨hx, hb, hml, hown, hts⟩ (kX12_change hD hc54008) (cwV 3 hts gX12_child_X12_change rfl rfl rfl (by decide +kernel) ⟨Nat.le_of_ble_eq_true rfl, Nat.le_of_ble_eq_true rfl⟩) (c_preV hK hP hE hS tM0 rfl) rfl rfl hl.1 rfl (lv_room (Nat.le_of_ble_eq_true rfl)) dX12_child_100 ⟨Nat.zero_le _, Nat.zero_le _⟩) hS (fun H locs hP hS => ?_)
      refine lv_pop hx hb dX12_child_103 rfl ?_
      refine lv_aload_n hx hb dX12_child_104 rfl (lv_at hl 0 rfl) ?_
      refine lv_iload hx hb dX12_child_105 (lv_at hl 4 rfl) ?_
      refine lv_iconst (v := (4 : Int32)) hx hb dX12_child_107 (by decide) ?_
      refine lv_iconst (v := (-1 : Int32)) hx hb dX12_child_108 (by decide) ?_
      obtain ⟨g54012, r54013, hc54011, hf⟩ := c_b2E hf
      refine c_goi (va_runV (As := [.int x4, .int (4 : Int32), .int (-1 : Int32)]) (rest := []) ⟨hx, hb, hml, hown, hts⟩ (kX12_change hD hc54011) (cwV 3 hts gX12_child_X12_change rfl rfl rfl (by decide +kernel) ⟨Nat.le_of_ble_eq_true rfl, Nat.le_of_ble_eq_true rfl⟩) (c_preV hK hP hE hS tM0 rfl) rfl rfl hl.1 rfl (lv_room (Nat.le_of_ble_eq_true rfl)) dX12_child_109 ⟨Nat.zero_le _, Nat.zero_le _⟩) hS (fun H locs hP hS => ?_)
      refine lv_pop hx hb dX12_child_112 rfl ?_
      refine lv_aload_n hx hb dX12_child_113 rfl (lv_at hl 0 rfl) ?_
      refine c_get hx hb hts i_X12_child_X12 hown hK hP 0 tM0 rfl 0 (by decide) (hts _ (List.mem_of_getElem? (i := 1) rfl)) (fun _ h9 => h9) rfl (v := .ref (ad 1)) rfl dX12_child_114 ?_
      refine lv_bipush (v := (78 : Int32)) hx hb dX12_child_117 (by decide) ?_
      refine lv_dup2_11 hx hb dX12_child_119 rfl rfl ?_
      refine c_iald (j := 78) hx hb hK hP 1 tM1 (by decide) (c_inV (by decide)) dX12_child_120 ?_
      refine lv_iconst (v := (1 : Int32)) hx hb dX12_child_121 (by decide) ?_
      refine lv_iadd hx hb dX12_child_122 ?_
      obtain ⟨v54014, ev54014, hf⟩ := c_letE hf
      refine c_topi ev54014 ?_
      obtain ⟨g54015, eg54015, hf⟩ := c_letE hf
      refine c_iast (j := 78) hx hb hK hP hD hS 1 tM1 (by decide) (c_inV (by decide)) eg54015 dX12_child_123 (fun H locs hP hS => ?_)
      refine lv_iload hx hb dX12_child_124 (lv_at hl 4 rfl) ?_
      exact c_iret hx hb hr hlk hP hS rfl (c_inj hf) dX12_child_126
    · have hf := c_ie c54001 hf
      refine lv_aload_n hx hb dX12_child_61 rfl (lv_at hl 0 rfl) ?_
      refine lv_iload hx hb dX12_child_62 (lv_at hl 4 rfl) ?_
      refine lv_iload hx hb dX12_child_64 (lv_at hl 5 rfl) ?_
      refine lv_iconst (v := (0 : Int32)) hx hb dX12_child_66 (by decide) ?_
      obtain ⟨g54017, r54018, hc54016, hf⟩ := c_b2E hf
      refine c_goi (va_runV (As := [.int x4, .int x5, .int (0 : Int32)]) (rest := []) ⟨hx, hb, hml, hown, hts⟩ (kX12_change hD hc54016) (cwV 3 hts gX12_child_X12_change rfl rfl rfl (by decide +kernel) ⟨Nat.le_of_ble_eq_true rfl, Nat.le_of_ble_eq_true rfl⟩) (c_preV hK hP hE hS tM0 rfl) rfl rfl hl.1 rfl (lv_room (Nat.le_of_ble_eq_true rfl)) dX12_child_67 ⟨Nat.zero_le _, Nat.zero_le _⟩) hS (fun H locs hP hS => ?_)
      refine lv_pop hx hb dX12_child_70 rfl ?_
      obtain ⟨v54019, ev54019, hf⟩ := c_letE hf
      refine lv_iinc (v := v54019) (lv' := [(5, .int v54019), (0, .ref (ad 0)), (1, .int x1), (2, .int x2), (3, .int x3), (4, .int x4)]) hx hb dX12_child_71 hl (k := 5) rfl (by rw [ev54019]; rfl) (by decide) rfl (fun ls hl => ?_)
      refine lv_goto (tgt := 54) hx hb dX12_child_74 (by decide) ?_
      exact ih x1 x2 x3 x4 v54019 g54017 hf _ _ hP hS _ (lv_sub hl [1, 2, 3, 4, 5, 0] rfl)
def fX12_child (g : c_G) (a1 : Int32) (a2 : Int32) (a3 : Int32) : Option (c_G × Int32) :=
  if (fX12_isIn a1 ((0 : Int32)) ((6 : Int32))) = 0 then (some (g, (-1 : Int32))) else (if (fX12_isIn a2 ((0 : Int32)) ((9 : Int32))) = 0 then (some (g, (-2 : Int32))) else (if (fX12_isSet a3) = 0 then (some (g, (-2 : Int32))) else (if (g.1 1 78) = (6 : Int32) then (some (g, (-4 : Int32))) else (fX12_child_54 a1 a2 a3 c_F a1 a2 a3 ((g.1 1 78)) ((0 : Int32)) g))))
set_option maxRecDepth 100000 in
set_option maxHeartbeats 4000000 in
theorem kX12_child {l : Launch} {D : va_G} {tc : Nat → ClassId} {ad : Nat → Nat} {A : Nat → Prop} {E : (Nat → Nat) × (Nat → Nat) × Nat} (hD : c_D A ad TM) {a1 : Int32} {a2 : Int32} {a3 : Int32} {g g' : c_G} {r : Int32} (hf : fX12_child g a1 a2 a3 = some (g', r)) : c_Mi l yX12_child wsX12_child (c_rm 2) D tc ad A E TM ([.ref (ad 0), .int a1, .int a2, .int a3] : List Value) g g' r := by
  refine c_ofW (bytes := cX12_child) (maxL := 6) (ret := (some .int)) (by decide) rfl (Nat.le_of_ble_eq_true rfl) ?_
  intro p e s m below meth c ls C hP hS hl
  unfold fX12_child at hf
  obtain ⟨hx, hb, hr, hml, hts, hown, hlk, hK, hE⟩ := id C
  have hl : lv_has ls 6 [(0, .ref (ad 0)), (1, .int a1), (2, .int a2), (3, .int a3)] := hl
  refine lv_iload_n hx hb dX12_child_0 rfl (lv_at hl 1 rfl) ?_
  refine lv_iconst (v := (0 : Int32)) hx hb dX12_child_1 (by decide) ?_
  refine lv_bipush (v := (6 : Int32)) hx hb dX12_child_2 (by decide) ?_
  refine c_goi (va_runS (As := [.int a1, .int (0 : Int32), .int (6 : Int32)]) (rest := []) ⟨hx, hb, hml, hown, hts⟩ (kX12_isIn (T := TM) (g := g) rfl) (va_cwS 3 hts gX12_child_X12_isIn rfl rfl rfl (by decide +kernel) ⟨Nat.le_of_ble_eq_true rfl, Nat.le_of_ble_eq_true rfl⟩) (c_preS hK hP hE hS) rfl rfl hl.1 rfl (lv_room (Nat.le_of_ble_eq_true rfl)) dX12_child_4 ⟨Nat.zero_le _, Nat.zero_le _⟩) hS (fun H locs hP hS => ?_)
  refine lv_if_ne (tgt := 12) hx hb dX12_child_7 (by decide) (fun c1 => ?_) (fun c1 => ?_)
  · have hf := c_ie c1 hf
    refine lv_iload_n hx hb dX12_child_12 rfl (lv_at hl 2 rfl) ?_
    refine lv_iconst (v := (0 : Int32)) hx hb dX12_child_13 (by decide) ?_
    refine lv_bipush (v := (9 : Int32)) hx hb dX12_child_14 (by decide) ?_
    refine c_goi (va_runS (As := [.int a2, .int (0 : Int32), .int (9 : Int32)]) (rest := []) ⟨hx, hb, hml, hown, hts⟩ (kX12_isIn (T := TM) (g := g) rfl) (va_cwS 3 hts gX12_child_X12_isIn rfl rfl rfl (by decide +kernel) ⟨Nat.le_of_ble_eq_true rfl, Nat.le_of_ble_eq_true rfl⟩) (c_preS hK hP hE hS) rfl rfl hl.1 rfl (lv_room (Nat.le_of_ble_eq_true rfl)) dX12_child_16 ⟨Nat.zero_le _, Nat.zero_le _⟩) hS (fun H locs hP hS => ?_)
    refine lv_if_eq (tgt := 29) hx hb dX12_child_19 (by decide) (fun c2 => ?_) (fun c2 => ?_)
    · have hf := c_it c2 hf
      refine lv_bipush (v := (-2 : Int32)) hx hb dX12_child_29 (by decide) ?_
      exact c_iret hx hb hr hlk hP hS rfl (c_inj hf) dX12_child_31
    · have hf := c_ie c2 hf
      refine lv_iload_n hx hb dX12_child_22 rfl (lv_at hl 3 rfl) ?_
      refine c_goi (va_runS (As := [.int a3]) (rest := []) ⟨hx, hb, hml, hown, hts⟩ (kX12_isSet (T := TM) (g := g) rfl) (va_cwS 1 hts gX12_child_X12_isSet rfl rfl rfl (by decide +kernel) ⟨Nat.le_of_ble_eq_true rfl, Nat.le_of_ble_eq_true rfl⟩) (c_preS hK hP hE hS) rfl rfl hl.1 rfl (lv_room (Nat.le_of_ble_eq_true rfl)) dX12_child_23 ⟨Nat.zero_le _, Nat.zero_le _⟩) hS (fun H locs hP hS => ?_)
      refine lv_if_ne (tgt := 32) hx hb dX12_child_26 (by decide) (fun c3 => ?_) (fun c3 => ?_)
      · have hf := c_ie c3 hf
        refine lv_aload_n hx hb dX12_child_32 rfl (lv_at hl 0 rfl) ?_
        refine c_get hx hb hts i_X12_child_X12 hown hK hP 0 tM0 rfl 0 (by decide) (hts _ (List.mem_of_getElem? (i := 1) rfl)) (fun _ h9 => h9) rfl (v := .ref (ad 1)) rfl dX12_child_33 ?_
        refine lv_bipush (v := (78 : Int32)) hx hb dX12_child_36 (by decide) ?_
        refine c_iald (j := 78) hx hb hK hP 1 tM1 (by decide) (c_inV (by decide)) dX12_child_38 ?_
        refine lv_istore (lv' := [(4, .int (g.1 1 78)), (0, .ref (ad 0)), (1, .int a1), (2, .int a2), (3, .int a3)]) hx hb dX12_child_39 hl (by decide) rfl (fun ls hl => ?_)
        refine lv_iload hx hb dX12_child_41 (lv_at hl 0 rfl) ?_
        refine lv_bipush (v := (6 : Int32)) hx hb dX12_child_43 (by decide) ?_
        refine lv_icmp_ne (tgt := 51) hx hb dX12_child_45 (by decide) (fun c4 => ?_) (fun c4 => ?_)
        · have hf := c_ie c4 hf
          refine lv_iconst (v := (0 : Int32)) hx hb dX12_child_51 (by decide) ?_
          refine lv_istore (lv' := [(5, .int (0 : Int32)), (4, .int (g.1 1 78)), (0, .ref (ad 0)), (1, .int a1), (2, .int a2), (3, .int a3)]) hx hb dX12_child_52 hl (by decide) rfl (fun ls hl => ?_)
          exact jX12_child_54 C hD c_F a1 a2 a3 ((g.1 1 78)) ((0 : Int32)) g hf _ _ hP hS _ (lv_sub hl [2, 3, 4, 5, 1, 0] rfl)
        · have hf := c_it c4 hf
          refine lv_bipush (v := (-4 : Int32)) hx hb dX12_child_48 (by decide) ?_
          exact c_iret hx hb hr hlk hP hS rfl (c_inj hf) dX12_child_50
      · have hf := c_it c3 hf
        refine lv_bipush (v := (-2 : Int32)) hx hb dX12_child_29 (by decide) ?_
        exact c_iret hx hb hr hlk hP hS rfl (c_inj hf) dX12_child_31
  · have hf := c_it c1 hf
    refine lv_iconst (v := (-1 : Int32)) hx hb dX12_child_10 (by decide) ?_
    exact c_iret hx hb hr hlk hP hS rfl (c_inj hf) dX12_child_11
theorem i_X12_isAt_X12 : ∀ w ∈ u_ws RX12 TX12 32, w ∈ wsX12_isAt := c_inP [5, 6, 7, 8, 9, 10, 11, 12, 13, 14, 15, 16, 17, 18, 19, 20, 21, 22, 23, 24, 25, 26, 27, 28, 29, 30, 31, 32, 33, 34, 35, 36] (by decide +kernel)
theorem dX12_isAt_0 : decode cX12_isAt 0 = .ok (.aload_n 0, 1) := by decide +kernel
theorem dX12_isAt_1 : decode cX12_isAt 1 = .ok (.getfield 141, 3) := by decide +kernel
theorem dX12_isAt_4 : decode cX12_isAt 4 = .ok (.ifCond .eq 31, 3) := by decide +kernel
theorem dX12_isAt_7 : decode cX12_isAt 7 = .ok (.aload_n 0, 1) := by decide +kernel
theorem dX12_isAt_8 : decode cX12_isAt 8 = .ok (.getfield 144, 3) := by decide +kernel
theorem dX12_isAt_11 : decode cX12_isAt 11 = .ok (.aload_n 0, 1) := by decide +kernel
theorem dX12_isAt_12 : decode cX12_isAt 12 = .ok (.getfield 147, 3) := by decide +kernel
theorem dX12_isAt_15 : decode cX12_isAt 15 = .ok (.if_icmp .ge 20, 3) := by decide +kernel
theorem dX12_isAt_18 : decode cX12_isAt 18 = .ok (.aload_n 0, 1) := by decide +kernel
theorem dX12_isAt_19 : decode cX12_isAt 19 = .ok (.getfield 34, 3) := by decide +kernel
theorem dX12_isAt_22 : decode cX12_isAt 22 = .ok (.aload_n 0, 1) := by decide +kernel
theorem dX12_isAt_23 : decode cX12_isAt 23 = .ok (.getfield 144, 3) := by decide +kernel
theorem dX12_isAt_26 : decode cX12_isAt 26 = .ok (.iaload, 1) := by decide +kernel
theorem dX12_isAt_27 : decode cX12_isAt 27 = .ok (.iload_n 1, 1) := by decide +kernel
theorem dX12_isAt_28 : decode cX12_isAt 28 = .ok (.if_icmp .ne 7, 3) := by decide +kernel
theorem dX12_isAt_31 : decode cX12_isAt 31 = .ok (.iconst 1, 1) := by decide +kernel
theorem dX12_isAt_32 : decode cX12_isAt 32 = .ok (.goto 4, 3) := by decide +kernel
theorem dX12_isAt_35 : decode cX12_isAt 35 = .ok (.iconst 0, 1) := by decide +kernel
theorem dX12_isAt_36 : decode cX12_isAt 36 = .ok (.ireturn, 1) := by decide +kernel
def fX12_isAt (g : c_G) (a1 : Int32) : Option (Int32) :=
  if (g.1 0 12) = 0 then (some (0 : Int32)) else (if (g.1 0 10) ≤ (g.1 0 11) then (some (0 : Int32)) else (if c_in ((g.1 0 11)) (100) = true then if (g.1 7 ((g.1 0 11)).toNatClampNeg) = a1 then (some (1 : Int32)) else (some (0 : Int32)) else none))
set_option maxRecDepth 100000 in
set_option maxHeartbeats 4000000 in
theorem kX12_isAt {l : Launch} {D : va_G} {tc : Nat → ClassId} {ad : Nat → Nat} {A : Nat → Prop} {E : (Nat → Nat) × (Nat → Nat) × Nat} (hD : c_D A ad TM) {a1 : Int32} {g : c_G} {r : Int32} (hf : fX12_isAt g a1 = some r) : c_Mi l yX12_isAt wsX12_isAt (c_rm 0) D tc ad A E TM ([.ref (ad 0), .int a1] : List Value) g g r := by
  refine c_ofW (bytes := cX12_isAt) (maxL := 2) (ret := (some .boolean)) (by decide) rfl (Nat.le_of_ble_eq_true rfl) ?_
  intro p e s m below meth c ls C hP hS hl
  unfold fX12_isAt at hf
  obtain ⟨hx, hb, hr, hml, hts, hown, hlk, hK, hE⟩ := id C
  have hl : lv_has ls 2 [(0, .ref (ad 0)), (1, .int a1)] := hl
  refine lv_aload_n hx hb dX12_isAt_0 rfl (lv_at hl 0 rfl) ?_
  refine c_get hx hb hts i_X12_isAt_X12 hown hK hP 0 tM0 rfl 12 (by decide) (hts _ (List.mem_of_getElem? (i := 1) rfl)) (fun _ h9 => h9) rfl (v := .int (g.1 0 12)) rfl dX12_isAt_1 ?_
  refine lv_if_eq (tgt := 35) hx hb dX12_isAt_4 (by decide) (fun c1 => ?_) (fun c1 => ?_)
  · have hf := c_it c1 hf
    refine lv_iconst (v := (0 : Int32)) hx hb dX12_isAt_35 (by decide) ?_
    exact c_iret hx hb hr hlk hP hS rfl ⟨rfl, Option.some.inj hf⟩ dX12_isAt_36
  · have hf := c_ie c1 hf
    refine lv_aload_n hx hb dX12_isAt_7 rfl (lv_at hl 0 rfl) ?_
    refine c_get hx hb hts i_X12_isAt_X12 hown hK hP 0 tM0 rfl 11 (by decide) (hts _ (List.mem_of_getElem? (i := 2) rfl)) (fun _ h9 => h9) rfl (v := .int (g.1 0 11)) rfl dX12_isAt_8 ?_
    refine lv_aload_n hx hb dX12_isAt_11 rfl (lv_at hl 0 rfl) ?_
    refine c_get hx hb hts i_X12_isAt_X12 hown hK hP 0 tM0 rfl 10 (by decide) (hts _ (List.mem_of_getElem? (i := 3) rfl)) (fun _ h9 => h9) rfl (v := .int (g.1 0 10)) rfl dX12_isAt_12 ?_
    refine lv_icmp_ge (tgt := 35) hx hb dX12_isAt_15 (by decide) (fun c2 => ?_) (fun c2 => ?_)
    · have hf := c_it c2 hf
      refine lv_iconst (v := (0 : Int32)) hx hb dX12_isAt_35 (by decide) ?_
      exact c_iret hx hb hr hlk hP hS rfl ⟨rfl, Option.some.inj hf⟩ dX12_isAt_36
    · have hf := c_ie c2 hf
      refine lv_aload_n hx hb dX12_isAt_18 rfl (lv_at hl 0 rfl) ?_
      refine c_get hx hb hts i_X12_isAt_X12 hown hK hP 0 tM0 rfl 9 (by decide) (hts _ (List.mem_of_getElem? (i := 4) rfl)) (fun _ h9 => h9) rfl (v := .ref (ad 7)) rfl dX12_isAt_19 ?_
      refine lv_aload_n hx hb dX12_isAt_22 rfl (lv_at hl 0 rfl) ?_
      refine c_get hx hb hts i_X12_isAt_X12 hown hK hP 0 tM0 rfl 11 (by decide) (hts _ (List.mem_of_getElem? (i := 2) rfl)) (fun _ h9 => h9) rfl (v := .int (g.1 0 11)) rfl dX12_isAt_23 ?_
      obtain ⟨hi3, hf⟩ := c_gd hf
      refine c_iald (j := ((g.1 0 11)).toNatClampNeg) hx hb hK hP 7 tM7 rfl (c_inV hi3) dX12_isAt_26 ?_
      refine lv_iload_n hx hb dX12_isAt_27 rfl (lv_at hl 1 rfl) ?_
      refine lv_icmp_ne (tgt := 35) hx hb dX12_isAt_28 (by decide) (fun c4 => ?_) (fun c4 => ?_)
      · have hf := c_ie c4 hf
        refine lv_iconst (v := (0 : Int32)) hx hb dX12_isAt_35 (by decide) ?_
        exact c_iret hx hb hr hlk hP hS rfl ⟨rfl, Option.some.inj hf⟩ dX12_isAt_36
      · have hf := c_it c4 hf
        refine lv_iconst (v := (1 : Int32)) hx hb dX12_isAt_31 (by decide) ?_
        refine lv_goto (tgt := 36) hx hb dX12_isAt_32 (by decide) ?_
        exact c_iret hx hb hr hlk hP hS rfl ⟨rfl, Option.some.inj hf⟩ dX12_isAt_36
theorem i_X12_takes_X12 : ∀ w ∈ u_ws RX12 TX12 32, w ∈ wsX12_takes := c_inP [10, 11, 12, 13, 14, 15, 16, 17, 18, 19, 20, 21, 22, 23, 24, 25, 26, 27, 28, 29, 30, 31, 32, 33, 34, 35, 36, 37, 38, 39, 40, 41] (by decide +kernel)
theorem dX12_takes_0 : decode cX12_takes 0 = .ok (.aload_n 0, 1) := by decide +kernel
theorem dX12_takes_1 : decode cX12_takes 1 = .ok (.iload_n 1, 1) := by decide +kernel
theorem dX12_takes_2 : decode cX12_takes 2 = .ok (.invokevirtual 150, 3) := by decide +kernel
theorem dX12_takes_5 : decode cX12_takes 5 = .ok (.ifCond .eq 16, 3) := by decide +kernel
theorem dX12_takes_8 : decode cX12_takes 8 = .ok (.aload_n 0, 1) := by decide +kernel
theorem dX12_takes_9 : decode cX12_takes 9 = .ok (.dup, 1) := by decide +kernel
theorem dX12_takes_10 : decode cX12_takes 10 = .ok (.getfield 144, 3) := by decide +kernel
theorem dX12_takes_13 : decode cX12_takes 13 = .ok (.iconst 1, 1) := by decide +kernel
theorem dX12_takes_14 : decode cX12_takes 14 = .ok (.iadd, 1) := by decide +kernel
theorem dX12_takes_15 : decode cX12_takes 15 = .ok (.putfield 144, 3) := by decide +kernel
theorem dX12_takes_18 : decode cX12_takes 18 = .ok (.goto 8, 3) := by decide +kernel
theorem dX12_takes_21 : decode cX12_takes 21 = .ok (.aload_n 0, 1) := by decide +kernel
theorem dX12_takes_22 : decode cX12_takes 22 = .ok (.iconst 0, 1) := by decide +kernel
theorem dX12_takes_23 : decode cX12_takes 23 = .ok (.putfield 141, 3) := by decide +kernel
theorem dX12_takes_26 : decode cX12_takes 26 = .ok (.return_, 1) := by decide +kernel
set_option maxRecDepth 20000 in
theorem ggX12_takes_X12_isAt : GoodIn wsX12_takes wsX12_isAt := goodIn_r _ [7, 2, 1, 8, 9, 10, 11, 12, 13, 14, 15, 16, 17, 18, 19, 20, 21, 22, 23, 24, 25, 26, 27, 28, 29, 30, 31, 32, 33, 34, 35, 36, 37, 38, 39, 40, 41] (by decide +kernel) (by decide +kernel)
set_option maxRecDepth 20000 in
theorem gX12_takes_X12_isAt : GoodIn wsX12_takes (wsV RX12 150 RX12 yX12_isAt wsX12_isAt) := goodIn_app (goodIn_of _ (by decide +kernel)) ggX12_takes_X12_isAt
def fX12_takes (g : c_G) (a1 : Int32) : Option (c_G) :=
  (fX12_isAt g a1).bind fun r1 => if r1 = 0 then (c_let (c_si g 0 12 (0 : Int32)) fun g4 => some g4) else (c_let (((g.1 0 11) + (1 : Int32))) fun v5 => c_let (c_si g 0 11 v5) fun g6 => some g6)
set_option maxRecDepth 100000 in
set_option maxHeartbeats 4000000 in
theorem kX12_takes {l : Launch} {D : va_G} {tc : Nat → ClassId} {ad : Nat → Nat} {A : Nat → Prop} {E : (Nat → Nat) × (Nat → Nat) × Nat} (hD : c_D A ad TM) {a1 : Int32} {g g' : c_G} (hf : fX12_takes g a1 = some g') : c_Mv l yX12_takes wsX12_takes (c_rm 1) D tc ad A E TM ([.ref (ad 0), .int a1] : List Value) g g' := by
  refine c_ofW (bytes := cX12_takes) (maxL := 2) (ret := none) (by decide) rfl (Nat.le_of_ble_eq_true rfl) ?_
  intro p e s m below meth c ls C hP hS hl
  unfold fX12_takes at hf
  obtain ⟨hx, hb, hr, hml, hts, hown, hlk, hK, hE⟩ := id C
  have hl : lv_has ls 2 [(0, .ref (ad 0)), (1, .int a1)] := hl
  refine lv_aload_n hx hb dX12_takes_0 rfl (lv_at hl 0 rfl) ?_
  refine lv_iload_n hx hb dX12_takes_1 rfl (lv_at hl 1 rfl) ?_
  obtain ⟨r1, hc2, hf⟩ := c_bd hf
  refine c_goi (va_runV (As := [.int a1]) (rest := []) ⟨hx, hb, hml, hown, hts⟩ (kX12_isAt hD hc2) (cwV 1 hts gX12_takes_X12_isAt rfl rfl rfl (by decide +kernel) ⟨Nat.le_of_ble_eq_true rfl, Nat.le_of_ble_eq_true rfl⟩) (c_preV hK hP hE hS tM0 rfl) rfl rfl hl.1 rfl (lv_room (Nat.le_of_ble_eq_true rfl)) dX12_takes_2 ⟨Nat.zero_le _, Nat.zero_le _⟩) hS (fun H locs hP hS => ?_)
  refine lv_if_eq (tgt := 21) hx hb dX12_takes_5 (by decide) (fun c3 => ?_) (fun c3 => ?_)
  · have hf := c_it c3 hf
    refine lv_aload_n hx hb dX12_takes_21 rfl (lv_at hl 0 rfl) ?_
    refine lv_iconst (v := (0 : Int32)) hx hb dX12_takes_22 (by decide) ?_
    obtain ⟨g4, eg4, hf⟩ := c_letE hf
    refine c_put hx hb hts i_X12_takes_X12 tyX12 tyX12_ok nmX12 hown hK hP hD hS 0 tM0 rfl 12 (by decide) (hts _ (List.mem_of_getElem? (i := 2) rfl)) (fun _ h9 => h9) rfl (ty := .boolean) (by decide +kernel) rfl rfl rfl eg4 dX12_takes_23 (fun H locs hP hS => ?_)
    exact c_vret hx hb hr hlk hP hS (Option.some.inj hf) dX12_takes_26
  · have hf := c_ie c3 hf
    refine lv_aload_n hx hb dX12_takes_8 rfl (lv_at hl 0 rfl) ?_
    refine lv_dup hx hb dX12_takes_9 rfl ?_
    refine c_get hx hb hts i_X12_takes_X12 hown hK hP 0 tM0 rfl 11 (by decide) (hts _ (List.mem_of_getElem? (i := 1) rfl)) (fun _ h9 => h9) rfl (v := .int (g.1 0 11)) rfl dX12_takes_10 ?_
    refine lv_iconst (v := (1 : Int32)) hx hb dX12_takes_13 (by decide) ?_
    refine lv_iadd hx hb dX12_takes_14 ?_
    obtain ⟨v5, ev5, hf⟩ := c_letE hf
    refine c_topi ev5 ?_
    obtain ⟨g6, eg6, hf⟩ := c_letE hf
    refine c_put hx hb hts i_X12_takes_X12 tyX12 tyX12_ok nmX12 hown hK hP hD hS 0 tM0 rfl 11 (by decide) (hts _ (List.mem_of_getElem? (i := 1) rfl)) (fun _ h9 => h9) rfl (ty := .int) (by decide +kernel) rfl rfl rfl eg6 dX12_takes_15 (fun H locs hP hS => ?_)
    refine lv_goto (tgt := 26) hx hb dX12_takes_18 (by decide) ?_
    exact c_vret hx hb hr hlk hP hS (Option.some.inj hf) dX12_takes_26
theorem i_X12_isDigit_X12 : ∀ w ∈ u_ws RX12 TX12 32, w ∈ wsX12_isDigit := c_inP [5, 6, 7, 8, 9, 10, 11, 12, 13, 14, 15, 16, 17, 18, 19, 20, 21, 22, 23, 24, 25, 26, 27, 28, 29, 30, 31, 32, 33, 34, 35, 36] (by decide +kernel)
theorem dX12_isDigit_0 : decode cX12_isDigit 0 = .ok (.aload_n 0, 1) := by decide +kernel
theorem dX12_isDigit_1 : decode cX12_isDigit 1 = .ok (.getfield 141, 3) := by decide +kernel
theorem dX12_isDigit_4 : decode cX12_isDigit 4 = .ok (.ifCond .eq 46, 3) := by decide +kernel
theorem dX12_isDigit_7 : decode cX12_isDigit 7 = .ok (.aload_n 0, 1) := by decide +kernel
theorem dX12_isDigit_8 : decode cX12_isDigit 8 = .ok (.getfield 144, 3) := by decide +kernel
theorem dX12_isDigit_11 : decode cX12_isDigit 11 = .ok (.aload_n 0, 1) := by decide +kernel
theorem dX12_isDigit_12 : decode cX12_isDigit 12 = .ok (.getfield 147, 3) := by decide +kernel
theorem dX12_isDigit_15 : decode cX12_isDigit 15 = .ok (.if_icmp .ge 35, 3) := by decide +kernel
theorem dX12_isDigit_18 : decode cX12_isDigit 18 = .ok (.aload_n 0, 1) := by decide +kernel
theorem dX12_isDigit_19 : decode cX12_isDigit 19 = .ok (.getfield 34, 3) := by decide +kernel
theorem dX12_isDigit_22 : decode cX12_isDigit 22 = .ok (.aload_n 0, 1) := by decide +kernel
theorem dX12_isDigit_23 : decode cX12_isDigit 23 = .ok (.getfield 144, 3) := by decide +kernel
theorem dX12_isDigit_26 : decode cX12_isDigit 26 = .ok (.iaload, 1) := by decide +kernel
theorem dX12_isDigit_27 : decode cX12_isDigit 27 = .ok (.bipush 48, 2) := by decide +kernel
theorem dX12_isDigit_29 : decode cX12_isDigit 29 = .ok (.if_icmp .lt 21, 3) := by decide +kernel
theorem dX12_isDigit_32 : decode cX12_isDigit 32 = .ok (.aload_n 0, 1) := by decide +kernel
theorem dX12_isDigit_33 : decode cX12_isDigit 33 = .ok (.getfield 34, 3) := by decide +kernel
theorem dX12_isDigit_36 : decode cX12_isDigit 36 = .ok (.aload_n 0, 1) := by decide +kernel
theorem dX12_isDigit_37 : decode cX12_isDigit 37 = .ok (.getfield 144, 3) := by decide +kernel
theorem dX12_isDigit_40 : decode cX12_isDigit 40 = .ok (.iaload, 1) := by decide +kernel
theorem dX12_isDigit_41 : decode cX12_isDigit 41 = .ok (.bipush 57, 2) := by decide +kernel
theorem dX12_isDigit_43 : decode cX12_isDigit 43 = .ok (.if_icmp .gt 7, 3) := by decide +kernel
theorem dX12_isDigit_46 : decode cX12_isDigit 46 = .ok (.iconst 1, 1) := by decide +kernel
theorem dX12_isDigit_47 : decode cX12_isDigit 47 = .ok (.goto 4, 3) := by decide +kernel
theorem dX12_isDigit_50 : decode cX12_isDigit 50 = .ok (.iconst 0, 1) := by decide +kernel
theorem dX12_isDigit_51 : decode cX12_isDigit 51 = .ok (.ireturn, 1) := by decide +kernel
def fX12_isDigit (g : c_G)  : Option (Int32) :=
  if (g.1 0 12) = 0 then (some (0 : Int32)) else (if (g.1 0 10) ≤ (g.1 0 11) then (some (0 : Int32)) else (if c_in ((g.1 0 11)) (100) = true then if (g.1 7 ((g.1 0 11)).toNatClampNeg) < (48 : Int32) then (some (0 : Int32)) else (if (57 : Int32) < (g.1 7 ((g.1 0 11)).toNatClampNeg) then (some (0 : Int32)) else (some (1 : Int32))) else none))
set_option maxRecDepth 100000 in
set_option maxHeartbeats 4000000 in
theorem kX12_isDigit {l : Launch} {D : va_G} {tc : Nat → ClassId} {ad : Nat → Nat} {A : Nat → Prop} {E : (Nat → Nat) × (Nat → Nat) × Nat} (hD : c_D A ad TM)  {g : c_G} {r : Int32} (hf : fX12_isDigit g  = some r) : c_Mi l yX12_isDigit wsX12_isDigit (c_rm 0) D tc ad A E TM ([.ref (ad 0)] : List Value) g g r := by
  refine c_ofW (bytes := cX12_isDigit) (maxL := 1) (ret := (some .boolean)) (by decide) rfl (Nat.le_of_ble_eq_true rfl) ?_
  intro p e s m below meth c ls C hP hS hl
  unfold fX12_isDigit at hf
  obtain ⟨hx, hb, hr, hml, hts, hown, hlk, hK, hE⟩ := id C
  have hl : lv_has ls 1 [(0, .ref (ad 0))] := hl
  refine lv_aload_n hx hb dX12_isDigit_0 rfl (lv_at hl 0 rfl) ?_
  refine c_get hx hb hts i_X12_isDigit_X12 hown hK hP 0 tM0 rfl 12 (by decide) (hts _ (List.mem_of_getElem? (i := 1) rfl)) (fun _ h9 => h9) rfl (v := .int (g.1 0 12)) rfl dX12_isDigit_1 ?_
  refine lv_if_eq (tgt := 50) hx hb dX12_isDigit_4 (by decide) (fun c1 => ?_) (fun c1 => ?_)
  · have hf := c_it c1 hf
    refine lv_iconst (v := (0 : Int32)) hx hb dX12_isDigit_50 (by decide) ?_
    exact c_iret hx hb hr hlk hP hS rfl ⟨rfl, Option.some.inj hf⟩ dX12_isDigit_51
  · have hf := c_ie c1 hf
    refine lv_aload_n hx hb dX12_isDigit_7 rfl (lv_at hl 0 rfl) ?_
    refine c_get hx hb hts i_X12_isDigit_X12 hown hK hP 0 tM0 rfl 11 (by decide) (hts _ (List.mem_of_getElem? (i := 2) rfl)) (fun _ h9 => h9) rfl (v := .int (g.1 0 11)) rfl dX12_isDigit_8 ?_
    refine lv_aload_n hx hb dX12_isDigit_11 rfl (lv_at hl 0 rfl) ?_
    refine c_get hx hb hts i_X12_isDigit_X12 hown hK hP 0 tM0 rfl 10 (by decide) (hts _ (List.mem_of_getElem? (i := 3) rfl)) (fun _ h9 => h9) rfl (v := .int (g.1 0 10)) rfl dX12_isDigit_12 ?_
    refine lv_icmp_ge (tgt := 50) hx hb dX12_isDigit_15 (by decide) (fun c2 => ?_) (fun c2 => ?_)
    · have hf := c_it c2 hf
      refine lv_iconst (v := (0 : Int32)) hx hb dX12_isDigit_50 (by decide) ?_
      exact c_iret hx hb hr hlk hP hS rfl ⟨rfl, Option.some.inj hf⟩ dX12_isDigit_51
    · have hf := c_ie c2 hf
      refine lv_aload_n hx hb dX12_isDigit_18 rfl (lv_at hl 0 rfl) ?_
      refine c_get hx hb hts i_X12_isDigit_X12 hown hK hP 0 tM0 rfl 9 (by decide) (hts _ (List.mem_of_getElem? (i := 4) rfl)) (fun _ h9 => h9) rfl (v := .ref (ad 7)) rfl dX12_isDigit_19 ?_
      refine lv_aload_n hx hb dX12_isDigit_22 rfl (lv_at hl 0 rfl) ?_
      refine c_get hx hb hts i_X12_isDigit_X12 hown hK hP 0 tM0 rfl 11 (by decide) (hts _ (List.mem_of_getElem? (i := 2) rfl)) (fun _ h9 => h9) rfl (v := .int (g.1 0 11)) rfl dX12_isDigit_23 ?_
      obtain ⟨hi3, hf⟩ := c_gd hf
      refine c_iald (j := ((g.1 0 11)).toNatClampNeg) hx hb hK hP 7 tM7 rfl (c_inV hi3) dX12_isDigit_26 ?_
      refine lv_bipush (v := (48 : Int32)) hx hb dX12_isDigit_27 (by decide) ?_
      refine lv_icmp_lt (tgt := 50) hx hb dX12_isDigit_29 (by decide) (fun c4 => ?_) (fun c4 => ?_)
      · have hf := c_it c4 hf
        refine lv_iconst (v := (0 : Int32)) hx hb dX12_isDigit_50 (by decide) ?_
        exact c_iret hx hb hr hlk hP hS rfl ⟨rfl, Option.some.inj hf⟩ dX12_isDigit_51
      · have hf := c_ie c4 hf
        refine lv_aload_n hx hb dX12_isDigit_32 rfl (lv_at hl 0 rfl) ?_
        refine c_get hx hb hts i_X12_isDigit_X12 hown hK hP 0 tM0 rfl 9 (by decide) (hts _ (List.mem_of_getElem? (i := 4) rfl)) (fun _ h9 => h9) rfl (v := .ref (ad 7)) rfl dX12_isDigit_33 ?_
        refine lv_aload_n hx hb dX12_isDigit_36 rfl (lv_at hl 0 rfl) ?_
        refine c_get hx hb hts i_X12_isDigit_X12 hown hK hP 0 tM0 rfl 11 (by decide) (hts _ (List.mem_of_getElem? (i := 2) rfl)) (fun _ h9 => h9) rfl (v := .int (g.1 0 11)) rfl dX12_isDigit_37 ?_
        refine c_iald (j := ((g.1 0 11)).toNatClampNeg) hx hb hK hP 7 tM7 rfl (c_inV hi3) dX12_isDigit_40 ?_
        refine lv_bipush (v := (57 : Int32)) hx hb dX12_isDigit_41 (by decide) ?_
        refine lv_icmp_gt (tgt := 50) hx hb dX12_isDigit_43 (by decide) (fun c5 => ?_) (fun c5 => ?_)
        · have hf := c_it c5 hf
          refine lv_iconst (v := (0 : Int32)) hx hb dX12_isDigit_50 (by decide) ?_
          exact c_iret hx hb hr hlk hP hS rfl ⟨rfl, Option.some.inj hf⟩ dX12_isDigit_51
        · have hf := c_ie c5 hf
          refine lv_iconst (v := (1 : Int32)) hx hb dX12_isDigit_46 (by decide) ?_
          refine lv_goto (tgt := 51) hx hb dX12_isDigit_47 (by decide) ?_
          exact c_iret hx hb hr hlk hP hS rfl ⟨rfl, Option.some.inj hf⟩ dX12_isDigit_51
theorem i_X12_number_X12 : ∀ w ∈ u_ws RX12 TX12 32, w ∈ wsX12_number := c_inP [10, 11, 12, 13, 14, 15, 16, 17, 18, 19, 20, 21, 22, 23, 24, 25, 26, 27, 28, 29, 30, 31, 32, 33, 34, 35, 36, 37, 38, 39, 40, 41] (by decide +kernel)
theorem dX12_number_0 : decode cX12_number 0 = .ok (.aload_n 0, 1) := by decide +kernel
theorem dX12_number_1 : decode cX12_number 1 = .ok (.invokevirtual 153, 3) := by decide +kernel
theorem dX12_number_4 : decode cX12_number 4 = .ok (.ifCond .ne 10, 3) := by decide +kernel
theorem dX12_number_7 : decode cX12_number 7 = .ok (.aload_n 0, 1) := by decide +kernel
theorem dX12_number_8 : decode cX12_number 8 = .ok (.iconst 0, 1) := by decide +kernel
theorem dX12_number_9 : decode cX12_number 9 = .ok (.putfield 141, 3) := by decide +kernel
theorem dX12_number_12 : decode cX12_number 12 = .ok (.iconst 0, 1) := by decide +kernel
theorem dX12_number_13 : decode cX12_number 13 = .ok (.ireturn, 1) := by decide +kernel
theorem dX12_number_14 : decode cX12_number 14 = .ok (.aload_n 0, 1) := by decide +kernel
theorem dX12_number_15 : decode cX12_number 15 = .ok (.getfield 34, 3) := by decide +kernel
theorem dX12_number_18 : decode cX12_number 18 = .ok (.aload_n 0, 1) := by decide +kernel
theorem dX12_number_19 : decode cX12_number 19 = .ok (.getfield 144, 3) := by decide +kernel
theorem dX12_number_22 : decode cX12_number 22 = .ok (.iaload, 1) := by decide +kernel
theorem dX12_number_23 : decode cX12_number 23 = .ok (.bipush 48, 2) := by decide +kernel
theorem dX12_number_25 : decode cX12_number 25 = .ok (.isub, 1) := by decide +kernel
theorem dX12_number_26 : decode cX12_number 26 = .ok (.istore_n 1, 1) := by decide +kernel
theorem dX12_number_27 : decode cX12_number 27 = .ok (.aload_n 0, 1) := by decide +kernel
theorem dX12_number_28 : decode cX12_number 28 = .ok (.dup, 1) := by decide +kernel
theorem dX12_number_29 : decode cX12_number 29 = .ok (.getfield 144, 3) := by decide +kernel
theorem dX12_number_32 : decode cX12_number 32 = .ok (.iconst 1, 1) := by decide +kernel
theorem dX12_number_33 : decode cX12_number 33 = .ok (.iadd, 1) := by decide +kernel
theorem dX12_number_34 : decode cX12_number 34 = .ok (.putfield 144, 3) := by decide +kernel
theorem dX12_number_37 : decode cX12_number 37 = .ok (.aload_n 0, 1) := by decide +kernel
theorem dX12_number_38 : decode cX12_number 38 = .ok (.invokevirtual 153, 3) := by decide +kernel
theorem dX12_number_41 : decode cX12_number 41 = .ok (.ifCond .eq 31, 3) := by decide +kernel
theorem dX12_number_44 : decode cX12_number 44 = .ok (.bipush 10, 2) := by decide +kernel
theorem dX12_number_46 : decode cX12_number 46 = .ok (.iload_n 1, 1) := by decide +kernel
theorem dX12_number_47 : decode cX12_number 47 = .ok (.imul, 1) := by decide +kernel
theorem dX12_number_48 : decode cX12_number 48 = .ok (.aload_n 0, 1) := by decide +kernel
theorem dX12_number_49 : decode cX12_number 49 = .ok (.getfield 34, 3) := by decide +kernel
theorem dX12_number_52 : decode cX12_number 52 = .ok (.aload_n 0, 1) := by decide +kernel
theorem dX12_number_53 : decode cX12_number 53 = .ok (.getfield 144, 3) := by decide +kernel
theorem dX12_number_56 : decode cX12_number 56 = .ok (.iaload, 1) := by decide +kernel
theorem dX12_number_57 : decode cX12_number 57 = .ok (.iadd, 1) := by decide +kernel
theorem dX12_number_58 : decode cX12_number 58 = .ok (.bipush 48, 2) := by decide +kernel
theorem dX12_number_60 : decode cX12_number 60 = .ok (.isub, 1) := by decide +kernel
theorem dX12_number_61 : decode cX12_number 61 = .ok (.istore_n 1, 1) := by decide +kernel
theorem dX12_number_62 : decode cX12_number 62 = .ok (.aload_n 0, 1) := by decide +kernel
theorem dX12_number_63 : decode cX12_number 63 = .ok (.dup, 1) := by decide +kernel
theorem dX12_number_64 : decode cX12_number 64 = .ok (.getfield 144, 3) := by decide +kernel
theorem dX12_number_67 : decode cX12_number 67 = .ok (.iconst 1, 1) := by decide +kernel
theorem dX12_number_68 : decode cX12_number 68 = .ok (.iadd, 1) := by decide +kernel
theorem dX12_number_69 : decode cX12_number 69 = .ok (.putfield 144, 3) := by decide +kernel
theorem dX12_number_72 : decode cX12_number 72 = .ok (.iload_n 1, 1) := by decide +kernel
theorem dX12_number_73 : decode cX12_number 73 = .ok (.ireturn, 1) := by decide +kernel
set_option maxRecDepth 20000 in
theorem ggX12_number_X12_isDigit : GoodIn wsX12_number wsX12_isDigit := goodIn_r _ [8, 1, 3, 9, 2, 10, 11, 12, 13, 14, 15, 16, 17, 18, 19, 20, 21, 22, 23, 24, 25, 26, 27, 28, 29, 30, 31, 32, 33, 34, 35, 36, 37, 38, 39, 40, 41] (by decide +kernel) (by decide +kernel)
set_option maxRecDepth 20000 in
theorem gX12_number_X12_isDigit : GoodIn wsX12_number (wsV RX12 153 RX12 yX12_isDigit wsX12_isDigit) := goodIn_app (goodIn_of _ (by decide +kernel)) ggX12_number_X12_isDigit
def fX12_number (g : c_G)  : Option (c_G × Int32) :=
  (fX12_isDigit g).bind fun r1 => if r1 = 0 then (c_let (c_si g 0 12 (0 : Int32)) fun g15 => some (g15, (0 : Int32))) else (if c_in ((g.1 0 11)) (100) = true then c_let (((g.1 7 ((g.1 0 11)).toNatClampNeg) - (48 : Int32))) fun v5 => c_let (((g.1 0 11) + (1 : Int32))) fun v6 => c_let (c_si g 0 11 v6) fun g7 => (fX12_isDigit g7).bind fun r8 => if r8 = 0 then (some (g7, v5)) else (if c_in ((g7.1 0 11)) (100) = true then c_let (((((10 : Int32) * v5) + (g7.1 7 ((g7.1 0 11)).toNatClampNeg)) - (48 : Int32))) fun v12 => c_let (((g7.1 0 11) + (1 : Int32))) fun v13 => c_let (c_si g7 0 11 v13) fun g14 => some (g14, v12) else none) else none)
set_option maxRecDepth 100000 in
set_option maxHeartbeats 4000000 in
theorem kX12_number {l : Launch} {D : va_G} {tc : Nat → ClassId} {ad : Nat → Nat} {A : Nat → Prop} {E : (Nat → Nat) × (Nat → Nat) × Nat} (hD : c_D A ad TM)  {g g' : c_G} {r : Int32} (hf : fX12_number g  = some (g', r)) : c_Mi l yX12_number wsX12_number (c_rm 1) D tc ad A E TM ([.ref (ad 0)] : List Value) g g' r := by
  refine c_ofW (bytes := cX12_number) (maxL := 2) (ret := (some .int)) (by decide) rfl (Nat.le_of_ble_eq_true rfl) ?_
  intro p e s m below meth c ls C hP hS hl
  unfold fX12_number at hf
  obtain ⟨hx, hb, hr, hml, hts, hown, hlk, hK, hE⟩ := id C
  have hl : lv_has ls 2 [(0, .ref (ad 0))] := hl
  refine lv_aload_n hx hb dX12_number_0 rfl (lv_at hl 0 rfl) ?_
  obtain ⟨r1, hc2, hf⟩ := c_bd hf
  refine c_goi (va_runV (As := []) (rest := []) ⟨hx, hb, hml, hown, hts⟩ (kX12_isDigit hD hc2) (cwV 0 hts gX12_number_X12_isDigit rfl rfl rfl (by decide +kernel) ⟨Nat.le_of_ble_eq_true rfl, Nat.le_of_ble_eq_true rfl⟩) (c_preV hK hP hE hS tM0 rfl) rfl rfl hl.1 rfl (lv_room (Nat.le_of_ble_eq_true rfl)) dX12_number_1 ⟨Nat.zero_le _, Nat.zero_le _⟩) hS (fun H locs hP hS => ?_)
  refine lv_if_ne (tgt := 14) hx hb dX12_number_4 (by decide) (fun c3 => ?_) (fun c3 => ?_)
  · have hf := c_ie c3 hf
    refine lv_aload_n hx hb dX12_number_14 rfl (lv_at hl 0 rfl) ?_
    refine c_get hx hb hts i_X12_number_X12 hown hK hP 0 tM0 rfl 9 (by decide) (hts _ (List.mem_of_getElem? (i := 2) rfl)) (fun _ h9 => h9) rfl (v := .ref (ad 7)) rfl dX12_number_15 ?_
    refine lv_aload_n hx hb dX12_number_18 rfl (lv_at hl 0 rfl) ?_
    refine c_get hx hb hts i_X12_number_X12 hown hK hP 0 tM0 rfl 11 (by decide) (hts _ (List.mem_of_getElem? (i := 3) rfl)) (fun _ h9 => h9) rfl (v := .int (g.1 0 11)) rfl dX12_number_19 ?_
    obtain ⟨hi4, hf⟩ := c_gd hf
    refine c_iald (j := ((g.1 0 11)).toNatClampNeg) hx hb hK hP 7 tM7 rfl (c_inV hi4) dX12_number_22 ?_
    refine lv_bipush (v := (48 : Int32)) hx hb dX12_number_23 (by decide) ?_
    refine lv_isub hx hb dX12_number_25 ?_
    obtain ⟨v5, ev5, hf⟩ := c_letE hf
    refine c_topi ev5 ?_
    refine lv_istore_n (lv' := [(1, .int v5), (0, .ref (ad 0))]) hx hb dX12_number_26 rfl hl (by decide) rfl (fun ls hl => ?_)
    refine lv_aload_n hx hb dX12_number_27 rfl (lv_at hl 1 rfl) ?_
    refine lv_dup hx hb dX12_number_28 rfl ?_
    refine c_get hx hb hts i_X12_number_X12 hown hK hP 0 tM0 rfl 11 (by decide) (hts _ (List.mem_of_getElem? (i := 3) rfl)) (fun _ h9 => h9) rfl (v := .int (g.1 0 11)) rfl dX12_number_29 ?_
    refine lv_iconst (v := (1 : Int32)) hx hb dX12_number_32 (by decide) ?_
    refine lv_iadd hx hb dX12_number_33 ?_
    obtain ⟨v6, ev6, hf⟩ := c_letE hf
    refine c_topi ev6 ?_
    obtain ⟨g7, eg7, hf⟩ := c_letE hf
    refine c_put hx hb hts i_X12_number_X12 tyX12 tyX12_ok nmX12 hown hK hP hD hS 0 tM0 rfl 11 (by decide) (hts _ (List.mem_of_getElem? (i := 3) rfl)) (fun _ h9 => h9) rfl (ty := .int) (by decide +kernel) rfl rfl rfl eg7 dX12_number_34 (fun H locs hP hS => ?_)
    refine lv_aload_n hx hb dX12_number_37 rfl (lv_at hl 1 rfl) ?_
    obtain ⟨r8, hc9, hf⟩ := c_bd hf
    refine c_goi (va_runV (As := []) (rest := []) ⟨hx, hb, hml, hown, hts⟩ (kX12_isDigit hD hc9) (cwV 0 hts gX12_number_X12_isDigit rfl rfl rfl (by decide +kernel) ⟨Nat.le_of_ble_eq_true rfl, Nat.le_of_ble_eq_true rfl⟩) (c_preV hK hP hE hS tM0 rfl) rfl rfl hl.1 rfl (lv_room (Nat.le_of_ble_eq_true rfl)) dX12_number_38 ⟨Nat.zero_le _, Nat.zero_le _⟩) hS (fun H locs hP hS => ?_)
    refine lv_if_eq (tgt := 72) hx hb dX12_number_41 (by decide) (fun c10 => ?_) (fun c10 => ?_)
    · have hf := c_it c10 hf
      refine lv_iload_n hx hb dX12_number_72 rfl (lv_at hl 0 rfl) ?_
      exact c_iret hx hb hr hlk hP hS rfl (c_inj hf) dX12_number_73
    · have hf := c_ie c10 hf
      refine lv_bipush (v := (10 : Int32)) hx hb dX12_number_44 (by decide) ?_
      refine lv_iload_n hx hb dX12_number_46 rfl (lv_at hl 0 rfl) ?_
      refine lv_imul hx hb dX12_number_47 ?_
      refine lv_aload_n hx hb dX12_number_48 rfl (lv_at hl 1 rfl) ?_
      refine c_get hx hb hts i_X12_number_X12 hown hK hP 0 tM0 rfl 9 (by decide) (hts _ (List.mem_of_getElem? (i := 2) rfl)) (fun _ h9 => h9) rfl (v := .ref (ad 7)) rfl dX12_number_49 ?_
      refine lv_aload_n hx hb dX12_number_52 rfl (lv_at hl 1 rfl) ?_
      refine c_get hx hb hts i_X12_number_X12 hown hK hP 0 tM0 rfl 11 (by decide) (hts _ (List.mem_of_getElem? (i := 3) rfl)) (fun _ h9 => h9) rfl (v := .int (g7.1 0 11)) rfl dX12_number_53 ?_
      obtain ⟨hi11, hf⟩ := c_gd hf
      refine c_iald (j := ((g7.1 0 11)).toNatClampNeg) hx hb hK hP 7 tM7 rfl (c_inV hi11) dX12_number_56 ?_
      refine lv_iadd hx hb dX12_number_57 ?_
      refine lv_bipush (v := (48 : Int32)) hx hb dX12_number_58 (by decide) ?_
      refine lv_isub hx hb dX12_number_60 ?_
      obtain ⟨v12, ev12, hf⟩ := c_letE hf
      refine c_topi ev12 ?_
      refine lv_istore_n (lv' := [(1, .int v12), (0, .ref (ad 0))]) hx hb dX12_number_61 rfl hl (by decide) rfl (fun ls hl => ?_)
      refine lv_aload_n hx hb dX12_number_62 rfl (lv_at hl 1 rfl) ?_
      refine lv_dup hx hb dX12_number_63 rfl ?_
      refine c_get hx hb hts i_X12_number_X12 hown hK hP 0 tM0 rfl 11 (by decide) (hts _ (List.mem_of_getElem? (i := 3) rfl)) (fun _ h9 => h9) rfl (v := .int (g7.1 0 11)) rfl dX12_number_64 ?_
      refine lv_iconst (v := (1 : Int32)) hx hb dX12_number_67 (by decide) ?_
      refine lv_iadd hx hb dX12_number_68 ?_
      obtain ⟨v13, ev13, hf⟩ := c_letE hf
      refine c_topi ev13 ?_
      obtain ⟨g14, eg14, hf⟩ := c_letE hf
      refine c_put hx hb hts i_X12_number_X12 tyX12 tyX12_ok nmX12 hown hK hP hD hS 0 tM0 rfl 11 (by decide) (hts _ (List.mem_of_getElem? (i := 3) rfl)) (fun _ h9 => h9) rfl (ty := .int) (by decide +kernel) rfl rfl rfl eg14 dX12_number_69 (fun H locs hP hS => ?_)
      refine lv_iload_n hx hb dX12_number_72 rfl (lv_at hl 0 rfl) ?_
      exact c_iret hx hb hr hlk hP hS rfl (c_inj hf) dX12_number_73
  · have hf := c_it c3 hf
    refine lv_aload_n hx hb dX12_number_7 rfl (lv_at hl 0 rfl) ?_
    refine lv_iconst (v := (0 : Int32)) hx hb dX12_number_8 (by decide) ?_
    obtain ⟨g15, eg15, hf⟩ := c_letE hf
    refine c_put hx hb hts i_X12_number_X12 tyX12 tyX12_ok nmX12 hown hK hP hD hS 0 tM0 rfl 12 (by decide) (hts _ (List.mem_of_getElem? (i := 1) rfl)) (fun _ h9 => h9) rfl (ty := .boolean) (by decide +kernel) rfl rfl rfl eg15 dX12_number_9 (fun H locs hP hS => ?_)
    refine lv_iconst (v := (0 : Int32)) hx hb dX12_number_12 (by decide) ?_
    exact c_iret hx hb hr hlk hP hS rfl (c_inj hf) dX12_number_13
theorem i_X12_test_X12 : ∀ w ∈ u_ws RX12 TX12 32, w ∈ wsX12_test := c_inP [24, 25, 26, 27, 28, 29, 30, 31, 32, 33, 34, 35, 36, 37, 38, 39, 40, 41, 42, 43, 44, 45, 46, 47, 48, 49, 50, 51, 52, 53, 54, 55] (by decide +kernel)
theorem dX12_test_0 : decode cX12_test 0 = .ok (.iconst (-1), 1) := by decide +kernel
theorem dX12_test_1 : decode cX12_test 1 = .ok (.istore_n 1, 1) := by decide +kernel
theorem dX12_test_2 : decode cX12_test 2 = .ok (.iconst 0, 1) := by decide +kernel
theorem dX12_test_3 : decode cX12_test 3 = .ok (.istore_n 2, 1) := by decide +kernel
theorem dX12_test_4 : decode cX12_test 4 = .ok (.iload_n 2, 1) := by decide +kernel
theorem dX12_test_5 : decode cX12_test 5 = .ok (.bipush 6, 2) := by decide +kernel
theorem dX12_test_7 : decode cX12_test 7 = .ok (.if_icmp .ge 28, 3) := by decide +kernel
theorem dX12_test_10 : decode cX12_test 10 = .ok (.aload_n 0, 1) := by decide +kernel
theorem dX12_test_11 : decode cX12_test 11 = .ok (.aload_n 0, 1) := by decide +kernel
theorem dX12_test_12 : decode cX12_test 12 = .ok (.getfield 40, 3) := by decide +kernel
theorem dX12_test_15 : decode cX12_test 15 = .ok (.iload_n 2, 1) := by decide +kernel
theorem dX12_test_16 : decode cX12_test 16 = .ok (.caload, 1) := by decide +kernel
theorem dX12_test_17 : decode cX12_test 17 = .ok (.invokevirtual 150, 3) := by decide +kernel
theorem dX12_test_20 : decode cX12_test 20 = .ok (.ifCond .eq 7, 3) := by decide +kernel
theorem dX12_test_23 : decode cX12_test 23 = .ok (.iload_n 2, 1) := by decide +kernel
theorem dX12_test_24 : decode cX12_test 24 = .ok (.goto 4, 3) := by decide +kernel
theorem dX12_test_27 : decode cX12_test 27 = .ok (.iload_n 1, 1) := by decide +kernel
theorem dX12_test_28 : decode cX12_test 28 = .ok (.istore_n 1, 1) := by decide +kernel
theorem dX12_test_29 : decode cX12_test 29 = .ok (.iinc 2 1, 3) := by decide +kernel
theorem dX12_test_32 : decode cX12_test 32 = .ok (.goto (-28), 3) := by decide +kernel
theorem dX12_test_35 : decode cX12_test 35 = .ok (.iload_n 1, 1) := by decide +kernel
theorem dX12_test_36 : decode cX12_test 36 = .ok (.iconst (-1), 1) := by decide +kernel
theorem dX12_test_37 : decode cX12_test 37 = .ok (.if_icmp .ne 10, 3) := by decide +kernel
theorem dX12_test_40 : decode cX12_test 40 = .ok (.aload_n 0, 1) := by decide +kernel
theorem dX12_test_41 : decode cX12_test 41 = .ok (.iconst 0, 1) := by decide +kernel
theorem dX12_test_42 : decode cX12_test 42 = .ok (.putfield 141, 3) := by decide +kernel
theorem dX12_test_45 : decode cX12_test 45 = .ok (.iconst 0, 1) := by decide +kernel
theorem dX12_test_46 : decode cX12_test 46 = .ok (.ireturn, 1) := by decide +kernel
theorem dX12_test_47 : decode cX12_test 47 = .ok (.aload_n 0, 1) := by decide +kernel
theorem dX12_test_48 : decode cX12_test 48 = .ok (.dup, 1) := by decide +kernel
theorem dX12_test_49 : decode cX12_test 49 = .ok (.getfield 144, 3) := by decide +kernel
theorem dX12_test_52 : decode cX12_test 52 = .ok (.iconst 1, 1) := by decide +kernel
theorem dX12_test_53 : decode cX12_test 53 = .ok (.iadd, 1) := by decide +kernel
theorem dX12_test_54 : decode cX12_test 54 = .ok (.putfield 144, 3) := by decide +kernel
theorem dX12_test_57 : decode cX12_test 57 = .ok (.aload_n 0, 1) := by decide +kernel
theorem dX12_test_58 : decode cX12_test 58 = .ok (.bipush 60, 2) := by decide +kernel
theorem dX12_test_60 : decode cX12_test 60 = .ok (.invokevirtual 150, 3) := by decide +kernel
theorem dX12_test_63 : decode cX12_test 63 = .ok (.ifCond .eq 7, 3) := by decide +kernel
theorem dX12_test_66 : decode cX12_test 66 = .ok (.iconst (-1), 1) := by decide +kernel
theorem dX12_test_67 : decode cX12_test 67 = .ok (.goto 17, 3) := by decide +kernel
theorem dX12_test_70 : decode cX12_test 70 = .ok (.aload_n 0, 1) := by decide +kernel
theorem dX12_test_71 : decode cX12_test 71 = .ok (.bipush 62, 2) := by decide +kernel
theorem dX12_test_73 : decode cX12_test 73 = .ok (.invokevirtual 150, 3) := by decide +kernel
theorem dX12_test_76 : decode cX12_test 76 = .ok (.ifCond .eq 7, 3) := by decide +kernel
theorem dX12_test_79 : decode cX12_test 79 = .ok (.iconst 1, 1) := by decide +kernel
theorem dX12_test_80 : decode cX12_test 80 = .ok (.goto 4, 3) := by decide +kernel
theorem dX12_test_83 : decode cX12_test 83 = .ok (.iconst 0, 1) := by decide +kernel
theorem dX12_test_84 : decode cX12_test 84 = .ok (.istore_n 2, 1) := by decide +kernel
theorem dX12_test_85 : decode cX12_test 85 = .ok (.aload_n 0, 1) := by decide +kernel
theorem dX12_test_86 : decode cX12_test 86 = .ok (.iload_n 2, 1) := by decide +kernel
theorem dX12_test_87 : decode cX12_test 87 = .ok (.ifCond .ge 8, 3) := by decide +kernel
theorem dX12_test_90 : decode cX12_test 90 = .ok (.bipush 60, 2) := by decide +kernel
theorem dX12_test_92 : decode cX12_test 92 = .ok (.goto 14, 3) := by decide +kernel
theorem dX12_test_95 : decode cX12_test 95 = .ok (.iload_n 2, 1) := by decide +kernel
theorem dX12_test_96 : decode cX12_test 96 = .ok (.ifCond .le 8, 3) := by decide +kernel
theorem dX12_test_99 : decode cX12_test 99 = .ok (.bipush 62, 2) := by decide +kernel
theorem dX12_test_101 : decode cX12_test 101 = .ok (.goto 5, 3) := by decide +kernel
theorem dX12_test_104 : decode cX12_test 104 = .ok (.bipush 61, 2) := by decide +kernel
theorem dX12_test_106 : decode cX12_test 106 = .ok (.invokevirtual 157, 3) := by decide +kernel
theorem dX12_test_109 : decode cX12_test 109 = .ok (.aload_n 0, 1) := by decide +kernel
theorem dX12_test_110 : decode cX12_test 110 = .ok (.invokevirtual 160, 3) := by decide +kernel
theorem dX12_test_113 : decode cX12_test 113 = .ok (.istore_n 3, 1) := by decide +kernel
theorem dX12_test_114 : decode cX12_test 114 = .ok (.iload_n 2, 1) := by decide +kernel
theorem dX12_test_115 : decode cX12_test 115 = .ok (.ifCond .ge 21, 3) := by decide +kernel
theorem dX12_test_118 : decode cX12_test 118 = .ok (.aload_n 0, 1) := by decide +kernel
theorem dX12_test_119 : decode cX12_test 119 = .ok (.getfield 37, 3) := by decide +kernel
theorem dX12_test_122 : decode cX12_test 122 = .ok (.iload_n 1, 1) := by decide +kernel
theorem dX12_test_123 : decode cX12_test 123 = .ok (.iaload, 1) := by decide +kernel
theorem dX12_test_124 : decode cX12_test 124 = .ok (.iload_n 3, 1) := by decide +kernel
theorem dX12_test_125 : decode cX12_test 125 = .ok (.if_icmp .ge 7, 3) := by decide +kernel
theorem dX12_test_128 : decode cX12_test 128 = .ok (.iconst 1, 1) := by decide +kernel
theorem dX12_test_129 : decode cX12_test 129 = .ok (.goto 44, 3) := by decide +kernel
theorem dX12_test_132 : decode cX12_test 132 = .ok (.iconst 0, 1) := by decide +kernel
theorem dX12_test_133 : decode cX12_test 133 = .ok (.goto 40, 3) := by decide +kernel
theorem dX12_test_136 : decode cX12_test 136 = .ok (.iload_n 2, 1) := by decide +kernel
theorem dX12_test_137 : decode cX12_test 137 = .ok (.ifCond .le 21, 3) := by decide +kernel
theorem dX12_test_140 : decode cX12_test 140 = .ok (.aload_n 0, 1) := by decide +kernel
theorem dX12_test_141 : decode cX12_test 141 = .ok (.getfield 37, 3) := by decide +kernel
theorem dX12_test_144 : decode cX12_test 144 = .ok (.iload_n 1, 1) := by decide +kernel
theorem dX12_test_145 : decode cX12_test 145 = .ok (.iaload, 1) := by decide +kernel
theorem dX12_test_146 : decode cX12_test 146 = .ok (.iload_n 3, 1) := by decide +kernel
theorem dX12_test_147 : decode cX12_test 147 = .ok (.if_icmp .le 7, 3) := by decide +kernel
theorem dX12_test_150 : decode cX12_test 150 = .ok (.iconst 1, 1) := by decide +kernel
theorem dX12_test_151 : decode cX12_test 151 = .ok (.goto 22, 3) := by decide +kernel
theorem dX12_test_154 : decode cX12_test 154 = .ok (.iconst 0, 1) := by decide +kernel
theorem dX12_test_155 : decode cX12_test 155 = .ok (.goto 18, 3) := by decide +kernel
theorem dX12_test_158 : decode cX12_test 158 = .ok (.aload_n 0, 1) := by decide +kernel
theorem dX12_test_159 : decode cX12_test 159 = .ok (.getfield 37, 3) := by decide +kernel
theorem dX12_test_162 : decode cX12_test 162 = .ok (.iload_n 1, 1) := by decide +kernel
theorem dX12_test_163 : decode cX12_test 163 = .ok (.iaload, 1) := by decide +kernel
theorem dX12_test_164 : decode cX12_test 164 = .ok (.iload_n 3, 1) := by decide +kernel
theorem dX12_test_165 : decode cX12_test 165 = .ok (.if_icmp .ne 7, 3) := by decide +kernel
theorem dX12_test_168 : decode cX12_test 168 = .ok (.iconst 1, 1) := by decide +kernel
theorem dX12_test_169 : decode cX12_test 169 = .ok (.goto 4, 3) := by decide +kernel
theorem dX12_test_172 : decode cX12_test 172 = .ok (.iconst 0, 1) := by decide +kernel
theorem dX12_test_173 : decode cX12_test 173 = .ok (.ireturn, 1) := by decide +kernel
set_option maxRecDepth 20000 in
theorem ggX12_test_X12_isAt : GoodIn wsX12_test wsX12_isAt := goodIn_r _ [9, 2, 3, 10, 11, 24, 25, 26, 27, 28, 29, 30, 31, 32, 33, 34, 35, 36, 37, 38, 39, 40, 41, 42, 43, 44, 45, 46, 47, 48, 49, 50, 51, 52, 53, 54, 55] (by decide +kernel) (by decide +kernel)
set_option maxRecDepth 20000 in
theorem gX12_test_X12_isAt : GoodIn wsX12_test (wsV RX12 150 RX12 yX12_isAt wsX12_isAt) := goodIn_app (goodIn_of _ (by decide +kernel)) ggX12_test_X12_isAt
set_option maxRecDepth 20000 in
theorem ggX12_test_X12_takes : GoodIn wsX12_test wsX12_takes := goodIn_r _ [15, 3, 2, 5, 6, 7, 8, 9, 10, 11, 24, 25, 26, 27, 28, 29, 30, 31, 32, 33, 34, 35, 36, 37, 38, 39, 40, 41, 42, 43, 44, 45, 46, 47, 48, 49, 50, 51, 52, 53, 54, 55] (by decide +kernel) (by decide +kernel)
set_option maxRecDepth 20000 in
theorem gX12_test_X12_takes : GoodIn wsX12_test (wsV RX12 157 RX12 yX12_takes wsX12_takes) := goodIn_app (goodIn_of _ (by decide +kernel)) ggX12_test_X12_takes
set_option maxRecDepth 20000 in
theorem ggX12_test_X12_number : GoodIn wsX12_test wsX12_number := goodIn_r _ [19, 2, 11, 3, 20, 21, 22, 8, 23, 10, 24, 25, 26, 27, 28, 29, 30, 31, 32, 33, 34, 35, 36, 37, 38, 39, 40, 41, 42, 43, 44, 45, 46, 47, 48, 49, 50, 51, 52, 53, 54, 55] (by decide +kernel) (by decide +kernel)
set_option maxRecDepth 20000 in
theorem gX12_test_X12_number : GoodIn wsX12_test (wsV RX12 160 RX12 yX12_number wsX12_number) := goodIn_app (goodIn_of _ (by decide +kernel)) ggX12_test_X12_number
def fX12_test_106   (x1 : Int32) (x2 : Int32) (y1 : Int32) (g : c_G) : Option (c_G × Int32) :=
  (fX12_takes g y1).bind fun g106002 => c_b2 (fX12_number g106002) fun g106004 r106005 => if 0 ≤ x2 then (if x2 ≤ 0 then (if c_in (x1) (6) = true then if (g106004.1 8 (x1).toNatClampNeg) = r106005 then (some (g106004, (1 : Int32))) else (some (g106004, (0 : Int32))) else none) else (if c_in (x1) (6) = true then if (g106004.1 8 (x1).toNatClampNeg) ≤ r106005 then (some (g106004, (0 : Int32))) else (some (g106004, (1 : Int32))) else none)) else (if c_in (x1) (6) = true then if r106005 ≤ (g106004.1 8 (x1).toNatClampNeg) then (some (g106004, (0 : Int32))) else (some (g106004, (1 : Int32))) else none)
set_option maxRecDepth 100000 in
set_option maxHeartbeats 4000000 in
theorem jX12_test_106 {p : Program} {l : Launch} {e : Env} {s : State} {m : MethodId} {below : List Frame} {meth : Method} {c : Code} {D : va_G} {tc : Nat → ClassId} {ad : Nat → Nat} {A : Nat → Prop} {E : (Nat → Nat) × (Nat → Nat) × Nat} {g' : c_G} {r : Int32} (C : c_C p s m meth c D tc A E RX12 wsX12_test cX12_test 4 (some .boolean) ([.ref (ad 0)] : List Value).toArray) (hD : c_D A ad TM)  : ∀ (x1 : Int32) (x2 : Int32) (y1 : Int32) (g : c_G), fX12_test_106 x1 x2 y1 g = some (g', r) → ∀ (H : Heap) (locs : List Loc), va_P D vwCl (c_ws tc ad TM g) H → va_S A s.heap H locs → ∀ ls : Array Slot, lv_has ls 4 [(0, .ref (ad 0)), (1, .int x1), (2, .int x2)] → W p l e (c_rm 2) s m ([.ref (ad 0)] : List Value).toArray below meth c H locs 0 0 (MQ below (va_Qi (fun (x : Int32) (_ : Unit) => x = r) (fun _ t => va_P D vwCl (c_ws tc ad TM g') t.heap) A) ([.ref (ad 0)] : List Value).toArray s 0 0 A) (F0 m 106 ls [.int y1, .ref (ad 0)]) := by
  obtain ⟨hx, hb, hr, hml, hts, hown, hlk, hK, hE⟩ := id C
  intro x1 x2 y1 g hf H locs hP hS ls hl
  unfold fX12_test_106 at hf
  obtain ⟨g106002, hc106001, hf⟩ := c_bd hf
  refine c_gov (va_runV (As := [.int y1]) (rest := []) ⟨hx, hb, hml, hown, hts⟩ (kX12_takes hD hc106001) (cwV 1 hts gX12_test_X12_takes rfl rfl rfl (by decide +kernel) ⟨Nat.le_of_ble_eq_true rfl, Nat.le_of_ble_eq_true rfl⟩) (c_preV hK hP hE hS tM0 rfl) rfl rfl hl.1 rfl (lv_room (Nat.le_of_ble_eq_true rfl)) dX12_test_106 ⟨Nat.zero_le _, Nat.zero_le _⟩) hS (fun H locs hP hS => ?_)
  refine lv_aload_n hx hb dX12_test_109 rfl (lv_at hl 0 rfl) ?_
  obtain ⟨g106004, r106005, hc106003, hf⟩ := c_b2E hf
  refine c_goi (va_runV (As := []) (rest := []) ⟨hx, hb, hml, hown, hts⟩ (kX12_number hD hc106003) (cwV 0 hts gX12_test_X12_number rfl rfl rfl (by decide +kernel) ⟨Nat.le_of_ble_eq_true rfl, Nat.le_of_ble_eq_true rfl⟩) (c_preV hK hP hE hS tM0 rfl) rfl rfl hl.1 rfl (lv_room (Nat.le_of_ble_eq_true rfl)) dX12_test_110 ⟨Nat.zero_le _, Nat.zero_le _⟩) hS (fun H locs hP hS => ?_)
  refine lv_istore_n (lv' := [(3, .int r106005), (0, .ref (ad 0)), (1, .int x1), (2, .int x2)]) hx hb dX12_test_113 rfl hl (by decide) rfl (fun ls hl => ?_)
  refine lv_iload_n hx hb dX12_test_114 rfl (lv_at hl 3 rfl) ?_
  refine lv_if_ge (tgt := 136) hx hb dX12_test_115 (by decide) (fun c106006 => ?_) (fun c106006 => ?_)
  · have hf := c_it c106006 hf
    refine lv_iload_n hx hb dX12_test_136 rfl (lv_at hl 3 rfl) ?_
    refine lv_if_le (tgt := 158) hx hb dX12_test_137 (by decide) (fun c106007 => ?_) (fun c106007 => ?_)
    · have hf := c_it c106007 hf
      refine lv_aload_n hx hb dX12_test_158 rfl (lv_at hl 1 rfl) ?_
      refine c_get hx hb hts i_X12_test_X12 hown hK hP 0 tM0 rfl 16 (by decide) (hts _ (List.mem_of_getElem? (i := 4) rfl)) (fun _ h9 => h9) rfl (v := .ref (ad 8)) rfl dX12_test_159 ?_
      refine lv_iload_n hx hb dX12_test_162 rfl (lv_at hl 2 rfl) ?_
      obtain ⟨hi106008, hf⟩ := c_gd hf
      refine c_iald (j := (x1).toNatClampNeg) hx hb hK hP 8 tM8 rfl (c_inV hi106008) dX12_test_163 ?_
      refine lv_iload_n hx hb dX12_test_164 rfl (lv_at hl 0 rfl) ?_
      refine lv_icmp_ne (tgt := 172) hx hb dX12_test_165 (by decide) (fun c106009 => ?_) (fun c106009 => ?_)
      · have hf := c_ie c106009 hf
        refine lv_iconst (v := (0 : Int32)) hx hb dX12_test_172 (by decide) ?_
        exact c_iret hx hb hr hlk hP hS rfl (c_inj hf) dX12_test_173
      · have hf := c_it c106009 hf
        refine lv_iconst (v := (1 : Int32)) hx hb dX12_test_168 (by decide) ?_
        refine lv_goto (tgt := 173) hx hb dX12_test_169 (by decide) ?_
        exact c_iret hx hb hr hlk hP hS rfl (c_inj hf) dX12_test_173
    · have hf := c_ie c106007 hf
      refine lv_aload_n hx hb dX12_test_140 rfl (lv_at hl 1 rfl) ?_
      refine c_get hx hb hts i_X12_test_X12 hown hK hP 0 tM0 rfl 16 (by decide) (hts _ (List.mem_of_getElem? (i := 4) rfl)) (fun _ h9 => h9) rfl (v := .ref (ad 8)) rfl dX12_test_141 ?_
      refine lv_iload_n hx hb dX12_test_144 rfl (lv_at hl 2 rfl) ?_
      obtain ⟨hi106010, hf⟩ := c_gd hf
      refine c_iald (j := (x1).toNatClampNeg) hx hb hK hP 8 tM8 rfl (c_inV hi106010) dX12_test_145 ?_
      refine lv_iload_n hx hb dX12_test_146 rfl (lv_at hl 0 rfl) ?_
      refine lv_icmp_le (tgt := 154) hx hb dX12_test_147 (by decide) (fun c106011 => ?_) (fun c106011 => ?_)
      · have hf := c_it c106011 hf
        refine lv_iconst (v := (0 : Int32)) hx hb dX12_test_154 (by decide) ?_
        refine lv_goto (tgt := 173) hx hb dX12_test_155 (by decide) ?_
        exact c_iret hx hb hr hlk hP hS rfl (c_inj hf) dX12_test_173
      · have hf := c_ie c106011 hf
        refine lv_iconst (v := (1 : Int32)) hx hb dX12_test_150 (by decide) ?_
        refine lv_goto (tgt := 173) hx hb dX12_test_151 (by decide) ?_
        exact c_iret hx hb hr hlk hP hS rfl (c_inj hf) dX12_test_173
  · have hf := c_ie c106006 hf
    refine lv_aload_n hx hb dX12_test_118 rfl (lv_at hl 1 rfl) ?_
    refine c_get hx hb hts i_X12_test_X12 hown hK hP 0 tM0 rfl 16 (by decide) (hts _ (List.mem_of_getElem? (i := 4) rfl)) (fun _ h9 => h9) rfl (v := .ref (ad 8)) rfl dX12_test_119 ?_
    refine lv_iload_n hx hb dX12_test_122 rfl (lv_at hl 2 rfl) ?_
    obtain ⟨hi106012, hf⟩ := c_gd hf
    refine c_iald (j := (x1).toNatClampNeg) hx hb hK hP 8 tM8 rfl (c_inV hi106012) dX12_test_123 ?_
    refine lv_iload_n hx hb dX12_test_124 rfl (lv_at hl 0 rfl) ?_
    refine lv_icmp_ge (tgt := 132) hx hb dX12_test_125 (by decide) (fun c106013 => ?_) (fun c106013 => ?_)
    · have hf := c_it c106013 hf
      refine lv_iconst (v := (0 : Int32)) hx hb dX12_test_132 (by decide) ?_
      refine lv_goto (tgt := 173) hx hb dX12_test_133 (by decide) ?_
      exact c_iret hx hb hr hlk hP hS rfl (c_inj hf) dX12_test_173
    · have hf := c_ie c106013 hf
      refine lv_iconst (v := (1 : Int32)) hx hb dX12_test_128 (by decide) ?_
      refine lv_goto (tgt := 173) hx hb dX12_test_129 (by decide) ?_
      exact c_iret hx hb hr hlk hP hS rfl (c_inj hf) dX12_test_173
def fX12_test_84   (x1 : Int32) (y0 : Int32) (g : c_G) : Option (c_G × Int32) :=
  if 0 ≤ y0 then (if y0 ≤ 0 then (fX12_test_106 x1 y0 ((61 : Int32)) g) else (fX12_test_106 x1 y0 ((62 : Int32)) g)) else (fX12_test_106 x1 y0 ((60 : Int32)) g)
set_option maxRecDepth 100000 in
set_option maxHeartbeats 4000000 in
theorem jX12_test_84 {p : Program} {l : Launch} {e : Env} {s : State} {m : MethodId} {below : List Frame} {meth : Method} {c : Code} {D : va_G} {tc : Nat → ClassId} {ad : Nat → Nat} {A : Nat → Prop} {E : (Nat → Nat) × (Nat → Nat) × Nat} {g' : c_G} {r : Int32} (C : c_C p s m meth c D tc A E RX12 wsX12_test cX12_test 4 (some .boolean) ([.ref (ad 0)] : List Value).toArray) (hD : c_D A ad TM)  : ∀ (x1 : Int32) (y0 : Int32) (g : c_G), fX12_test_84 x1 y0 g = some (g', r) → ∀ (H : Heap) (locs : List Loc), va_P D vwCl (c_ws tc ad TM g) H → va_S A s.heap H locs → ∀ ls : Array Slot, lv_has ls 4 [(0, .ref (ad 0)), (1, .int x1)] → W p l e (c_rm 2) s m ([.ref (ad 0)] : List Value).toArray below meth c H locs 0 0 (MQ below (va_Qi (fun (x : Int32) (_ : Unit) => x = r) (fun _ t => va_P D vwCl (c_ws tc ad TM g') t.heap) A) ([.ref (ad 0)] : List Value).toArray s 0 0 A) (F0 m 84 ls [.int y0]) := by
  obtain ⟨hx, hb, hr, hml, hts, hown, hlk, hK, hE⟩ := id C
  intro x1 y0 g hf H locs hP hS ls hl
  unfold fX12_test_84 at hf
  refine lv_istore_n (lv' := [(2, .int y0), (0, .ref (ad 0)), (1, .int x1)]) hx hb dX12_test_84 rfl hl (by decide) rfl (fun ls hl => ?_)
  refine lv_aload_n hx hb dX12_test_85 rfl (lv_at hl 1 rfl) ?_
  refine lv_iload_n hx hb dX12_test_86 rfl (lv_at hl 0 rfl) ?_
  refine lv_if_ge (tgt := 95) hx hb dX12_test_87 (by decide) (fun c84001 => ?_) (fun c84001 => ?_)
  · have hf := c_it c84001 hf
    refine lv_iload_n hx hb dX12_test_95 rfl (lv_at hl 0 rfl) ?_
    refine lv_if_le (tgt := 104) hx hb dX12_test_96 (by decide) (fun c84002 => ?_) (fun c84002 => ?_)
    · have hf := c_it c84002 hf
      refine lv_bipush (v := (61 : Int32)) hx hb dX12_test_104 (by decide) ?_
      exact jX12_test_106 C hD x1 y0 ((61 : Int32)) g hf _ _ hP hS _ (lv_sub hl [1, 2, 0] rfl)
    · have hf := c_ie c84002 hf
      refine lv_bipush (v := (62 : Int32)) hx hb dX12_test_99 (by decide) ?_
      refine lv_goto (tgt := 106) hx hb dX12_test_101 (by decide) ?_
      exact jX12_test_106 C hD x1 y0 ((62 : Int32)) g hf _ _ hP hS _ (lv_sub hl [1, 2, 0] rfl)
  · have hf := c_ie c84001 hf
    refine lv_bipush (v := (60 : Int32)) hx hb dX12_test_90 (by decide) ?_
    refine lv_goto (tgt := 106) hx hb dX12_test_92 (by decide) ?_
    exact jX12_test_106 C hD x1 y0 ((60 : Int32)) g hf _ _ hP hS _ (lv_sub hl [1, 2, 0] rfl)
def fX12_test_28 (rec4 : Int32 → Int32 → c_G → Option (c_G × Int32))  (x2 : Int32) (y0 : Int32) (g : c_G) : Option (c_G × Int32) :=
  c_let (x2 + (1 : Int32)) fun v28001 => rec4 y0 v28001 g
set_option maxRecDepth 100000 in
set_option maxHeartbeats 4000000 in
theorem jX12_test_28 {p : Program} {l : Launch} {e : Env} {s : State} {m : MethodId} {below : List Frame} {meth : Method} {c : Code} {D : va_G} {tc : Nat → ClassId} {ad : Nat → Nat} {A : Nat → Prop} {E : (Nat → Nat) × (Nat → Nat) × Nat} {g' : c_G} {r : Int32} (C : c_C p s m meth c D tc A E RX12 wsX12_test cX12_test 4 (some .boolean) ([.ref (ad 0)] : List Value).toArray) (hD : c_D A ad TM) {rec4 : Int32 → Int32 → c_G → Option (c_G × Int32)} (hrec4 : ∀ (x1 : Int32) (x2 : Int32) (g : c_G), rec4 x1 x2 g = some (g', r) → ∀ (H : Heap) (locs : List Loc), va_P D vwCl (c_ws tc ad TM g) H → va_S A s.heap H locs → ∀ ls : Array Slot, lv_has ls 4 [(0, .ref (ad 0)), (1, .int x1), (2, .int x2)] → W p l e (c_rm 2) s m ([.ref (ad 0)] : List Value).toArray below meth c H locs 0 0 (MQ below (va_Qi (fun (x : Int32) (_ : Unit) => x = r) (fun _ t => va_P D vwCl (c_ws tc ad TM g') t.heap) A) ([.ref (ad 0)] : List Value).toArray s 0 0 A) (F0 m 4 ls [])) : ∀ (x2 : Int32) (y0 : Int32) (g : c_G), fX12_test_28 rec4 x2 y0 g = some (g', r) → ∀ (H : Heap) (locs : List Loc), va_P D vwCl (c_ws tc ad TM g) H → va_S A s.heap H locs → ∀ ls : Array Slot, lv_has ls 4 [(0, .ref (ad 0)), (2, .int x2)] → W p l e (c_rm 2) s m ([.ref (ad 0)] : List Value).toArray below meth c H locs 0 0 (MQ below (va_Qi (fun (x : Int32) (_ : Unit) => x = r) (fun _ t => va_P D vwCl (c_ws tc ad TM g') t.heap) A) ([.ref (ad 0)] : List Value).toArray s 0 0 A) (F0 m 28 ls [.int y0]) := by
  obtain ⟨hx, hb, hr, hml, hts, hown, hlk, hK, hE⟩ := id C
  intro x2 y0 g hf H locs hP hS ls hl
  unfold fX12_test_28 at hf
  refine lv_istore_n (lv' := [(1, .int y0), (0, .ref (ad 0)), (2, .int x2)]) hx hb dX12_test_28 rfl hl (by decide) rfl (fun ls hl => ?_)
  obtain ⟨v28001, ev28001, hf⟩ := c_letE hf
  refine lv_iinc (v := v28001) (lv' := [(2, .int v28001), (1, .int y0), (0, .ref (ad 0))]) hx hb dX12_test_29 hl (k := 2) rfl (by rw [ev28001]; rfl) (by decide) rfl (fun ls hl => ?_)
  refine lv_goto (tgt := 4) hx hb dX12_test_32 (by decide) ?_
  exact hrec4 y0 v28001 g hf _ _ hP hS _ (lv_sub hl [2, 1, 0] rfl)
def fX12_test_4   : Nat → Int32 → Int32 → c_G → Option (c_G × Int32)
  | 0, _, _, _ => none
  | n + 1, x1, x2, g => if (6 : Int32) ≤ x2 then (if x1 = (-1 : Int32) then (c_let (c_si g 0 12 (0 : Int32)) fun g4011 => some (g4011, (0 : Int32))) else (c_let (((g.1 0 11) + (1 : Int32))) fun v4003 => c_let (c_si g 0 11 v4003) fun g4004 => (fX12_isAt g4004 ((60 : Int32))).bind fun r4005 => if r4005 = 0 then ((fX12_isAt g4004 ((62 : Int32))).bind fun r4008 => if r4008 = 0 then (fX12_test_84 x1 ((0 : Int32)) g4004) else (fX12_test_84 x1 ((1 : Int32)) g4004)) else (fX12_test_84 x1 ((-1 : Int32)) g4004))) else (if c_in (x2) (6) = true then (fX12_isAt g ((g.1 9 (x2).toNatClampNeg))).bind fun r4013 => if r4013 = 0 then (fX12_test_28 (fX12_test_4 n) x2 x1 g) else (fX12_test_28 (fX12_test_4 n) x2 x2 g) else none)
set_option maxRecDepth 100000 in
set_option maxHeartbeats 4000000 in
theorem jX12_test_4 {p : Program} {l : Launch} {e : Env} {s : State} {m : MethodId} {below : List Frame} {meth : Method} {c : Code} {D : va_G} {tc : Nat → ClassId} {ad : Nat → Nat} {A : Nat → Prop} {E : (Nat → Nat) × (Nat → Nat) × Nat} {g' : c_G} {r : Int32} (C : c_C p s m meth c D tc A E RX12 wsX12_test cX12_test 4 (some .boolean) ([.ref (ad 0)] : List Value).toArray) (hD : c_D A ad TM)  : ∀ (n : Nat) (x1 : Int32) (x2 : Int32) (g : c_G), fX12_test_4 n x1 x2 g = some (g', r) → ∀ (H : Heap) (locs : List Loc), va_P D vwCl (c_ws tc ad TM g) H → va_S A s.heap H locs → ∀ ls : Array Slot, lv_has ls 4 [(0, .ref (ad 0)), (1, .int x1), (2, .int x2)] → W p l e (c_rm 2) s m ([.ref (ad 0)] : List Value).toArray below meth c H locs 0 0 (MQ below (va_Qi (fun (x : Int32) (_ : Unit) => x = r) (fun _ t => va_P D vwCl (c_ws tc ad TM g') t.heap) A) ([.ref (ad 0)] : List Value).toArray s 0 0 A) (F0 m 4 ls []) := by
  obtain ⟨hx, hb, hr, hml, hts, hown, hlk, hK, hE⟩ := id C
  intro n
  induction n with
  | zero =>
    intro x1 x2 g hf
    cases hf
  | succ n ih =>
    intro x1 x2 g hf H locs hP hS ls hl
    unfold fX12_test_4 at hf
    refine lv_iload_n hx hb dX12_test_4 rfl (lv_at hl 2 rfl) ?_
    refine lv_bipush (v := (6 : Int32)) hx hb dX12_test_5 (by decide) ?_
    refine lv_icmp_ge (tgt := 35) hx hb dX12_test_7 (by decide) (fun c4001 => ?_) (fun c4001 => ?_)
    · have hf := c_it c4001 hf
      refine lv_iload_n hx hb dX12_test_35 rfl (lv_at hl 1 rfl) ?_
      refine lv_iconst (v := (-1 : Int32)) hx hb dX12_test_36 (by decide) ?_
      refine lv_icmp_ne (tgt := 47) hx hb dX12_test_37 (by decide) (fun c4002 => ?_) (fun c4002 => ?_)
      · have hf := c_ie c4002 hf
        refine lv_aload_n hx hb dX12_test_47 rfl (lv_at hl 0 rfl) ?_
        refine lv_dup hx hb dX12_test_48 rfl ?_
        refine c_get hx hb hts i_X12_test_X12 hown hK hP 0 tM0 rfl 11 (by decide) (hts _ (List.mem_of_getElem? (i := 3) rfl)) (fun _ h9 => h9) rfl (v := .int (g.1 0 11)) rfl dX12_test_49 ?_
        refine lv_iconst (v := (1 : Int32)) hx hb dX12_test_52 (by decide) ?_
        refine lv_iadd hx hb dX12_test_53 ?_
        obtain ⟨v4003, ev4003, hf⟩ := c_letE hf
        refine c_topi ev4003 ?_
        obtain ⟨g4004, eg4004, hf⟩ := c_letE hf
        refine c_put hx hb hts i_X12_test_X12 tyX12 tyX12_ok nmX12 hown hK hP hD hS 0 tM0 rfl 11 (by decide) (hts _ (List.mem_of_getElem? (i := 3) rfl)) (fun _ h9 => h9) rfl (ty := .int) (by decide +kernel) rfl rfl rfl eg4004 dX12_test_54 (fun H locs hP hS => ?_)
        refine lv_aload_n hx hb dX12_test_57 rfl (lv_at hl 0 rfl) ?_
        refine lv_bipush (v := (60 : Int32)) hx hb dX12_test_58 (by decide) ?_
        obtain ⟨r4005, hc4006, hf⟩ := c_bd hf
        refine c_goi (va_runV (As := [.int (60 : Int32)]) (rest := []) ⟨hx, hb, hml, hown, hts⟩ (kX12_isAt hD hc4006) (cwV 1 hts gX12_test_X12_isAt rfl rfl rfl (by decide +kernel) ⟨Nat.le_of_ble_eq_true rfl, Nat.le_of_ble_eq_true rfl⟩) (c_preV hK hP hE hS tM0 rfl) rfl rfl hl.1 rfl (lv_room (Nat.le_of_ble_eq_true rfl)) dX12_test_60 ⟨Nat.zero_le _, Nat.zero_le _⟩) hS (fun H locs hP hS => ?_)
        refine lv_if_eq (tgt := 70) hx hb dX12_test_63 (by decide) (fun c4007 => ?_) (fun c4007 => ?_)
        · have hf := c_it c4007 hf
          refine lv_aload_n hx hb dX12_test_70 rfl (lv_at hl 0 rfl) ?_
          refine lv_bipush (v := (62 : Int32)) hx hb dX12_test_71 (by decide) ?_
          obtain ⟨r4008, hc4009, hf⟩ := c_bd hf
          refine c_goi (va_runV (As := [.int (62 : Int32)]) (rest := []) ⟨hx, hb, hml, hown, hts⟩ (kX12_isAt hD hc4009) (cwV 1 hts gX12_test_X12_isAt rfl rfl rfl (by decide +kernel) ⟨Nat.le_of_ble_eq_true rfl, Nat.le_of_ble_eq_true rfl⟩) (c_preV hK hP hE hS tM0 rfl) rfl rfl hl.1 rfl (lv_room (Nat.le_of_ble_eq_true rfl)) dX12_test_73 ⟨Nat.zero_le _, Nat.zero_le _⟩) hS (fun H locs hP hS => ?_)
          refine lv_if_eq (tgt := 83) hx hb dX12_test_76 (by decide) (fun c4010 => ?_) (fun c4010 => ?_)
          · have hf := c_it c4010 hf
            refine lv_iconst (v := (0 : Int32)) hx hb dX12_test_83 (by decide) ?_
            exact jX12_test_84 C hD x1 ((0 : Int32)) g4004 hf _ _ hP hS _ (lv_sub hl [0, 1] rfl)
          · have hf := c_ie c4010 hf
            refine lv_iconst (v := (1 : Int32)) hx hb dX12_test_79 (by decide) ?_
            refine lv_goto (tgt := 84) hx hb dX12_test_80 (by decide) ?_
            exact jX12_test_84 C hD x1 ((1 : Int32)) g4004 hf _ _ hP hS _ (lv_sub hl [0, 1] rfl)
        · have hf := c_ie c4007 hf
          refine lv_iconst (v := (-1 : Int32)) hx hb dX12_test_66 (by decide) ?_
          refine lv_goto (tgt := 84) hx hb dX12_test_67 (by decide) ?_
          exact jX12_test_84 C hD x1 ((-1 : Int32)) g4004 hf _ _ hP hS _ (lv_sub hl [0, 1] rfl)
      · have hf := c_it c4002 hf
        refine lv_aload_n hx hb dX12_test_40 rfl (lv_at hl 0 rfl) ?_
        refine lv_iconst (v := (0 : Int32)) hx hb dX12_test_41 (by decide) ?_
        obtain ⟨g4011, eg4011, hf⟩ := c_letE hf
        refine c_put hx hb hts i_X12_test_X12 tyX12 tyX12_ok nmX12 hown hK hP hD hS 0 tM0 rfl 12 (by decide) (hts _ (List.mem_of_getElem? (i := 2) rfl)) (fun _ h9 => h9) rfl (ty := .boolean) (by decide +kernel) rfl rfl rfl eg4011 dX12_test_42 (fun H locs hP hS => ?_)
        refine lv_iconst (v := (0 : Int32)) hx hb dX12_test_45 (by decide) ?_
        exact c_iret hx hb hr hlk hP hS rfl (c_inj hf) dX12_test_46
    · have hf := c_ie c4001 hf
      refine lv_aload_n hx hb dX12_test_10 rfl (lv_at hl 0 rfl) ?_
      refine lv_aload_n hx hb dX12_test_11 rfl (lv_at hl 0 rfl) ?_
      refine c_get hx hb hts i_X12_test_X12 hown hK hP 0 tM0 rfl 17 (by decide) (hts _ (List.mem_of_getElem? (i := 1) rfl)) (fun _ h9 => h9) rfl (v := .ref (ad 9)) rfl dX12_test_12 ?_
      refine lv_iload_n hx hb dX12_test_15 rfl (lv_at hl 2 rfl) ?_
      obtain ⟨hi4012, hf⟩ := c_gd hf
      refine c_cald (j := (x2).toNatClampNeg) hx hb hK hP 9 tM9 rfl (c_inV hi4012) dX12_test_16 ?_
      obtain ⟨r4013, hc4014, hf⟩ := c_bd hf
      refine c_goi (va_runV (As := [.int (g.1 9 (x2).toNatClampNeg)]) (rest := []) ⟨hx, hb, hml, hown, hts⟩ (kX12_isAt hD hc4014) (cwV 1 hts gX12_test_X12_isAt rfl rfl rfl (by decide +kernel) ⟨Nat.le_of_ble_eq_true rfl, Nat.le_of_ble_eq_true rfl⟩) (c_preV hK hP hE hS tM0 rfl) rfl rfl hl.1 rfl (lv_room (Nat.le_of_ble_eq_true rfl)) dX12_test_17 ⟨Nat.zero_le _, Nat.zero_le _⟩) hS (fun H locs hP hS => ?_)
      refine lv_if_eq (tgt := 27) hx hb dX12_test_20 (by decide) (fun c4015 => ?_) (fun c4015 => ?_)
      · have hf := c_it c4015 hf
        refine lv_iload_n hx hb dX12_test_27 rfl (lv_at hl 1 rfl) ?_
        exact jX12_test_28 C hD ih x2 x1 g hf _ _ hP hS _ (lv_sub hl [0, 2] rfl)
      · have hf := c_ie c4015 hf
        refine lv_iload_n hx hb dX12_test_23 rfl (lv_at hl 2 rfl) ?_
        refine lv_goto (tgt := 28) hx hb dX12_test_24 (by decide) ?_
        exact jX12_test_28 C hD ih x2 x2 g hf _ _ hP hS _ (lv_sub hl [0, 2] rfl)
def fX12_test (g : c_G)  : Option (c_G × Int32) :=
  fX12_test_4 c_F ((-1 : Int32)) ((0 : Int32)) g
set_option maxRecDepth 100000 in
set_option maxHeartbeats 4000000 in
theorem kX12_test {l : Launch} {D : va_G} {tc : Nat → ClassId} {ad : Nat → Nat} {A : Nat → Prop} {E : (Nat → Nat) × (Nat → Nat) × Nat} (hD : c_D A ad TM)  {g g' : c_G} {r : Int32} (hf : fX12_test g  = some (g', r)) : c_Mi l yX12_test wsX12_test (c_rm 2) D tc ad A E TM ([.ref (ad 0)] : List Value) g g' r := by
  refine c_ofW (bytes := cX12_test) (maxL := 4) (ret := (some .boolean)) (by decide) rfl (Nat.le_of_ble_eq_true rfl) ?_
  intro p e s m below meth c ls C hP hS hl
  unfold fX12_test at hf
  obtain ⟨hx, hb, hr, hml, hts, hown, hlk, hK, hE⟩ := id C
  have hl : lv_has ls 4 [(0, .ref (ad 0))] := hl
  refine lv_iconst (v := (-1 : Int32)) hx hb dX12_test_0 (by decide) ?_
  refine lv_istore_n (lv' := [(1, .int (-1 : Int32)), (0, .ref (ad 0))]) hx hb dX12_test_1 rfl hl (by decide) rfl (fun ls hl => ?_)
  refine lv_iconst (v := (0 : Int32)) hx hb dX12_test_2 (by decide) ?_
  refine lv_istore_n (lv' := [(2, .int (0 : Int32)), (1, .int (-1 : Int32)), (0, .ref (ad 0))]) hx hb dX12_test_3 rfl hl (by decide) rfl (fun ls hl => ?_)
  exact jX12_test_4 C hD c_F ((-1 : Int32)) ((0 : Int32)) g hf _ _ hP hS _ (lv_sub hl [2, 1, 0] rfl)
