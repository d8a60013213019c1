theorem dJ7_fill_d0a16_0 : decode cJ7_fill_d0a16 0 = .ok (.iconst 0, 1) := by decide +kernel
theorem dJ7_fill_d0a16_1 : decode cJ7_fill_d0a16 1 = .ok (.istore_n 3, 1) := by decide +kernel
theorem dJ7_fill_d0a16_2 : decode cJ7_fill_d0a16 2 = .ok (.aload_n 0, 1) := by decide +kernel
theorem dJ7_fill_d0a16_3 : decode cJ7_fill_d0a16 3 = .ok (.arraylength, 1) := by decide +kernel
theorem dJ7_fill_d0a16_4 : decode cJ7_fill_d0a16 4 = .ok (.istore 4, 2) := by decide +kernel
theorem dJ7_fill_d0a16_6 : decode cJ7_fill_d0a16 6 = .ok (.iload_n 3, 1) := by decide +kernel
theorem dJ7_fill_d0a16_7 : decode cJ7_fill_d0a16 7 = .ok (.iload 4, 2) := by decide +kernel
theorem dJ7_fill_d0a16_9 : decode cJ7_fill_d0a16 9 = .ok (.if_icmp .ge 13, 3) := by decide +kernel
theorem dJ7_fill_d0a16_12 : decode cJ7_fill_d0a16 12 = .ok (.aload_n 0, 1) := by decide +kernel
theorem dJ7_fill_d0a16_13 : decode cJ7_fill_d0a16 13 = .ok (.iload_n 3, 1) := by decide +kernel
theorem dJ7_fill_d0a16_14 : decode cJ7_fill_d0a16 14 = .ok (.lload_n 1, 1) := by decide +kernel
theorem dJ7_fill_d0a16_15 : decode cJ7_fill_d0a16 15 = .ok (.lastore, 1) := by decide +kernel
theorem dJ7_fill_d0a16_16 : decode cJ7_fill_d0a16 16 = .ok (.iinc 3 1, 3) := by decide +kernel
theorem dJ7_fill_d0a16_19 : decode cJ7_fill_d0a16 19 = .ok (.goto (-13), 3) := by decide +kernel
theorem dJ7_fill_d0a16_22 : decode cJ7_fill_d0a16 22 = .ok (.return_, 1) := by decide +kernel
def fJ7_fill_d0a16_6  (T : List c_T) (a1 : Nat) (a2 : Int64) : Nat → Int64 → Int32 → Int32 → c_G → Option (c_G)
  | 0, _, _, _, _ => none
  | n + 1, x1, x3, x4, g => if x4 ≤ x3 then (some g) else ((c_la T (a1)).bind fun n6003 => if c_in (x3) (n6003) = true then c_let (c_sl g a1 (x3).toNatClampNeg x1) fun g6005 => c_let (x3 + (1 : Int32)) fun v6006 => (fJ7_fill_d0a16_6 T a1 a2 n) x1 v6006 x4 g6005 else none)
set_option maxRecDepth 100000 in
set_option maxHeartbeats 4000000 in
theorem jJ7_fill_d0a16_6 {p : Program} {l : Launch} {e : Env} {s : State} {m : MethodId} {below : List Frame} {meth : Method} {c : Code} {D : va_G} {tc : Nat → ClassId} {ad : Nat → Nat} {A : Nat → Prop} {E : (Nat → Nat) × (Nat → Nat) × Nat} {T : List c_T} {a1 : Nat} {a2 : Int64} {g' : c_G} (C : c_C p s m meth c D tc A E RJ7 wsJ7_fill_d0a16 cJ7_fill_d0a16 5 none ([.ref (ad a1), .long a2] : List Value).toArray) (hD : c_D A ad T)  : ∀ (n : Nat) (x1 : Int64) (x3 : Int32) (x4 : Int32) (g : c_G), fJ7_fill_d0a16_6 T a1 a2 n x1 x3 x4 g = some g' → ∀ (H : Heap) (locs : List Loc), va_P D vwCl (c_ws tc ad T g) H → va_S A s.heap H locs → ∀ ls : Array Slot, lv_has ls 5 [(0, .ref (ad a1)), (1, .long x1), (3, .int x3), (4, .int x4)] → W p l e (c_rm 0) s m ([.ref (ad a1), .long a2] : List Value).toArray below meth c H locs 0 0 (MQ below (va_Qv (fun (_ : Unit) => True) (fun _ t => va_P D vwCl (c_ws tc ad T g') t.heap) A) ([.ref (ad a1), .long a2] : List Value).toArray s 0 0 A) (F0 m 6 ls []) := by
  obtain ⟨hx, hb, hr, hml, hts, hown, hlk, hK, hE⟩ := id C
  intro n
  induction n with
  | zero =>
    intro x1 x3 x4 g hf
    cases hf
  | succ n ih =>
    intro x1 x3 x4 g hf H locs hP hS ls hl
    unfold fJ7_fill_d0a16_6 at hf
    refine lv_iload_n hx hb dJ7_fill_d0a16_6 rfl (lv_at hl 2 rfl) ?_
    refine lv_iload hx hb dJ7_fill_d0a16_7 (lv_at hl 3 rfl) ?_
    refine lv_icmp_ge (tgt := 22) hx hb dJ7_fill_d0a16_9 (by decide) (fun c6001 => ?_) (fun c6001 => ?_)
    · have hf := c_it c6001 hf
      exact c_vret hx hb hr hlk hP hS (Option.some.inj hf) dJ7_fill_d0a16_22
    · have hf := c_ie c6001 hf
      refine lv_aload_n hx hb dJ7_fill_d0a16_12 rfl (lv_at hl 0 rfl) ?_
      refine lv_iload_n hx hb dJ7_fill_d0a16_13 rfl (lv_at hl 2 rfl) ?_
      refine lv_lload_n hx hb dJ7_fill_d0a16_14 rfl (lv_at hl 1 rfl) ?_
      obtain ⟨n6003, ha6002, hf⟩ := c_bd hf
      have ha6002T := c_laE ha6002
      obtain ⟨hi6004, hf⟩ := c_gd hf
      obtain ⟨g6005, eg6005, hf⟩ := c_letE hf
      refine c_last (j := (x3).toNatClampNeg) hx hb hK hP hD hS a1 ha6002T rfl (c_inV hi6004) eg6005 dJ7_fill_d0a16_15 (fun H locs hP hS => ?_)
      obtain ⟨v6006, ev6006, hf⟩ := c_letE hf
      refine lv_iinc (v := v6006) (lv' := [(3, .int v6006), (0, .ref (ad a1)), (1, .long x1), (4, .int x4)]) hx hb dJ7_fill_d0a16_16 hl (k := 2) rfl (by rw [ev6006]; rfl) (by decide) rfl (fun ls hl => ?_)
      refine lv_goto (tgt := 6) hx hb dJ7_fill_d0a16_19 (by decide) ?_
      exact ih x1 v6006 x4 g6005 hf _ _ hP hS _ (lv_sub hl [1, 2, 0, 3] rfl)
def fJ7_fill_d0a16 (T : List c_T) (g : c_G) (a1 : Nat) (a2 : Int64) : Option (c_G) :=
  (c_la T (a1)).bind fun n2 => fJ7_fill_d0a16_6 T a1 a2 c_F a2 ((0 : Int32)) ((nI n2)) g
set_option maxRecDepth 100000 in
set_option maxHeartbeats 4000000 in
theorem kJ7_fill_d0a16 {l : Launch} {D : va_G} {tc : Nat → ClassId} {ad : Nat → Nat} {A : Nat → Prop} {E : (Nat → Nat) × (Nat → Nat) × Nat} {T : List c_T} (hD : c_D A ad T) {a1 : Nat} {a2 : Int64} {g g' : c_G} (hf : fJ7_fill_d0a16 T g a1 a2 = some g') : c_Mv l yJ7_fill_d0a16 wsJ7_fill_d0a16 (c_rm 0) D tc ad A E T ([.ref (ad a1), .long a2] : List Value) g g' := by
  refine c_ofW (bytes := cJ7_fill_d0a16) (maxL := 5) (ret := none) (by decide) rfl (Nat.le_of_ble_eq_true rfl) ?_
  intro p e s m below meth c ls C hP hS hl
  unfold fJ7_fill_d0a16 at hf
  obtain ⟨hx, hb, hr, hml, hts, hown, hlk, hK, hE⟩ := id C
  have hl : lv_has ls 5 [(0, .ref (ad a1)), (1, .long a2)] := hl
  refine lv_iconst (v := (0 : Int32)) hx hb dJ7_fill_d0a16_0 (by decide) ?_
  refine lv_istore_n (lv' := [(3, .int (0 : Int32)), (0, .ref (ad a1)), (1, .long a2)]) hx hb dJ7_fill_d0a16_1 rfl hl (by decide) rfl (fun ls hl => ?_)
  refine lv_aload_n hx hb dJ7_fill_d0a16_2 rfl (lv_at hl 1 rfl) ?_
  obtain ⟨n2, ha1, hf⟩ := c_bd hf
  have ha1T := c_laE ha1
  refine c_alenL hx hb hK hP a1 ha1T dJ7_fill_d0a16_3 ?_
  refine lv_istore (lv' := [(4, .int (nI n2)), (3, .int (0 : Int32)), (0, .ref (ad a1)), (1, .long a2)]) hx hb dJ7_fill_d0a16_4 hl (by decide) rfl (fun ls hl => ?_)
  exact jJ7_fill_d0a16_6 C hD c_F a2 ((0 : Int32)) ((nI n2)) g hf _ _ hP hS _ (lv_sub hl [2, 3, 1, 0] rfl)
theorem dJ7_fill_53178_0 : decode cJ7_fill_53178 0 = .ok (.iconst 0, 1) := by decide +kernel
theorem dJ7_fill_53178_1 : decode cJ7_fill_53178 1 = .ok (.istore_n 2, 1) := by decide +kernel
theorem dJ7_fill_53178_2 : decode cJ7_fill_53178 2 = .ok (.aload_n 0, 1) := by decide +kernel
theorem dJ7_fill_53178_3 : decode cJ7_fill_53178 3 = .ok (.arraylength, 1) := by decide +kernel
theorem dJ7_fill_53178_4 : decode cJ7_fill_53178 4 = .ok (.istore_n 3, 1) := by decide +kernel
theorem dJ7_fill_53178_5 : decode cJ7_fill_53178 5 = .ok (.iload_n 2, 1) := by decide +kernel
theorem dJ7_fill_53178_6 : decode cJ7_fill_53178 6 = .ok (.iload_n 3, 1) := by decide +kernel
theorem dJ7_fill_53178_7 : decode cJ7_fill_53178 7 = .ok (.if_icmp .ge 13, 3) := by decide +kernel
theorem dJ7_fill_53178_10 : decode cJ7_fill_53178 10 = .ok (.aload_n 0, 1) := by decide +kernel
theorem dJ7_fill_53178_11 : decode cJ7_fill_53178 11 = .ok (.iload_n 2, 1) := by decide +kernel
theorem dJ7_fill_53178_12 : decode cJ7_fill_53178 12 = .ok (.iload_n 1, 1) := by decide +kernel
theorem dJ7_fill_53178_13 : decode cJ7_fill_53178 13 = .ok (.iastore, 1) := by decide +kernel
theorem dJ7_fill_53178_14 : decode cJ7_fill_53178 14 = .ok (.iinc 2 1, 3) := by decide +kernel
theorem dJ7_fill_53178_17 : decode cJ7_fill_53178 17 = .ok (.goto (-12), 3) := by decide +kernel
theorem dJ7_fill_53178_20 : decode cJ7_fill_53178 20 = .ok (.return_, 1) := by decide +kernel
def fJ7_fill_53178_5  (T : List c_T) (a1 : Nat) (a2 : Int32) : Nat → Int32 → Int32 → Int32 → c_G → Option (c_G)
  | 0, _, _, _, _ => none
  | n + 1, x1, x2, x3, g => if x3 ≤ x2 then (some g) else ((c_ia T (a1)).bind fun n5003 => if c_in (x2) (n5003) = true then c_let (c_si g a1 (x2).toNatClampNeg x1) fun g5005 => c_let (x2 + (1 : Int32)) fun v5006 => (fJ7_fill_53178_5 T a1 a2 n) x1 v5006 x3 g5005 else none)
set_option maxRecDepth 100000 in
set_option maxHeartbeats 4000000 in
theorem jJ7_fill_53178_5 {p : Program} {l : Launch} {e : Env} {s : State} {m : MethodId} {below : List Frame} {meth : Method} {c : Code} {D : va_G} {tc : Nat → ClassId} {ad : Nat → Nat} {A : Nat → Prop} {E : (Nat → Nat) × (Nat → Nat) × Nat} {T : List c_T} {a1 : Nat} {a2 : Int32} {g' : c_G} (C : c_C p s m meth c D tc A E RJ7 wsJ7_fill_53178 cJ7_fill_53178 4 none ([.ref (ad a1), .int a2] : List Value).toArray) (hD : c_D A ad T)  : ∀ (n : Nat) (x1 : Int32) (x2 : Int32) (x3 : Int32) (g : c_G), fJ7_fill_53178_5 T a1 a2 n x1 x2 x3 g = some g' → ∀ (H : Heap) (locs : List Loc), va_P D vwCl (c_ws tc ad T g) H → va_S A s.heap H locs → ∀ ls : Array Slot, lv_has ls 4 [(0, .ref (ad a1)), (1, .int x1), (2, .int x2), (3, .int x3)] → W p l e (c_rm 0) s m ([.ref (ad a1), .int a2] : List Value).toArray below meth c H locs 0 0 (MQ below (va_Qv (fun (_ : Unit) => True) (fun _ t => va_P D vwCl (c_ws tc ad T g') t.heap) A) ([.ref (ad a1), .int a2] : List Value).toArray s 0 0 A) (F0 m 5 ls []) := by
  obtain ⟨hx, hb, hr, hml, hts, hown, hlk, hK, hE⟩ := id C
  intro n
  induction n with
  | zero =>
    intro x1 x2 x3 g hf
    cases hf
  | succ n ih =>
    intro x1 x2 x3 g hf H locs hP hS ls hl
    unfold fJ7_fill_53178_5 at hf
    refine lv_iload_n hx hb dJ7_fill_53178_5 rfl (lv_at hl 2 rfl) ?_
    refine lv_iload_n hx hb dJ7_fill_53178_6 rfl (lv_at hl 3 rfl) ?_
    refine lv_icmp_ge (tgt := 20) hx hb dJ7_fill_53178_7 (by decide) (fun c5001 => ?_) (fun c5001 => ?_)
    · have hf := c_it c5001 hf
      exact c_vret hx hb hr hlk hP hS (Option.some.inj hf) dJ7_fill_53178_20
    · have hf := c_ie c5001 hf
      refine lv_aload_n hx hb dJ7_fill_53178_10 rfl (lv_at hl 0 rfl) ?_
      refine lv_iload_n hx hb dJ7_fill_53178_11 rfl (lv_at hl 2 rfl) ?_
      refine lv_iload_n hx hb dJ7_fill_53178_12 rfl (lv_at hl 1 rfl) ?_
      obtain ⟨n5003, ha5002, hf⟩ := c_bd hf
      have ha5002T := c_iaE ha5002
      obtain ⟨hi5004, hf⟩ := c_gd hf
      obtain ⟨g5005, eg5005, hf⟩ := c_letE hf
      refine c_iast (j := (x2).toNatClampNeg) hx hb hK hP hD hS a1 ha5002T rfl (c_inV hi5004) eg5005 dJ7_fill_53178_13 (fun H locs hP hS => ?_)
      obtain ⟨v5006, ev5006, hf⟩ := c_letE hf
      refine lv_iinc (v := v5006) (lv' := [(2, .int v5006), (0, .ref (ad a1)), (1, .int x1), (3, .int x3)]) hx hb dJ7_fill_53178_14 hl (k := 2) rfl (by rw [ev5006]; rfl) (by decide) rfl (fun ls hl => ?_)
      refine lv_goto (tgt := 5) hx hb dJ7_fill_53178_17 (by decide) ?_
      exact ih x1 v5006 x3 g5005 hf _ _ hP hS _ (lv_sub hl [1, 2, 0, 3] rfl)
def fJ7_fill_53178 (T : List c_T) (g : c_G) (a1 : Nat) (a2 : Int32) : Option (c_G) :=
  (c_ia T (a1)).bind fun n2 => fJ7_fill_53178_5 T a1 a2 c_F a2 ((0 : Int32)) ((nI n2)) g
set_option maxRecDepth 100000 in
set_option maxHeartbeats 4000000 in
theorem kJ7_fill_53178 {l : Launch} {D : va_G} {tc : Nat → ClassId} {ad : Nat → Nat} {A : Nat → Prop} {E : (Nat → Nat) × (Nat → Nat) × Nat} {T : List c_T} (hD : c_D A ad T) {a1 : Nat} {a2 : Int32} {g g' : c_G} (hf : fJ7_fill_53178 T g a1 a2 = some g') : c_Mv l yJ7_fill_53178 wsJ7_fill_53178 (c_rm 0) D tc ad A E T ([.ref (ad a1), .int a2] : List Value) g g' := by
  refine c_ofW (bytes := cJ7_fill_53178) (maxL := 4) (ret := none) (by decide) rfl (Nat.le_of_ble_eq_true rfl) ?_
  intro p e s m below meth c ls C hP hS hl
  unfold fJ7_fill_53178 at hf
  obtain ⟨hx, hb, hr, hml, hts, hown, hlk, hK, hE⟩ := id C
  have hl : lv_has ls 4 [(0, .ref (ad a1)), (1, .int a2)] := hl
  refine lv_iconst (v := (0 : Int32)) hx hb dJ7_fill_53178_0 (by decide) ?_
  refine lv_istore_n (lv' := [(2, .int (0 : Int32)), (0, .ref (ad a1)), (1, .int a2)]) hx hb dJ7_fill_53178_1 rfl hl (by decide) rfl (fun ls hl => ?_)
  refine lv_aload_n hx hb dJ7_fill_53178_2 rfl (lv_at hl 1 rfl) ?_
  obtain ⟨n2, ha1, hf⟩ := c_bd hf
  have ha1T := c_iaE ha1
  refine c_alen hx hb hK hP a1 ha1T dJ7_fill_53178_3 ?_
  refine lv_istore_n (lv' := [(3, .int (nI n2)), (2, .int (0 : Int32)), (0, .ref (ad a1)), (1, .int a2)]) hx hb dJ7_fill_53178_4 rfl hl (by decide) rfl (fun ls hl => ?_)
  exact jJ7_fill_53178_5 C hD c_F a2 ((0 : Int32)) ((nI n2)) g hf _ _ hP hS _ (lv_sub hl [2, 3, 1, 0] rfl)
theorem dJ6_bitCount_0f7a4_0 : decode cJ6_bitCount_0f7a4 0 = .ok (.iload_n 0, 1) := by decide +kernel
theorem dJ6_bitCount_0f7a4_1 : decode cJ6_bitCount_0f7a4 1 = .ok (.iload_n 0, 1) := by decide +kernel
theorem dJ6_bitCount_0f7a4_2 : decode cJ6_bitCount_0f7a4 2 = .ok (.iconst 1, 1) := by decide +kernel
theorem dJ6_bitCount_0f7a4_3 : decode cJ6_bitCount_0f7a4 3 = .ok (.iushr, 1) := by decide +kernel
theorem dJ6_bitCount_0f7a4_4 : decode cJ6_bitCount_0f7a4 4 = .ok (.ldc_w 265, 3) := by decide +kernel
theorem dJ6_bitCount_0f7a4_7 : decode cJ6_bitCount_0f7a4 7 = .ok (.iand, 1) := by decide +kernel
theorem dJ6_bitCount_0f7a4_8 : decode cJ6_bitCount_0f7a4 8 = .ok (.isub, 1) := by decide +kernel
theorem dJ6_bitCount_0f7a4_9 : decode cJ6_bitCount_0f7a4 9 = .ok (.istore_n 0, 1) := by decide +kernel
theorem dJ6_bitCount_0f7a4_10 : decode cJ6_bitCount_0f7a4 10 = .ok (.iload_n 0, 1) := by decide +kernel
theorem dJ6_bitCount_0f7a4_11 : decode cJ6_bitCount_0f7a4 11 = .ok (.ldc_w 266, 3) := by decide +kernel
theorem dJ6_bitCount_0f7a4_14 : decode cJ6_bitCount_0f7a4 14 = .ok (.iand, 1) := by decide +kernel
theorem dJ6_bitCount_0f7a4_15 : decode cJ6_bitCount_0f7a4 15 = .ok (.iload_n 0, 1) := by decide +kernel
theorem dJ6_bitCount_0f7a4_16 : decode cJ6_bitCount_0f7a4 16 = .ok (.iconst 2, 1) := by decide +kernel
theorem dJ6_bitCount_0f7a4_17 : decode cJ6_bitCount_0f7a4 17 = .ok (.iushr, 1) := by decide +kernel
theorem dJ6_bitCount_0f7a4_18 : decode cJ6_bitCount_0f7a4 18 = .ok (.ldc_w 266, 3) := by decide +kernel
theorem dJ6_bitCount_0f7a4_21 : decode cJ6_bitCount_0f7a4 21 = .ok (.iand, 1) := by decide +kernel
theorem dJ6_bitCount_0f7a4_22 : decode cJ6_bitCount_0f7a4 22 = .ok (.iadd, 1) := by decide +kernel
theorem dJ6_bitCount_0f7a4_23 : decode cJ6_bitCount_0f7a4 23 = .ok (.istore_n 0, 1) := by decide +kernel
theorem dJ6_bitCount_0f7a4_24 : decode cJ6_bitCount_0f7a4 24 = .ok (.iload_n 0, 1) := by decide +kernel
theorem dJ6_bitCount_0f7a4_25 : decode cJ6_bitCount_0f7a4 25 = .ok (.iload_n 0, 1) := by decide +kernel
theorem dJ6_bitCount_0f7a4_26 : decode cJ6_bitCount_0f7a4 26 = .ok (.iconst 4, 1) := by decide +kernel
theorem dJ6_bitCount_0f7a4_27 : decode cJ6_bitCount_0f7a4 27 = .ok (.iushr, 1) := by decide +kernel
theorem dJ6_bitCount_0f7a4_28 : decode cJ6_bitCount_0f7a4 28 = .ok (.iadd, 1) := by decide +kernel
theorem dJ6_bitCount_0f7a4_29 : decode cJ6_bitCount_0f7a4 29 = .ok (.ldc_w 267, 3) := by decide +kernel
theorem dJ6_bitCount_0f7a4_32 : decode cJ6_bitCount_0f7a4 32 = .ok (.iand, 1) := by decide +kernel
theorem dJ6_bitCount_0f7a4_33 : decode cJ6_bitCount_0f7a4 33 = .ok (.istore_n 0, 1) := by decide +kernel
theorem dJ6_bitCount_0f7a4_34 : decode cJ6_bitCount_0f7a4 34 = .ok (.iload_n 0, 1) := by decide +kernel
theorem dJ6_bitCount_0f7a4_35 : decode cJ6_bitCount_0f7a4 35 = .ok (.iload_n 0, 1) := by decide +kernel
theorem dJ6_bitCount_0f7a4_36 : decode cJ6_bitCount_0f7a4 36 = .ok (.bipush 8, 2) := by decide +kernel
theorem dJ6_bitCount_0f7a4_38 : decode cJ6_bitCount_0f7a4 38 = .ok (.iushr, 1) := by decide +kernel
theorem dJ6_bitCount_0f7a4_39 : decode cJ6_bitCount_0f7a4 39 = .ok (.iadd, 1) := by decide +kernel
theorem dJ6_bitCount_0f7a4_40 : decode cJ6_bitCount_0f7a4 40 = .ok (.istore_n 0, 1) := by decide +kernel
theorem dJ6_bitCount_0f7a4_41 : decode cJ6_bitCount_0f7a4 41 = .ok (.iload_n 0, 1) := by decide +kernel
theorem dJ6_bitCount_0f7a4_42 : decode cJ6_bitCount_0f7a4 42 = .ok (.iload_n 0, 1) := by decide +kernel
theorem dJ6_bitCount_0f7a4_43 : decode cJ6_bitCount_0f7a4 43 = .ok (.bipush 16, 2) := by decide +kernel
theorem dJ6_bitCount_0f7a4_45 : decode cJ6_bitCount_0f7a4 45 = .ok (.iushr, 1) := by decide +kernel
theorem dJ6_bitCount_0f7a4_46 : decode cJ6_bitCount_0f7a4 46 = .ok (.iadd, 1) := by decide +kernel
theorem dJ6_bitCount_0f7a4_47 : decode cJ6_bitCount_0f7a4 47 = .ok (.istore_n 0, 1) := by decide +kernel
theorem dJ6_bitCount_0f7a4_48 : decode cJ6_bitCount_0f7a4 48 = .ok (.iload_n 0, 1) := by decide +kernel
theorem dJ6_bitCount_0f7a4_49 : decode cJ6_bitCount_0f7a4 49 = .ok (.bipush 63, 2) := by decide +kernel
theorem dJ6_bitCount_0f7a4_51 : decode cJ6_bitCount_0f7a4 51 = .ok (.iand, 1) := by decide +kernel
theorem dJ6_bitCount_0f7a4_52 : decode cJ6_bitCount_0f7a4 52 = .ok (.ireturn, 1) := by decide +kernel
def fJ6_bitCount_0f7a4 (a1 : Int32) : Int32 :=
  c_let ((a1 - (((a1.toUInt32 >>> ((1 : Int32).toUInt32 &&& Int32.toUInt32 31)).toInt32) &&& (1431655765 : Int32)))) fun v1 => c_let (((v1 &&& (858993459 : Int32)) + (((v1.toUInt32 >>> ((2 : Int32).toUInt32 &&& Int32.toUInt32 31)).toInt32) &&& (858993459 : Int32)))) fun v2 => c_let (((v2 + ((v2.toUInt32 >>> ((4 : Int32).toUInt32 &&& Int32.toUInt32 31)).toInt32)) &&& (252645135 : Int32))) fun v3 => c_let ((v3 + ((v3.toUInt32 >>> ((8 : Int32).toUInt32 &&& Int32.toUInt32 31)).toInt32))) fun v4 => c_let ((v4 + ((v4.toUInt32 >>> ((16 : Int32).toUInt32 &&& Int32.toUInt32 31)).toInt32))) fun v5 => (v5 &&& (63 : Int32))
set_option maxRecDepth 100000 in
set_option maxHeartbeats 4000000 in
theorem kJ6_bitCount_0f7a4 {l : Launch} {D : va_G} {tc : Nat → ClassId} {ad : Nat → Nat} {A : Nat → Prop} {E : (Nat → Nat) × (Nat → Nat) × Nat} {T : List c_T} {a1 : Int32} {g : c_G} {r : Int32} (hf : fJ6_bitCount_0f7a4 a1 = r) : c_Mi l yJ6_bitCount_0f7a4 wsJ6_bitCount_0f7a4 (c_rm 0) D tc ad A E T ([.int a1] : List Value) g g r := by
  refine c_ofW (bytes := cJ6_bitCount_0f7a4) (maxL := 1) (ret := (some .int)) (by decide) rfl (Nat.le_of_ble_eq_true rfl) ?_
  intro p e s m below meth c ls C hP hS hl
  unfold fJ6_bitCount_0f7a4 at hf
  obtain ⟨hx, hb, hr, hml, hts, hown, hlk, hK, hE⟩ := id C
  have hl : lv_has ls 1 [(0, .int a1)] := hl
  refine lv_iload_n hx hb dJ6_bitCount_0f7a4_0 rfl (lv_at hl 0 rfl) ?_
  refine lv_iload_n hx hb dJ6_bitCount_0f7a4_1 rfl (lv_at hl 0 rfl) ?_
  refine lv_iconst (v := (1 : Int32)) hx hb dJ6_bitCount_0f7a4_2 (by decide) ?_
  refine lv_iushr hx hb dJ6_bitCount_0f7a4_3 rfl ?_
  refine lv_ldcw hx hb hown (v := (1431655765 : Int32)) (hts _ (List.mem_of_getElem? (i := 1) rfl)) dJ6_bitCount_0f7a4_4 ?_
  refine lv_iand hx hb dJ6_bitCount_0f7a4_7 ?_
  refine lv_isub hx hb dJ6_bitCount_0f7a4_8 ?_
  obtain ⟨v1, ev1, hf⟩ := c_letE hf
  refine c_topi ev1 ?_
  refine lv_istore_n (lv' := [(0, .int v1)]) hx hb dJ6_bitCount_0f7a4_9 rfl hl (by decide) rfl (fun ls hl => ?_)
  refine lv_iload_n hx hb dJ6_bitCount_0f7a4_10 rfl (lv_at hl 0 rfl) ?_
  refine lv_ldcw hx hb hown (v := (858993459 : Int32)) (hts _ (List.mem_of_getElem? (i := 2) rfl)) dJ6_bitCount_0f7a4_11 ?_
  refine lv_iand hx hb dJ6_bitCount_0f7a4_14 ?_
  refine lv_iload_n hx hb dJ6_bitCount_0f7a4_15 rfl (lv_at hl 0 rfl) ?_
  refine lv_iconst (v := (2 : Int32)) hx hb dJ6_bitCount_0f7a4_16 (by decide) ?_
  refine lv_iushr hx hb dJ6_bitCount_0f7a4_17 rfl ?_
  refine lv_ldcw hx hb hown (v := (858993459 : Int32)) (hts _ (List.mem_of_getElem? (i := 2) rfl)) dJ6_bitCount_0f7a4_18 ?_
  refine lv_iand hx hb dJ6_bitCount_0f7a4_21 ?_
  refine lv_iadd hx hb dJ6_bitCount_0f7a4_22 ?_
  obtain ⟨v2, ev2, hf⟩ := c_letE hf
  refine c_topi ev2 ?_
  refine lv_istore_n (lv' := [(0, .int v2)]) hx hb dJ6_bitCount_0f7a4_23 rfl hl (by decide) rfl (fun ls hl => ?_)
  refine lv_iload_n hx hb dJ6_bitCount_0f7a4_24 rfl (lv_at hl 0 rfl) ?_
  refine lv_iload_n hx hb dJ6_bitCount_0f7a4_25 rfl (lv_at hl 0 rfl) ?_
  refine lv_iconst (v := (4 : Int32)) hx hb dJ6_bitCount_0f7a4_26 (by decide) ?_
  refine lv_iushr hx hb dJ6_bitCount_0f7a4_27 rfl ?_
  refine lv_iadd hx hb dJ6_bitCount_0f7a4_28 ?_
  refine lv_ldcw hx hb hown (v := (252645135 : Int32)) (hts _ (List.mem_of_getElem? (i := 3) rfl)) dJ6_bitCount_0f7a4_29 ?_
  refine lv_iand hx hb dJ6_bitCount_0f7a4_32 ?_
  obtain ⟨v3, ev3, hf⟩ := c_letE hf
  refine c_topi ev3 ?_
  refine lv_istore_n (lv' := [(0, .int v3)]) hx hb dJ6_bitCount_0f7a4_33 rfl hl (by decide) rfl (fun ls hl => ?_)
  refine lv_iload_n hx hb dJ6_bitCount_0f7a4_34 rfl (lv_at hl 0 rfl) ?_
  refine lv_iload_n hx hb dJ6_bitCount_0f7a4_35 rfl (lv_at hl 0 rfl) ?_
  refine lv_bipush (v := (8 : Int32)) hx hb dJ6_bitCount_0f7a4_36 (by decide) ?_
  refine lv_iushr hx hb dJ6_bitCount_0f7a4_38 rfl ?_
  refine lv_iadd hx hb dJ6_bitCount_0f7a4_39 ?_
  obtain ⟨v4, ev4, hf⟩ := c_letE hf
  refine c_topi ev4 ?_
  refine lv_istore_n (lv' := [(0, .int v4)]) hx hb dJ6_bitCount_0f7a4_40 rfl hl (by decide) rfl (fun ls hl => ?_)
  refine lv_iload_n hx hb dJ6_bitCount_0f7a4_41 rfl (lv_at hl 0 rfl) ?_
  refine lv_iload_n hx hb dJ6_bitCount_0f7a4_42 rfl (lv_at hl 0 rfl) ?_
  refine lv_bipush (v := (16 : Int32)) hx hb dJ6_bitCount_0f7a4_43 (by decide) ?_
  refine lv_iushr hx hb dJ6_bitCount_0f7a4_45 rfl ?_
  refine lv_iadd hx hb dJ6_bitCount_0f7a4_46 ?_
  obtain ⟨v5, ev5, hf⟩ := c_letE hf
  refine c_topi ev5 ?_
  refine lv_istore_n (lv' := [(0, .int v5)]) hx hb dJ6_bitCount_0f7a4_47 rfl hl (by decide) rfl (fun ls hl => ?_)
  refine lv_iload_n hx hb dJ6_bitCount_0f7a4_48 rfl (lv_at hl 0 rfl) ?_
  refine lv_bipush (v := (63 : Int32)) hx hb dJ6_bitCount_0f7a4_49 (by decide) ?_
  refine lv_iand hx hb dJ6_bitCount_0f7a4_51 ?_
  exact c_iret hx hb hr hlk hP hS rfl ⟨rfl, hf⟩ dJ6_bitCount_0f7a4_52
theorem i_X0_begin_X0 : ∀ w ∈ u_ws RX0 TX0 4, w ∈ wsX0_begin := c_inP [3, 4, 5, 6] (by decide +kernel)
theorem dX0_begin_0 : decode cX0_begin 0 = .ok (.aload_n 0, 1) := by decide +kernel
theorem dX0_begin_1 : decode cX0_begin 1 = .ok (.getfield 13, 3) := by decide +kernel
theorem dX0_begin_4 : decode cX0_begin 4 = .ok (.aload_n 0, 1) := by decide +kernel
theorem dX0_begin_5 : decode cX0_begin 5 = .ok (.getfield 7, 3) := by decide +kernel
theorem dX0_begin_8 : decode cX0_begin 8 = .ok (.arraylength, 1) := by decide +kernel
theorem dX0_begin_9 : decode cX0_begin 9 = .ok (.if_icmp .ge 13, 3) := by decide +kernel
theorem dX0_begin_12 : decode cX0_begin 12 = .ok (.aload_n 0, 1) := by decide +kernel
theorem dX0_begin_13 : decode cX0_begin 13 = .ok (.getfield 7, 3) := by decide +kernel
theorem dX0_begin_16 : decode cX0_begin 16 = .ok (.aload_n 0, 1) := by decide +kernel
theorem dX0_begin_17 : decode cX0_begin 17 = .ok (.getfield 13, 3) := by decide +kernel
theorem dX0_begin_20 : decode cX0_begin 20 = .ok (.iload_n 1, 1) := by decide +kernel
theorem dX0_begin_21 : decode cX0_begin 21 = .ok (.iastore, 1) := by decide +kernel
theorem dX0_begin_22 : decode cX0_begin 22 = .ok (.aload_n 0, 1) := by decide +kernel
theorem dX0_begin_23 : decode cX0_begin 23 = .ok (.dup, 1) := by decide +kernel
theorem dX0_begin_24 : decode cX0_begin 24 = .ok (.getfield 13, 3) := by decide +kernel
theorem dX0_begin_27 : decode cX0_begin 27 = .ok (.iconst 1, 1) := by decide +kernel
theorem dX0_begin_28 : decode cX0_begin 28 = .ok (.iadd, 1) := by decide +kernel
theorem dX0_begin_29 : decode cX0_begin 29 = .ok (.putfield 13, 3) := by decide +kernel
theorem dX0_begin_32 : decode cX0_begin 32 = .ok (.return_, 1) := by decide +kernel
def fX0_begin_22  (a1 : Int32)  (g : c_G) : Option (c_G) :=
  c_let (((g.1 8 2) + (1 : Int32))) fun v22001 => c_let (c_si g 8 2 v22001) fun g22002 => some g22002
set_option maxRecDepth 100000 in
set_option maxHeartbeats 4000000 in
theorem jX0_begin_22 {p : Program} {l : Launch} {e : Env} {s : State} {m : MethodId} {below : List Frame} {meth : Method} {c : Code} {D : va_G} {tc : Nat → ClassId} {ad : Nat → Nat} {A : Nat → Prop} {E : (Nat → Nat) × (Nat → Nat) × Nat} {a1 : Int32} {g' : c_G} (C : c_C p s m meth c D tc A E RX0 wsX0_begin cX0_begin 2 none ([.ref (ad 8), .int a1] : List Value).toArray) (hD : c_D A ad TC)  : ∀  (g : c_G), fX0_begin_22 a1 g = some g' → ∀ (H : Heap) (locs : List Loc), va_P D vwCl (c_ws tc ad TC g) H → va_S A s.heap H locs → ∀ ls : Array Slot, lv_has ls 2 [(0, .ref (ad 8))] → W p l e (c_rm 0) s m ([.ref (ad 8), .int a1] : List Value).toArray below meth c H locs 0 0 (MQ below (va_Qv (fun (_ : Unit) => True) (fun _ t => va_P D vwCl (c_ws tc ad TC g') t.heap) A) ([.ref (ad 8), .int a1] : List Value).toArray s 0 0 A) (F0 m 22 ls []) := by
  obtain ⟨hx, hb, hr, hml, hts, hown, hlk, hK, hE⟩ := id C
  intro  g hf H locs hP hS ls hl
  unfold fX0_begin_22 at hf
  refine lv_aload_n hx hb dX0_begin_22 rfl (lv_at hl 0 rfl) ?_
  refine lv_dup hx hb dX0_begin_23 rfl ?_
  refine c_get hx hb hts i_X0_begin_X0 hown hK hP 8 tC8 rfl 2 (by decide) (hts _ (List.mem_of_getElem? (i := 1) rfl)) (fun _ h9 => h9) rfl (v := .int (g.1 8 2)) rfl dX0_begin_24 ?_
  refine lv_iconst (v := (1 : Int32)) hx hb dX0_begin_27 (by decide) ?_
  refine lv_iadd hx hb dX0_begin_28 ?_
  obtain ⟨v22001, ev22001, hf⟩ := c_letE hf
  refine c_topi ev22001 ?_
  obtain ⟨g22002, eg22002, hf⟩ := c_letE hf
  refine c_put hx hb hts i_X0_begin_X0 tyX0 tyX0_ok nmX0 hown hK hP hD hS 8 tC8 rfl 2 (by decide) (hts _ (List.mem_of_getElem? (i := 1) rfl)) (fun _ h9 => h9) rfl (ty := .int) (by decide +kernel) rfl rfl rfl eg22002 dX0_begin_29 (fun H locs hP hS => ?_)
  exact c_vret hx hb hr hlk hP hS (Option.some.inj hf) dX0_begin_32
def fX0_begin (g : c_G) (a1 : Int32) : Option (c_G) :=
  if (20 : Int32) ≤ (g.1 8 2) then (fX0_begin_22 a1 g) else (if c_in ((g.1 8 2)) (20) = true then c_let (c_si g 9 ((g.1 8 2)).toNatClampNeg a1) fun g3 => fX0_begin_22 a1 g3 else none)
set_option maxRecDepth 100000 in
set_option maxHeartbeats 4000000 in
theorem kX0_begin {l : Launch} {D : va_G} {tc : Nat → ClassId} {ad : Nat → Nat} {A : Nat → Prop} {E : (Nat → Nat) × (Nat → Nat) × Nat} (hD : c_D A ad TC) {a1 : Int32} {g g' : c_G} (hf : fX0_begin g a1 = some g') : c_Mv l yX0_begin wsX0_begin (c_rm 0) D tc ad A E TC ([.ref (ad 8), .int a1] : List Value) g g' := by
  refine c_ofW (bytes := cX0_begin) (maxL := 2) (ret := none) (by decide) rfl (Nat.le_of_ble_eq_true rfl) ?_
  intro p e s m below meth c ls C hP hS hl
  unfold fX0_begin at hf
  obtain ⟨hx, hb, hr, hml, hts, hown, hlk, hK, hE⟩ := id C
  have hl : lv_has ls 2 [(0, .ref (ad 8)), (1, .int a1)] := hl
  refine lv_aload_n hx hb dX0_begin_0 rfl (lv_at hl 0 rfl) ?_
  refine c_get hx hb hts i_X0_begin_X0 hown hK hP 8 tC8 rfl 2 (by decide) (hts _ (List.mem_of_getElem? (i := 1) rfl)) (fun _ h9 => h9) rfl (v := .int (g.1 8 2)) rfl dX0_begin_1 ?_
  refine lv_aload_n hx hb dX0_begin_4 rfl (lv_at hl 0 rfl) ?_
  refine c_get hx hb hts i_X0_begin_X0 hown hK hP 8 tC8 rfl 3 (by decide) (hts _ (List.mem_of_getElem? (i := 2) rfl)) (fun _ h9 => h9) rfl (v := .ref (ad 9)) rfl dX0_begin_5 ?_
  refine c_alen hx hb hK hP 9 tC9 dX0_begin_8 ?_
  refine c_topi (y := (20 : Int32)) (by decide) ?_
  refine lv_icmp_ge (tgt := 22) hx hb dX0_begin_9 (by decide) (fun c1 => ?_) (fun c1 => ?_)
  · have hf := c_it c1 hf
    exact jX0_begin_22 C hD g hf _ _ hP hS _ (lv_sub hl [0] rfl)
  · have hf := c_ie c1 hf
    refine lv_aload_n hx hb dX0_begin_12 rfl (lv_at hl 0 rfl) ?_
    refine c_get hx hb hts i_X0_begin_X0 hown hK hP 8 tC8 rfl 3 (by decide) (hts _ (List.mem_of_getElem? (i := 2) rfl)) (fun _ h9 => h9) rfl (v := .ref (ad 9)) rfl dX0_begin_13 ?_
    refine lv_aload_n hx hb dX0_begin_16 rfl (lv_at hl 0 rfl) ?_
    refine c_get hx hb hts i_X0_begin_X0 hown hK hP 8 tC8 rfl 2 (by decide) (hts _ (List.mem_of_getElem? (i := 1) rfl)) (fun _ h9 => h9) rfl (v := .int (g.1 8 2)) rfl dX0_begin_17 ?_
    refine lv_iload_n hx hb dX0_begin_20 rfl (lv_at hl 1 rfl) ?_
    obtain ⟨hi2, hf⟩ := c_gd hf
    obtain ⟨g3, eg3, hf⟩ := c_letE hf
    refine c_iast (j := ((g.1 8 2)).toNatClampNeg) hx hb hK hP hD hS 9 tC9 rfl (c_inV hi2) eg3 dX0_begin_21 (fun H locs hP hS => ?_)
    exact jX0_begin_22 C hD g3 hf _ _ hP hS _ (lv_sub hl [0] rfl)
theorem dX1_fit_0 : decode cX1_fit 0 = .ok (.aload_n 2, 1) := by decide +kernel
theorem dX1_fit_1 : decode cX1_fit 1 = .ok (.iconst 3, 1) := by decide +kernel
theorem dX1_fit_2 : decode cX1_fit 2 = .ok (.iaload, 1) := by decide +kernel
theorem dX1_fit_3 : decode cX1_fit 3 = .ok (.bipush 6, 2) := by decide +kernel
theorem dX1_fit_5 : decode cX1_fit 5 = .ok (.if_icmp .ge 11, 3) := by decide +kernel
theorem dX1_fit_8 : decode cX1_fit 8 = .ok (.iload_n 1, 1) := by decide +kernel
theorem dX1_fit_9 : decode cX1_fit 9 = .ok (.aload_n 2, 1) := by decide +kernel
theorem dX1_fit_10 : decode cX1_fit 10 = .ok (.iconst 2, 1) := by decide +kernel
theorem dX1_fit_11 : decode cX1_fit 11 = .ok (.iaload, 1) := by decide +kernel
theorem dX1_fit_12 : decode cX1_fit 12 = .ok (.iadd, 1) := by decide +kernel
theorem dX1_fit_13 : decode cX1_fit 13 = .ok (.goto 4, 3) := by decide +kernel
theorem dX1_fit_16 : decode cX1_fit 16 = .ok (.iload_n 1, 1) := by decide +kernel
theorem dX1_fit_17 : decode cX1_fit 17 = .ok (.ireturn, 1) := by decide +kernel
def fX1_fit (g : c_G) (u0 : Nat) (a1 : Int32) : Option (Int32) :=
  if (6 : Int32) ≤ (g.1 3 3) then (some a1) else (some (a1 + (g.1 3 2)))
set_option maxRecDepth 100000 in
set_option maxHeartbeats 4000000 in
theorem kX1_fit {l : Launch} {D : va_G} {tc : Nat → ClassId} {ad : Nat → Nat} {A : Nat → Prop} {E : (Nat → Nat) × (Nat → Nat) × Nat} (hD : c_D A ad TC) {u0 : Nat} {a1 : Int32} {g : c_G} {r : Int32} (hf : fX1_fit g u0 a1 = some r) : c_Mi l yX1_fit wsX1_fit (c_rm 0) D tc ad A E TC ([.ref (ad u0), .int a1, .ref (ad 3)] : List Value) g g r := by
  refine c_ofW (bytes := cX1_fit) (maxL := 3) (ret := (some .int)) (by decide) rfl (Nat.le_of_ble_eq_true rfl) ?_
  intro p e s m below meth c ls C hP hS hl
  unfold fX1_fit at hf
  obtain ⟨hx, hb, hr, hml, hts, hown, hlk, hK, hE⟩ := id C
  have hl : lv_has ls 3 [(0, .ref (ad u0)), (1, .int a1), (2, .ref (ad 3))] := hl
  refine lv_aload_n hx hb dX1_fit_0 rfl (lv_at hl 2 rfl) ?_
  refine lv_iconst (v := (3 : Int32)) hx hb dX1_fit_1 (by decide) ?_
  refine c_iald (j := 3) hx hb hK hP 3 tC3 (by decide) (c_inV (by decide)) dX1_fit_2 ?_
  refine lv_bipush (v := (6 : Int32)) hx hb dX1_fit_3 (by decide) ?_
  refine lv_icmp_ge (tgt := 16) hx hb dX1_fit_5 (by decide) (fun c1 => ?_) (fun c1 => ?_)
  · have hf := c_it c1 hf
    refine lv_iload_n hx hb dX1_fit_16 rfl (lv_at hl 1 rfl) ?_
    exact c_iret hx hb hr hlk hP hS rfl ⟨rfl, Option.some.inj hf⟩ dX1_fit_17
  · have hf := c_ie c1 hf
    refine lv_iload_n hx hb dX1_fit_8 rfl (lv_at hl 1 rfl) ?_
    refine lv_aload_n hx hb dX1_fit_9 rfl (lv_at hl 2 rfl) ?_
    refine lv_iconst (v := (2 : Int32)) hx hb dX1_fit_10 (by decide) ?_
    refine c_iald (j := 2) hx hb hK hP 3 tC3 (by decide) (c_inV (by decide)) dX1_fit_11 ?_
    refine lv_iadd hx hb dX1_fit_12 ?_
    refine lv_goto (tgt := 17) hx hb dX1_fit_13 (by decide) ?_
    exact c_iret hx hb hr hlk hP hS rfl ⟨rfl, Option.some.inj hf⟩ dX1_fit_17
theorem dX2_fit_0 : decode cX2_fit 0 = .ok (.iload_n 1, 1) := by decide +kernel
theorem dX2_fit_1 : decode cX2_fit 1 = .ok (.ireturn, 1) := by decide +kernel
def fX2_fit (u0 : Nat) (a1 : Int32) : Int32 :=
  a1
set_option maxRecDepth 100000 in
set_option maxHeartbeats 4000000 in
theorem kX2_fit {l : Launch} {D : va_G} {tc : Nat → ClassId} {ad : Nat → Nat} {A : Nat → Prop} {E : (Nat → Nat) × (Nat → Nat) × Nat} {T : List c_T} {u0 : Nat} {a1 : Int32} {g : c_G} {r : Int32} (hf : fX2_fit u0 a1 = r) : c_Mi l yX2_fit wsX2_fit (c_rm 0) D tc ad A E T ([.ref (ad u0), .int a1, .ref (ad 3)] : List Value) g g r := by
  refine c_ofW (bytes := cX2_fit) (maxL := 3) (ret := (some .int)) (by decide) rfl (Nat.le_of_ble_eq_true rfl) ?_
  intro p e s m below meth c ls C hP hS hl
  unfold fX2_fit at hf
  obtain ⟨hx, hb, hr, hml, hts, hown, hlk, hK, hE⟩ := id C
  have hl : lv_has ls 3 [(0, .ref (ad u0)), (1, .int a1), (2, .ref (ad 3))] := hl
  refine lv_iload_n hx hb dX2_fit_0 rfl (lv_at hl 1 rfl) ?_
  exact c_iret hx hb hr hlk hP hS rfl ⟨rfl, hf⟩ dX2_fit_1
theorem dX3_fit_0 : decode cX3_fit 0 = .ok (.aload_n 2, 1) := by decide +kernel
theorem dX3_fit_1 : decode cX3_fit 1 = .ok (.bipush 6, 2) := by decide +kernel
theorem dX3_fit_3 : decode cX3_fit 3 = .ok (.iaload, 1) := by decide +kernel
theorem dX3_fit_4 : decode cX3_fit 4 = .ok (.aload_n 2, 1) := by decide +kernel
theorem dX3_fit_5 : decode cX3_fit 5 = .ok (.iconst 2, 1) := by decide +kernel
theorem dX3_fit_6 : decode cX3_fit 6 = .ok (.iaload, 1) := by decide +kernel
theorem dX3_fit_7 : decode cX3_fit 7 = .ok (.if_icmp .ge 7, 3) := by decide +kernel
theorem dX3_fit_10 : decode cX3_fit 10 = .ok (.iconst 0, 1) := by decide +kernel
theorem dX3_fit_11 : decode cX3_fit 11 = .ok (.goto 9, 3) := by decide +kernel
theorem dX3_fit_14 : decode cX3_fit 14 = .ok (.aload_n 0, 1) := by decide +kernel
theorem dX3_fit_15 : decode cX3_fit 15 = .ok (.iload_n 1, 1) := by decide +kernel
theorem dX3_fit_16 : decode cX3_fit 16 = .ok (.aload_n 2, 1) := by decide +kernel
theorem dX3_fit_17 : decode cX3_fit 17 = .ok (.invokespecial 9, 3) := by decide +kernel
theorem dX3_fit_20 : decode cX3_fit 20 = .ok (.ireturn, 1) := by decide +kernel
set_option maxRecDepth 20000 in
theorem ggX3_fit_X1_fit : GoodIn wsX3_fit wsX1_fit := goodIn_r _ [6] (by decide +kernel) (by decide +kernel)
set_option maxRecDepth 20000 in
theorem gX3_fit_X1_fit_s9 : GoodIn wsX3_fit (va_wsSU RX3 9 yX1_fit wsX1_fit) := goodIn_app (goodIn_of _ (by decide +kernel)) ggX3_fit_X1_fit
def fX3_fit (g : c_G) (a1 : Int32) : Option (Int32) :=
  if (g.1 3 2) ≤ (g.1 3 6) then ((fX1_fit g 24 a1).bind fun r2 => some r2) else (some (0 : Int32))
set_option maxRecDepth 100000 in
set_option maxHeartbeats 4000000 in
theorem kX3_fit {l : Launch} {D : va_G} {tc : Nat → ClassId} {ad : Nat → Nat} {A : Nat → Prop} {E : (Nat → Nat) × (Nat → Nat) × Nat} (hD : c_D A ad TC) {a1 : Int32} {g : c_G} {r : Int32} (hf : fX3_fit g a1 = some r) : c_Mi l yX3_fit wsX3_fit (c_rm 1) D tc ad A E TC ([.ref (ad 24), .int a1, .ref (ad 3)] : List Value) g g r := by
  refine c_ofW (bytes := cX3_fit) (maxL := 3) (ret := (some .int)) (by decide) rfl (Nat.le_of_ble_eq_true rfl) ?_
  intro p e s m below meth c ls C hP hS hl
  unfold fX3_fit at hf
  obtain ⟨hx, hb, hr, hml, hts, hown, hlk, hK, hE⟩ := id C
  have hl : lv_has ls 3 [(0, .ref (ad 24)), (1, .int a1), (2, .ref (ad 3))] := hl
  refine lv_aload_n hx hb dX3_fit_0 rfl (lv_at hl 2 rfl) ?_
  refine lv_bipush (v := (6 : Int32)) hx hb dX3_fit_1 (by decide) ?_
  refine c_iald (j := 6) hx hb hK hP 3 tC3 (by decide) (c_inV (by decide)) dX3_fit_3 ?_
  refine lv_aload_n hx hb dX3_fit_4 rfl (lv_at hl 2 rfl) ?_
  refine lv_iconst (v := (2 : Int32)) hx hb dX3_fit_5 (by decide) ?_
  refine c_iald (j := 2) hx hb hK hP 3 tC3 (by decide) (c_inV (by decide)) dX3_fit_6 ?_
  refine lv_icmp_ge (tgt := 14) hx hb dX3_fit_7 (by decide) (fun c1 => ?_) (fun c1 => ?_)
  · have hf := c_it c1 hf
    refine lv_aload_n hx hb dX3_fit_14 rfl (lv_at hl 0 rfl) ?_
    refine lv_iload_n hx hb dX3_fit_15 rfl (lv_at hl 1 rfl) ?_
    refine lv_aload_n hx hb dX3_fit_16 rfl (lv_at hl 2 rfl) ?_
    obtain ⟨r2, hc3, hf⟩ := c_bd hf
    refine c_goi (va_runSU (hK.1 3 _ rfl).2 (As := [.int a1, .ref (ad 3)]) (rest := []) ⟨hx, hb, hml, hown, hts⟩ (kX1_fit hD hc3) (va_cwSU 2 hts gX3_fit_X1_fit_s9 rfl rfl rfl (by decide +kernel) ⟨Nat.le_of_ble_eq_true rfl, Nat.le_of_ble_eq_true rfl⟩) (c_preV hK hP hE hS tC24 rfl) rfl rfl hl.1 rfl (lv_room (Nat.le_of_ble_eq_true rfl)) dX3_fit_17 ⟨Nat.zero_le _, Nat.zero_le _⟩) hS (fun H locs hP hS => ?_)
    exact c_iret hx hb hr hlk hP hS rfl ⟨rfl, Option.some.inj hf⟩ dX3_fit_20
  · have hf := c_ie c1 hf
    refine lv_iconst (v := (0 : Int32)) hx hb dX3_fit_10 (by decide) ?_
    refine lv_goto (tgt := 20) hx hb dX3_fit_11 (by decide) ?_
    exact c_iret hx hb hr hlk hP hS rfl ⟨rfl, Option.some.inj hf⟩ dX3_fit_20
theorem dX9_fit_0 : decode cX9_fit 0 = .ok (.iload_n 1, 1) := by decide +kernel
theorem dX9_fit_1 : decode cX9_fit 1 = .ok (.iconst 2, 1) := by decide +kernel
theorem dX9_fit_2 : decode cX9_fit 2 = .ok (.idiv, 1) := by decide +kernel
theorem dX9_fit_3 : decode cX9_fit 3 = .ok (.ireturn, 1) := by decide +kernel
def fX9_fit (g : c_G) (u0 : Nat) (a1 : Int32) : Option (Int32) :=
  some (a1 / (2 : Int32))
set_option maxRecDepth 100000 in
set_option maxHeartbeats 4000000 in
theorem kX9_fit {l : Launch} {D : va_G} {tc : Nat → ClassId} {ad : Nat → Nat} {A : Nat → Prop} {E : (Nat → Nat) × (Nat → Nat) × Nat} (hD : c_D A ad TC) {u0 : Nat} {a1 : Int32} {g : c_G} {r : Int32} (hf : fX9_fit g u0 a1 = some r) : c_Mi l yX9_fit wsX9_fit (c_rm 0) D tc ad A E TC ([.ref (ad u0), .int a1, .ref (ad 3)] : List Value) g g r := by
  refine c_ofW (bytes := cX9_fit) (maxL := 3) (ret := (some .int)) (by decide) rfl (Nat.le_of_ble_eq_true rfl) ?_
  intro p e s m below meth c ls C hP hS hl
  unfold fX9_fit at hf
  obtain ⟨hx, hb, hr, hml, hts, hown, hlk, hK, hE⟩ := id C
  have hl : lv_has ls 3 [(0, .ref (ad u0)), (1, .int a1), (2, .ref (ad 3))] := hl
  refine lv_iload_n hx hb dX9_fit_0 rfl (lv_at hl 1 rfl) ?_
  refine lv_iconst (v := (2 : Int32)) hx hb dX9_fit_1 (by decide) ?_
  refine lv_idiv hx hb dX9_fit_2 (by decide) ?_
  exact c_iret hx hb hr hlk hP hS rfl ⟨rfl, Option.some.inj hf⟩ dX9_fit_3
theorem dX4_fit_0 : decode cX4_fit 0 = .ok (.aload_n 0, 1) := by decide +kernel
theorem dX4_fit_1 : decode cX4_fit 1 = .ok (.iload_n 1, 1) := by decide +kernel
theorem dX4_fit_2 : decode cX4_fit 2 = .ok (.aload_n 2, 1) := by decide +kernel
theorem dX4_fit_3 : decode cX4_fit 3 = .ok (.invokespecial 7, 3) := by decide +kernel
theorem dX4_fit_6 : decode cX4_fit 6 = .ok (.ineg, 1) := by decide +kernel
theorem dX4_fit_7 : decode cX4_fit 7 = .ok (.ireturn, 1) := by decide +kernel
set_option maxRecDepth 20000 in
theorem ggX4_fit_X9_fit : GoodIn wsX4_fit wsX9_fit := goodIn_r _ [6] (by decide +kernel) (by decide +kernel)
set_option maxRecDepth 20000 in
theorem gX4_fit_X9_fit_s7 : GoodIn wsX4_fit (va_wsSU RX4 7 yX9_fit wsX9_fit) := goodIn_app (goodIn_of _ (by decide +kernel)) ggX4_fit_X9_fit
def fX4_fit (g : c_G) (a1 : Int32) : Option (Int32) :=
  (fX9_fit g 25 a1).bind fun r1 => some (-r1)
set_option maxRecDepth 100000 in
set_option maxHeartbeats 4000000 in
theorem kX4_fit {l : Launch} {D : va_G} {tc : Nat → ClassId} {ad : Nat → Nat} {A : Nat → Prop} {E : (Nat → Nat) × (Nat → Nat) × Nat} (hD : c_D A ad TC) {a1 : Int32} {g : c_G} {r : Int32} (hf : fX4_fit g a1 = some r) : c_Mi l yX4_fit wsX4_fit (c_rm 1) D tc ad A E TC ([.ref (ad 25), .int a1, .ref (ad 3)] : List Value) g g r := by
  refine c_ofW (bytes := cX4_fit) (maxL := 3) (ret := (some .int)) (by decide) rfl (Nat.le_of_ble_eq_true rfl) ?_
  intro p e s m below meth c ls C hP hS hl
  unfold fX4_fit at hf
  obtain ⟨hx, hb, hr, hml, hts, hown, hlk, hK, hE⟩ := id C
  have hl : lv_has ls 3 [(0, .ref (ad 25)), (1, .int a1), (2, .ref (ad 3))] := hl
  refine lv_aload_n hx hb dX4_fit_0 rfl (lv_at hl 0 rfl) ?_
  refine lv_iload_n hx hb dX4_fit_1 rfl (lv_at hl 1 rfl) ?_
  refine lv_aload_n hx hb dX4_fit_2 rfl (lv_at hl 2 rfl) ?_
  obtain ⟨r1, hc2, hf⟩ := c_bd hf
  refine c_goi (va_runSU (hK.1 4 _ rfl).2 (As := [.int a1, .ref (ad 3)]) (rest := []) ⟨hx, hb, hml, hown, hts⟩ (kX9_fit hD hc2) (va_cwSU 2 hts gX4_fit_X9_fit_s7 rfl rfl rfl (by decide +kernel) ⟨Nat.le_of_ble_eq_true rfl, Nat.le_of_ble_eq_true rfl⟩) (c_preV hK hP hE hS tC25 rfl) rfl rfl hl.1 rfl (lv_room (Nat.le_of_ble_eq_true rfl)) dX4_fit_3 ⟨Nat.zero_le _, Nat.zero_le _⟩) hS (fun H locs hP hS => ?_)
  refine lv_ineg hx hb dX4_fit_6 ?_
  exact c_iret hx hb hr hlk hP hS rfl ⟨rfl, Option.some.inj hf⟩ dX4_fit_7
theorem dX6_fit_0 : decode cX6_fit 0 = .ok (.iload_n 1, 1) := by decide +kernel
theorem dX6_fit_1 : decode cX6_fit 1 = .ok (.iconst 2, 1) := by decide +kernel
theorem dX6_fit_2 : decode cX6_fit 2 = .ok (.aload_n 2, 1) := by decide +kernel
theorem dX6_fit_3 : decode cX6_fit 3 = .ok (.iconst 4, 1) := by decide +kernel
theorem dX6_fit_4 : decode cX6_fit 4 = .ok (.iaload, 1) := by decide +kernel
theorem dX6_fit_5 : decode cX6_fit 5 = .ok (.imul, 1) := by decide +kernel
theorem dX6_fit_6 : decode cX6_fit 6 = .ok (.isub, 1) := by decide +kernel
theorem dX6_fit_7 : decode cX6_fit 7 = .ok (.ireturn, 1) := by decide +kernel
def fX6_fit (g : c_G) (u0 : Nat) (a1 : Int32) : Option (Int32) :=
  some (a1 - ((2 : Int32) * (g.1 3 4)))
set_option maxRecDepth 100000 in
set_option maxHeartbeats 4000000 in
theorem kX6_fit {l : Launch} {D : va_G} {tc : Nat → ClassId} {ad : Nat → Nat} {A : Nat → Prop} {E : (Nat → Nat) × (Nat → Nat) × Nat} (hD : c_D A ad TC) {u0 : Nat} {a1 : Int32} {g : c_G} {r : Int32} (hf : fX6_fit g u0 a1 = some r) : c_Mi l yX6_fit wsX6_fit (c_rm 0) D tc ad A E TC ([.ref (ad u0), .int a1, .ref (ad 3)] : List Value) g g r := by
  refine c_ofW (bytes := cX6_fit) (maxL := 3) (ret := (some .int)) (by decide) rfl (Nat.le_of_ble_eq_true rfl) ?_
  intro p e s m below meth c ls C hP hS hl
  unfold fX6_fit at hf
  obtain ⟨hx, hb, hr, hml, hts, hown, hlk, hK, hE⟩ := id C
  have hl : lv_has ls 3 [(0, .ref (ad u0)), (1, .int a1), (2, .ref (ad 3))] := hl
  refine lv_iload_n hx hb dX6_fit_0 rfl (lv_at hl 1 rfl) ?_
  refine lv_iconst (v := (2 : Int32)) hx hb dX6_fit_1 (by decide) ?_
  refine lv_aload_n hx hb dX6_fit_2 rfl (lv_at hl 2 rfl) ?_
  refine lv_iconst (v := (4 : Int32)) hx hb dX6_fit_3 (by decide) ?_
  refine c_iald (j := 4) hx hb hK hP 3 tC3 (by decide) (c_inV (by decide)) dX6_fit_4 ?_
  refine lv_imul hx hb dX6_fit_5 ?_
  refine lv_isub hx hb dX6_fit_6 ?_
  exact c_iret hx hb hr hlk hP hS rfl ⟨rfl, Option.some.inj hf⟩ dX6_fit_7
theorem dX8_fit_0 : decode cX8_fit 0 = .ok (.aload_n 0, 1) := by decide +kernel
theorem dX8_fit_1 : decode cX8_fit 1 = .ok (.iload_n 1, 1) := by decide +kernel
theorem dX8_fit_2 : decode cX8_fit 2 = .ok (.aload_n 2, 1) := by decide +kernel
theorem dX8_fit_3 : decode cX8_fit 3 = .ok (.invokespecial 9, 3) := by decide +kernel
theorem dX8_fit_6 : decode cX8_fit 6 = .ok (.aload_n 2, 1) := by decide +kernel
theorem dX8_fit_7 : decode cX8_fit 7 = .ok (.bipush 7, 2) := by decide +kernel
theorem dX8_fit_9 : decode cX8_fit 9 = .ok (.iaload, 1) := by decide +kernel
theorem dX8_fit_10 : decode cX8_fit 10 = .ok (.iadd, 1) := by decide +kernel
theorem dX8_fit_11 : decode cX8_fit 11 = .ok (.ireturn, 1) := by decide +kernel
set_option maxRecDepth 20000 in
theorem ggX8_fit_X6_fit : GoodIn wsX8_fit wsX6_fit := goodIn_r _ [6] (by decide +kernel) (by decide +kernel)
set_option maxRecDepth 20000 in
theorem gX8_fit_X6_fit_s9 : GoodIn wsX8_fit (va_wsSU RX8 9 yX6_fit wsX6_fit) := goodIn_app (goodIn_of _ (by decide +kernel)) ggX8_fit_X6_fit
def fX8_fit (g : c_G) (a1 : Int32) : Option (Int32) :=
  (fX6_fit g 26 a1).bind fun r1 => some (r1 + (g.1 3 7))
set_option maxRecDepth 100000 in
set_option maxHeartbeats 4000000 in
theorem kX8_fit {l : Launch} {D : va_G} {tc : Nat → ClassId} {ad : Nat → Nat} {A : Nat → Prop} {E : (Nat → Nat) × (Nat → Nat) × Nat} (hD : c_D A ad TC) {a1 : Int32} {g : c_G} {r : Int32} (hf : fX8_fit g a1 = some r) : c_Mi l yX8_fit wsX8_fit (c_rm 1) D tc ad A E TC ([.ref (ad 26), .int a1, .ref (ad 3)] : List Value) g g r := by
  refine c_ofW (bytes := cX8_fit) (maxL := 3) (ret := (some .int)) (by decide) rfl (Nat.le_of_ble_eq_true rfl) ?_
  intro p e s m below meth c ls C hP hS hl
  unfold fX8_fit at hf
  obtain ⟨hx, hb, hr, hml, hts, hown, hlk, hK, hE⟩ := id C
  have hl : lv_has ls 3 [(0, .ref (ad 26)), (1, .int a1), (2, .ref (ad 3))] := hl
  refine lv_aload_n hx hb dX8_fit_0 rfl (lv_at hl 0 rfl) ?_
  refine lv_iload_n hx hb dX8_fit_1 rfl (lv_at hl 1 rfl) ?_
  refine lv_aload_n hx hb dX8_fit_2 rfl (lv_at hl 2 rfl) ?_
  obtain ⟨r1, hc2, hf⟩ := c_bd hf
  refine c_goi (va_runSU (hK.1 8 _ rfl).2 (As := [.int a1, .ref (ad 3)]) (rest := []) ⟨hx, hb, hml, hown, hts⟩ (kX6_fit hD hc2) (va_cwSU 2 hts gX8_fit_X6_fit_s9 rfl rfl rfl (by decide +kernel) ⟨Nat.le_of_ble_eq_true rfl, Nat.le_of_ble_eq_true rfl⟩) (c_preV hK hP hE hS tC26 rfl) rfl rfl hl.1 rfl (lv_room (Nat.le_of_ble_eq_true rfl)) dX8_fit_3 ⟨Nat.zero_le _, Nat.zero_le _⟩) hS (fun H locs hP hS => ?_)
  refine lv_aload_n hx hb dX8_fit_6 rfl (lv_at hl 2 rfl) ?_
  refine lv_bipush (v := (7 : Int32)) hx hb dX8_fit_7 (by decide) ?_
  refine c_iald (j := 7) hx hb hK hP 3 tC3 (by decide) (c_inV (by decide)) dX8_fit_9 ?_
  refine lv_iadd hx hb dX8_fit_10 ?_
  exact c_iret hx hb hr hlk hP hS rfl ⟨rfl, Option.some.inj hf⟩ dX8_fit_11
def v_fit (g : c_G) (h : Nat) (a : Int32) : Option Int32 :=
  if h = 20 then some (fX2_fit 20 a) else if h = 21 then fX1_fit g 21 a else if h = 22 then fX9_fit g 22 a else if h = 23 then fX6_fit g 23 a else if h = 24 then fX3_fit g a else if h = 25 then fX4_fit g a else if h = 26 then fX8_fit g a else none
theorem i_X5_add_X5 : ∀ w ∈ u_ws RX5 TX5 4, w ∈ wsX5_add := c_inP [5, 6, 7, 8] (by decide +kernel)
theorem dX5_add_0 : decode cX5_add 0 = .ok (.aload_n 0, 1) := by decide +kernel
theorem dX5_add_1 : decode cX5_add 1 = .ok (.getfield 21, 3) := by decide +kernel
theorem dX5_add_4 : decode cX5_add 4 = .ok (.aload_n 0, 1) := by decide +kernel
theorem dX5_add_5 : decode cX5_add 5 = .ok (.getfield 9, 3) := by decide +kernel
theorem dX5_add_8 : decode cX5_add 8 = .ok (.arraylength, 1) := by decide +kernel
theorem dX5_add_9 : decode cX5_add 9 = .ok (.if_icmp .lt 6, 3) := by decide +kernel
theorem dX5_add_12 : decode cX5_add 12 = .ok (.bipush (-4), 2) := by decide +kernel
theorem dX5_add_14 : decode cX5_add 14 = .ok (.ireturn, 1) := by decide +kernel
theorem dX5_add_15 : decode cX5_add 15 = .ok (.aload_n 0, 1) := by decide +kernel
theorem dX5_add_16 : decode cX5_add 16 = .ok (.getfield 9, 3) := by decide +kernel
theorem dX5_add_19 : decode cX5_add 19 = .ok (.aload_n 0, 1) := by decide +kernel
theorem dX5_add_20 : decode cX5_add 20 = .ok (.getfield 21, 3) := by decide +kernel
theorem dX5_add_23 : decode cX5_add 23 = .ok (.iload_n 1, 1) := by decide +kernel
theorem dX5_add_24 : decode cX5_add 24 = .ok (.iastore, 1) := by decide +kernel
theorem dX5_add_25 : decode cX5_add 25 = .ok (.aload_n 0, 1) := by decide +kernel
theorem dX5_add_26 : decode cX5_add 26 = .ok (.getfield 15, 3) := by decide +kernel
theorem dX5_add_29 : decode cX5_add 29 = .ok (.aload_n 0, 1) := by decide +kernel
theorem dX5_add_30 : decode cX5_add 30 = .ok (.getfield 21, 3) := by decide +kernel
theorem dX5_add_33 : decode cX5_add 33 = .ok (.iload_n 2, 1) := by decide +kernel
theorem dX5_add_34 : decode cX5_add 34 = .ok (.iastore, 1) := by decide +kernel
theorem dX5_add_35 : decode cX5_add 35 = .ok (.aload_n 0, 1) := by decide +kernel
theorem dX5_add_36 : decode cX5_add 36 = .ok (.getfield 18, 3) := by decide +kernel
theorem dX5_add_39 : decode cX5_add 39 = .ok (.aload_n 0, 1) := by decide +kernel
theorem dX5_add_40 : decode cX5_add 40 = .ok (.getfield 21, 3) := by decide +kernel
theorem dX5_add_43 : decode cX5_add 43 = .ok (.iload_n 3, 1) := by decide +kernel
theorem dX5_add_44 : decode cX5_add 44 = .ok (.iastore, 1) := by decide +kernel
theorem dX5_add_45 : decode cX5_add 45 = .ok (.aload_n 0, 1) := by decide +kernel
theorem dX5_add_46 : decode cX5_add 46 = .ok (.dup, 1) := by decide +kernel
theorem dX5_add_47 : decode cX5_add 47 = .ok (.getfield 21, 3) := by decide +kernel
theorem dX5_add_50 : decode cX5_add 50 = .ok (.iconst 1, 1) := by decide +kernel
theorem dX5_add_51 : decode cX5_add 51 = .ok (.iadd, 1) := by decide +kernel
theorem dX5_add_52 : decode cX5_add 52 = .ok (.putfield 21, 3) := by decide +kernel
theorem dX5_add_55 : decode cX5_add 55 = .ok (.aload_n 0, 1) := by decide +kernel
theorem dX5_add_56 : decode cX5_add 56 = .ok (.getfield 21, 3) := by decide +kernel
theorem dX5_add_59 : decode cX5_add 59 = .ok (.ireturn, 1) := by decide +kernel
def fX5_add (g : c_G) (r0 : Nat) (a1 : Int32) (a2 : Int32) (a3 : Int32) : Option (c_G × Int32) :=
  if c_isR r0 = true then (if (g.1 r0 3) < (nI (c_rl r0)) then (if c_in ((g.1 r0 3)) ((c_rl r0)) = true then c_let (c_si g (r0 + 1) ((g.1 r0 3)).toNatClampNeg a1) fun g3 => if c_in ((g3.1 r0 3)) ((c_rl r0)) = true then c_let (c_si g3 (r0 + 2) ((g3.1 r0 3)).toNatClampNeg a2) fun g5 => if c_in ((g5.1 r0 3)) ((c_rl r0)) = true then c_let (c_si g5 (r0 + 3) ((g5.1 r0 3)).toNatClampNeg a3) fun g7 => c_let (((g7.1 r0 3) + (1 : Int32))) fun v8 => c_let (c_si g7 r0 3 v8) fun g9 => some (g9, (g9.1 r0 3)) else none else none else none) else (some (g, (-4 : Int32)))) else none
set_option maxRecDepth 100000 in
set_option maxHeartbeats 4000000 in
theorem kX5_add {l : Launch} {D : va_G} {tc : Nat → ClassId} {ad : Nat → Nat} {A : Nat → Prop} {E : (Nat → Nat) × (Nat → Nat) × Nat} (hD : c_D A ad TC) {r0 : Nat} {a1 : Int32} {a2 : Int32} {a3 : Int32} {g g' : c_G} {r : Int32} (hf : fX5_add g r0 a1 a2 a3 = some (g', r)) : c_Mi l yX5_add wsX5_add (c_rm 0) D tc ad A E TC ([.ref (ad r0), .int a1, .int a2, .int a3] : List Value) g g' r := by
  refine c_ofW (bytes := cX5_add) (maxL := 4) (ret := (some .int)) (by decide) rfl (Nat.le_of_ble_eq_true rfl) ?_
  intro p e s m below meth c ls C hP hS hl
  unfold fX5_add at hf
  obtain ⟨hq_r0, hf⟩ := c_gd hf
  obtain ⟨hx, hb, hr, hml, hts, hown, hlk, hK, hE⟩ := id C
  obtain ⟨fr0_0, fr0_1, fr0_2, fr0_3⟩ := c_isRE hq_r0
  have hl : lv_has ls 4 [(0, .ref (ad r0)), (1, .int a1), (2, .int a2), (3, .int a3)] := hl
  refine lv_aload_n hx hb dX5_add_0 rfl (lv_at hl 0 rfl) ?_
  refine c_get hx hb hts i_X5_add_X5 hown hK hP r0 fr0_0 rfl 3 (by decide) (hts _ (List.mem_of_getElem? (i := 1) rfl)) (fun _ h9 => h9) rfl (v := .int (g.1 r0 3)) rfl dX5_add_1 ?_
  refine lv_aload_n hx hb dX5_add_4 rfl (lv_at hl 0 rfl) ?_
  refine c_get hx hb hts i_X5_add_X5 hown hK hP r0 fr0_0 rfl 0 (by decide) (hts _ (List.mem_of_getElem? (i := 2) rfl)) (fun _ h9 => h9) rfl (v := .ref (ad (r0 + 1))) rfl dX5_add_5 ?_
  refine c_alen hx hb hK hP (r0 + 1) fr0_1 dX5_add_8 ?_
  refine lv_icmp_lt (tgt := 15) hx hb dX5_add_9 (by decide) (fun c1 => ?_) (fun c1 => ?_)
  · have hf := c_it c1 hf
    refine lv_aload_n hx hb dX5_add_15 rfl (lv_at hl 0 rfl) ?_
    refine c_get hx hb hts i_X5_add_X5 hown hK hP r0 fr0_0 rfl 0 (by decide) (hts _ (List.mem_of_getElem? (i := 2) rfl)) (fun _ h9 => h9) rfl (v := .ref (ad (r0 + 1))) rfl dX5_add_16 ?_
    refine lv_aload_n hx hb dX5_add_19 rfl (lv_at hl 0 rfl) ?_
    refine c_get hx hb hts i_X5_add_X5 hown hK hP r0 fr0_0 rfl 3 (by decide) (hts _ (List.mem_of_getElem? (i := 1) rfl)) (fun _ h9 => h9) rfl (v := .int (g.1 r0 3)) rfl dX5_add_20 ?_
    refine lv_iload_n hx hb dX5_add_23 rfl (lv_at hl 1 rfl) ?_
    obtain ⟨hi2, hf⟩ := c_gd hf
    obtain ⟨g3, eg3, hf⟩ := c_letE hf
    refine c_iast (j := ((g.1 r0 3)).toNatClampNeg) hx hb hK hP hD hS (r0 + 1) fr0_1 rfl (c_inV hi2) eg3 dX5_add_24 (fun H locs hP hS => ?_)
    refine lv_aload_n hx hb dX5_add_25 rfl (lv_at hl 0 rfl) ?_
    refine c_get hx hb hts i_X5_add_X5 hown hK hP r0 fr0_0 rfl 1 (by decide) (hts _ (List.mem_of_getElem? (i := 3) rfl)) (fun _ h9 => h9) rfl (v := .ref (ad (r0 + 2))) rfl dX5_add_26 ?_
    refine lv_aload_n hx hb dX5_add_29 rfl (lv_at hl 0 rfl) ?_
    refine c_get hx hb hts i_X5_add_X5 hown hK hP r0 fr0_0 rfl 3 (by decide) (hts _ (List.mem_of_getElem? (i := 1) rfl)) (fun _ h9 => h9) rfl (v := .int (g3.1 r0 3)) rfl dX5_add_30 ?_
    refine lv_iload_n hx hb dX5_add_33 rfl (lv_at hl 2 rfl) ?_
    obtain ⟨hi4, hf⟩ := c_gd hf
    obtain ⟨g5, eg5, hf⟩ := c_letE hf
    refine c_iast (j := ((g3.1 r0 3)).toNatClampNeg) hx hb hK hP hD hS (r0 + 2) fr0_2 rfl (c_inV hi4) eg5 dX5_add_34 (fun H locs hP hS => ?_)
    refine lv_aload_n hx hb dX5_add_35 rfl (lv_at hl 0 rfl) ?_
    refine c_get hx hb hts i_X5_add_X5 hown hK hP r0 fr0_0 rfl 2 (by decide) (hts _ (List.mem_of_getElem? (i := 4) rfl)) (fun _ h9 => h9) rfl (v := .ref (ad (r0 + 3))) rfl dX5_add_36 ?_
    refine lv_aload_n hx hb dX5_add_39 rfl (lv_at hl 0 rfl) ?_
    refine c_get hx hb hts i_X5_add_X5 hown hK hP r0 fr0_0 rfl 3 (by decide) (hts _ (List.mem_of_getElem? (i := 1) rfl)) (fun _ h9 => h9) rfl (v := .int (g5.1 r0 3)) rfl dX5_add_40 ?_
    refine lv_iload_n hx hb dX5_add_43 rfl (lv_at hl 3 rfl) ?_
    obtain ⟨hi6, hf⟩ := c_gd hf
    obtain ⟨g7, eg7, hf⟩ := c_letE hf
    refine c_iast (j := ((g5.1 r0 3)).toNatClampNeg) hx hb hK hP hD hS (r0 + 3) fr0_3 rfl (c_inV hi6) eg7 dX5_add_44 (fun H locs hP hS => ?_)
    refine lv_aload_n hx hb dX5_add_45 rfl (lv_at hl 0 rfl) ?_
    refine lv_dup hx hb dX5_add_46 rfl ?_
    refine c_get hx hb hts i_X5_add_X5 hown hK hP r0 fr0_0 rfl 3 (by decide) (hts _ (List.mem_of_getElem? (i := 1) rfl)) (fun _ h9 => h9) rfl (v := .int (g7.1 r0 3)) rfl dX5_add_47 ?_
    refine lv_iconst (v := (1 : Int32)) hx hb dX5_add_50 (by decide) ?_
    refine lv_iadd hx hb dX5_add_51 ?_
    obtain ⟨v8, ev8, hf⟩ := c_letE hf
    refine c_topi ev8 ?_
    obtain ⟨g9, eg9, hf⟩ := c_letE hf
    refine c_put hx hb hts i_X5_add_X5 tyX5 tyX5_ok nmX5 hown hK hP hD hS r0 fr0_0 rfl 3 (by decide) (hts _ (List.mem_of_getElem? (i := 1) rfl)) (fun _ h9 => h9) rfl (ty := .int) (by decide +kernel) rfl rfl rfl eg9 dX5_add_52 (fun H locs hP hS => ?_)
    refine lv_aload_n hx hb dX5_add_55 rfl (lv_at hl 0 rfl) ?_
    refine c_get hx hb hts i_X5_add_X5 hown hK hP r0 fr0_0 rfl 3 (by decide) (hts _ (List.mem_of_getElem? (i := 1) rfl)) (fun _ h9 => h9) rfl (v := .int (g9.1 r0 3)) rfl dX5_add_56 ?_
    exact c_iret hx hb hr hlk hP hS rfl (c_inj hf) dX5_add_59
  · have hf := c_ie c1 hf
    refine lv_bipush (v := (-4 : Int32)) hx hb dX5_add_12 (by decide) ?_
    exact c_iret hx hb hr hlk hP hS rfl (c_inj hf) dX5_add_14
theorem i_X5_clear_X5 : ∀ w ∈ u_ws RX5 TX5 4, w ∈ wsX5_clear := c_inP [2, 3, 4, 5] (by decide +kernel)
theorem dX5_clear_0 : decode cX5_clear 0 = .ok (.aload_n 0, 1) := by decide +kernel
theorem dX5_clear_1 : decode cX5_clear 1 = .ok (.iconst 0, 1) := by decide +kernel
theorem dX5_clear_2 : decode cX5_clear 2 = .ok (.putfield 21, 3) := by decide +kernel
theorem dX5_clear_5 : decode cX5_clear 5 = .ok (.iconst 0, 1) := by decide +kernel
theorem dX5_clear_6 : decode cX5_clear 6 = .ok (.ireturn, 1) := by decide +kernel
def fX5_clear (g : c_G) (r0 : Nat) : Option (c_G × Int32) :=
  if c_isR r0 = true then (c_let (c_si g r0 3 (0 : Int32)) fun g1 => some (g1, (0 : Int32))) else none
set_option maxRecDepth 100000 in
set_option maxHeartbeats 4000000 in
theorem kX5_clear {l : Launch} {D : va_G} {tc : Nat → ClassId} {ad : Nat → Nat} {A : Nat → Prop} {E : (Nat → Nat) × (Nat → Nat) × Nat} (hD : c_D A ad TC) {r0 : Nat} {g g' : c_G} {r : Int32} (hf : fX5_clear g r0 = some (g', r)) : c_Mi l yX5_clear wsX5_clear (c_rm 0) D tc ad A E TC ([.ref (ad r0)] : List Value) g g' r := by
  refine c_ofW (bytes := cX5_clear) (maxL := 1) (ret := (some .int)) (by decide) rfl (Nat.le_of_ble_eq_true rfl) ?_
  intro p e s m below meth c ls C hP hS hl
  unfold fX5_clear at hf
  obtain ⟨hq_r0, hf⟩ := c_gd hf
  obtain ⟨hx, hb, hr, hml, hts, hown, hlk, hK, hE⟩ := id C
  obtain ⟨fr0_0, fr0_1, fr0_2, fr0_3⟩ := c_isRE hq_r0
  have hl : lv_has ls 1 [(0, .ref (ad r0))] := hl
  refine lv_aload_n hx hb dX5_clear_0 rfl (lv_at hl 0 rfl) ?_
  refine lv_iconst (v := (0 : Int32)) hx hb dX5_clear_1 (by decide) ?_
  obtain ⟨g1, eg1, hf⟩ := c_letE hf
  refine c_put hx hb hts i_X5_clear_X5 tyX5 tyX5_ok nmX5 hown hK hP hD hS r0 fr0_0 rfl 3 (by decide) (hts _ (List.mem_of_getElem? (i := 1) rfl)) (fun _ h9 => h9) rfl (ty := .int) (by decide +kernel) rfl rfl rfl eg1 dX5_clear_2 (fun H locs hP hS => ?_)
  refine lv_iconst (v := (0 : Int32)) hx hb dX5_clear_5 (by decide) ?_
  exact c_iret hx hb hr hlk hP hS rfl (c_inj hf) dX5_clear_6
theorem i_X5_copyFrom_X5 : ∀ w ∈ u_ws RX5 TX5 4, w ∈ wsX5_copyFrom := c_inP [9, 10, 11, 12] (by decide +kernel)
theorem dX5_copyFrom_0 : decode cX5_copyFrom 0 = .ok (.aload_n 1, 1) := by decide +kernel
theorem dX5_copyFrom_1 : decode cX5_copyFrom 1 = .ok (.getfield 9, 3) := by decide +kernel
theorem dX5_copyFrom_4 : decode cX5_copyFrom 4 = .ok (.iconst 0, 1) := by decide +kernel
theorem dX5_copyFrom_5 : decode cX5_copyFrom 5 = .ok (.aload_n 0, 1) := by decide +kernel
theorem dX5_copyFrom_6 : decode cX5_copyFrom 6 = .ok (.getfield 9, 3) := by decide +kernel
theorem dX5_copyFrom_9 : decode cX5_copyFrom 9 = .ok (.iconst 0, 1) := by decide +kernel
theorem dX5_copyFrom_10 : decode cX5_copyFrom 10 = .ok (.aload_n 0, 1) := by decide +kernel
theorem dX5_copyFrom_11 : decode cX5_copyFrom 11 = .ok (.getfield 9, 3) := by decide +kernel
theorem dX5_copyFrom_14 : decode cX5_copyFrom 14 = .ok (.arraylength, 1) := by decide +kernel
theorem dX5_copyFrom_15 : decode cX5_copyFrom 15 = .ok (.invokestatic 25, 3) := by decide +kernel
theorem dX5_copyFrom_18 : decode cX5_copyFrom 18 = .ok (.aload_n 1, 1) := by decide +kernel
theorem dX5_copyFrom_19 : decode cX5_copyFrom 19 = .ok (.getfield 15, 3) := by decide +kernel
theorem dX5_copyFrom_22 : decode cX5_copyFrom 22 = .ok (.iconst 0, 1) := by decide +kernel
theorem dX5_copyFrom_23 : decode cX5_copyFrom 23 = .ok (.aload_n 0, 1) := by decide +kernel
theorem dX5_copyFrom_24 : decode cX5_copyFrom 24 = .ok (.getfield 15, 3) := by decide +kernel
theorem dX5_copyFrom_27 : decode cX5_copyFrom 27 = .ok (.iconst 0, 1) := by decide +kernel
theorem dX5_copyFrom_28 : decode cX5_copyFrom 28 = .ok (.aload_n 0, 1) := by decide +kernel
theorem dX5_copyFrom_29 : decode cX5_copyFrom 29 = .ok (.getfield 15, 3) := by decide +kernel
theorem dX5_copyFrom_32 : decode cX5_copyFrom 32 = .ok (.arraylength, 1) := by decide +kernel
theorem dX5_copyFrom_33 : decode cX5_copyFrom 33 = .ok (.invokestatic 25, 3) := by decide +kernel
theorem dX5_copyFrom_36 : decode cX5_copyFrom 36 = .ok (.aload_n 1, 1) := by decide +kernel
theorem dX5_copyFrom_37 : decode cX5_copyFrom 37 = .ok (.getfield 18, 3) := by decide +kernel
theorem dX5_copyFrom_40 : decode cX5_copyFrom 40 = .ok (.iconst 0, 1) := by decide +kernel
theorem dX5_copyFrom_41 : decode cX5_copyFrom 41 = .ok (.aload_n 0, 1) := by decide +kernel
theorem dX5_copyFrom_42 : decode cX5_copyFrom 42 = .ok (.getfield 18, 3) := by decide +kernel
theorem dX5_copyFrom_45 : decode cX5_copyFrom 45 = .ok (.iconst 0, 1) := by decide +kernel
theorem dX5_copyFrom_46 : decode cX5_copyFrom 46 = .ok (.aload_n 0, 1) := by decide +kernel
theorem dX5_copyFrom_47 : decode cX5_copyFrom 47 = .ok (.getfield 18, 3) := by decide +kernel
theorem dX5_copyFrom_50 : decode cX5_copyFrom 50 = .ok (.arraylength, 1) := by decide +kernel
theorem dX5_copyFrom_51 : decode cX5_copyFrom 51 = .ok (.invokestatic 25, 3) := by decide +kernel
theorem dX5_copyFrom_54 : decode cX5_copyFrom 54 = .ok (.aload_n 0, 1) := by decide +kernel
theorem dX5_copyFrom_55 : decode cX5_copyFrom 55 = .ok (.aload_n 1, 1) := by decide +kernel
theorem dX5_copyFrom_56 : decode cX5_copyFrom 56 = .ok (.getfield 21, 3) := by decide +kernel
theorem dX5_copyFrom_59 : decode cX5_copyFrom 59 = .ok (.putfield 21, 3) := by decide +kernel
theorem dX5_copyFrom_62 : decode cX5_copyFrom 62 = .ok (.return_, 1) := by decide +kernel
def fX5_copyFrom (g : c_G) (r0 : Nat) (a1 : Nat) : Option (c_G) :=
  if c_isR r0 = true then (if c_isR a1 = true then (if c_cp ((0 : Int32)) ((0 : Int32)) ((nI (c_rl r0))) (c_rl a1) (c_rl r0) = true then c_let (c_sr g (r0 + 1) (va_cpy (g.1 (a1 + 1)) (g.1 (r0 + 1)) ((0 : Int32)).toNatClampNeg ((0 : Int32)).toNatClampNeg ((nI (c_rl r0))).toNatClampNeg)) fun g2 => if c_cp ((0 : Int32)) ((0 : Int32)) ((nI (c_rl r0))) (c_rl a1) (c_rl r0) = true then c_let (c_sr g2 (r0 + 2) (va_cpy (g2.1 (a1 + 2)) (g2.1 (r0 + 2)) ((0 : Int32)).toNatClampNeg ((0 : Int32)).toNatClampNeg ((nI (c_rl r0))).toNatClampNeg)) fun g4 => if c_cp ((0 : Int32)) ((0 : Int32)) ((nI (c_rl r0))) (c_rl a1) (c_rl r0) = true then c_let (c_sr g4 (r0 + 3) (va_cpy (g4.1 (a1 + 3)) (g4.1 (r0 + 3)) ((0 : Int32)).toNatClampNeg ((0 : Int32)).toNatClampNeg ((nI (c_rl r0))).toNatClampNeg)) fun g6 => c_let (c_si g6 r0 3 (g6.1 a1 3)) fun g7 => some g7 else none else none else none) else none) else none
set_option maxRecDepth 100000 in
set_option maxHeartbeats 4000000 in
theorem kX5_copyFrom {l : Launch} {D : va_G} {tc : Nat → ClassId} {ad : Nat → Nat} {A : Nat → Prop} {E : (Nat → Nat) × (Nat → Nat) × Nat} (hD : c_D A ad TC) {r0 : Nat} {a1 : Nat} {g g' : c_G} (hf : fX5_copyFrom g r0 a1 = some g') : c_Mv l yX5_copyFrom wsX5_copyFrom (c_rm 1) D tc ad A E TC ([.ref (ad r0), .ref (ad a1)] : List Value) g g' := by
  refine c_ofW (bytes := cX5_copyFrom) (maxL := 2) (ret := none) (by decide) rfl (Nat.le_of_ble_eq_true rfl) ?_
  intro p e s m below meth c ls C hP hS hl
  unfold fX5_copyFrom at hf
  obtain ⟨hq_r0, hf⟩ := c_gd hf
  obtain ⟨hq_a1, hf⟩ := c_gd hf
  obtain ⟨hx, hb, hr, hml, hts, hown, hlk, hK, hE⟩ := id C
  obtain ⟨fr0_0, fr0_1, fr0_2, fr0_3⟩ := c_isRE hq_r0
  obtain ⟨fa1_0, fa1_1, fa1_2, fa1_3⟩ := c_isRE hq_a1
  have hl : lv_has ls 2 [(0, .ref (ad r0)), (1, .ref (ad a1))] := hl
  refine lv_aload_n hx hb dX5_copyFrom_0 rfl (lv_at hl 1 rfl) ?_
  refine c_get hx hb hts i_X5_copyFrom_X5 hown hK hP a1 fa1_0 rfl 0 (by decide) (hts _ (List.mem_of_getElem? (i := 1) rfl)) (fun _ h9 => h9) rfl (v := .ref (ad (a1 + 1))) rfl dX5_copyFrom_1 ?_
  refine lv_iconst (v := (0 : Int32)) hx hb dX5_copyFrom_4 (by decide) ?_
  refine lv_aload_n hx hb dX5_copyFrom_5 rfl (lv_at hl 0 rfl) ?_
  refine c_get hx hb hts i_X5_copyFrom_X5 hown hK hP r0 fr0_0 rfl 0 (by decide) (hts _ (List.mem_of_getElem? (i := 1) rfl)) (fun _ h9 => h9) rfl (v := .ref (ad (r0 + 1))) rfl dX5_copyFrom_6 ?_
  refine lv_iconst (v := (0 : Int32)) hx hb dX5_copyFrom_9 (by decide) ?_
  refine lv_aload_n hx hb dX5_copyFrom_10 rfl (lv_at hl 0 rfl) ?_
  refine c_get hx hb hts i_X5_copyFrom_X5 hown hK hP r0 fr0_0 rfl 0 (by decide) (hts _ (List.mem_of_getElem? (i := 1) rfl)) (fun _ h9 => h9) rfl (v := .ref (ad (r0 + 1))) rfl dX5_copyFrom_11 ?_
  refine c_alen hx hb hK hP (r0 + 1) fr0_1 dX5_copyFrom_14 ?_
  obtain ⟨hc1, hf⟩ := c_gd hf
  obtain ⟨g2, eg2, hf⟩ := c_letE hf
  refine c_copyi hx hb (hml.trans hl.1.symm) hown (hts _ (List.mem_of_getElem? (i := 2) rfl)) (hts _ (List.mem_of_getElem? (i := 3) rfl)) (hts _ (List.mem_of_getElem? (i := 4) rfl)) (hts _ (List.mem_of_getElem? (i := 5) rfl)) hK hP hD hS (a1 + 1) (r0 + 1) fa1_1 fr0_1 (c_cpE hc1).1 (c_cpE hc1).2.1 (c_cpE hc1).2.2.1 (c_cpE hc1).2.2.2.1 (c_cpE hc1).2.2.2.2 (Nat.le_of_ble_eq_true rfl) (Nat.le_of_ble_eq_true rfl) eg2 dX5_copyFrom_15 (fun H locs hP hS => ?_)
  refine lv_aload_n hx hb dX5_copyFrom_18 rfl (lv_at hl 1 rfl) ?_
  refine c_get hx hb hts i_X5_copyFrom_X5 hown hK hP a1 fa1_0 rfl 1 (by decide) (hts _ (List.mem_of_getElem? (i := 6) rfl)) (fun _ h9 => h9) rfl (v := .ref (ad (a1 + 2))) rfl dX5_copyFrom_19 ?_
  refine lv_iconst (v := (0 : Int32)) hx hb dX5_copyFrom_22 (by decide) ?_
  refine lv_aload_n hx hb dX5_copyFrom_23 rfl (lv_at hl 0 rfl) ?_
  refine c_get hx hb hts i_X5_copyFrom_X5 hown hK hP r0 fr0_0 rfl 1 (by decide) (hts _ (List.mem_of_getElem? (i := 6) rfl)) (fun _ h9 => h9) rfl (v := .ref (ad (r0 + 2))) rfl dX5_copyFrom_24 ?_
  refine lv_iconst (v := (0 : Int32)) hx hb dX5_copyFrom_27 (by decide) ?_
  refine lv_aload_n hx hb dX5_copyFrom_28 rfl (lv_at hl 0 rfl) ?_
  refine c_get hx hb hts i_X5_copyFrom_X5 hown hK hP r0 fr0_0 rfl 1 (by decide) (hts _ (List.mem_of_getElem? (i := 6) rfl)) (fun _ h9 => h9) rfl (v := .ref (ad (r0 + 2))) rfl dX5_copyFrom_29 ?_
  refine c_alen hx hb hK hP (r0 + 2) fr0_2 dX5_copyFrom_32 ?_
  obtain ⟨hc3, hf⟩ := c_gd hf
  obtain ⟨g4, eg4, hf⟩ := c_letE hf
  refine c_copyi hx hb (hml.trans hl.1.symm) hown (hts _ (List.mem_of_getElem? (i := 2) rfl)) (hts _ (List.mem_of_getElem? (i := 3) rfl)) (hts _ (List.mem_of_getElem? (i := 4) rfl)) (hts _ (List.mem_of_getElem? (i := 5) rfl)) hK hP hD hS (a1 + 2) (r0 + 2) fa1_2 fr0_2 (c_cpE hc3).1 (c_cpE hc3).2.1 (c_cpE hc3).2.2.1 (c_cpE hc3).2.2.2.1 (c_cpE hc3).2.2.2.2 (Nat.le_of_ble_eq_true rfl) (Nat.le_of_ble_eq_true rfl) eg4 dX5_copyFrom_33 (fun H locs hP hS => ?_)
  refine lv_aload_n hx hb dX5_copyFrom_36 rfl (lv_at hl 1 rfl) ?_
  refine c_get hx hb hts i_X5_copyFrom_X5 hown hK hP a1 fa1_0 rfl 2 (by decide) (hts _ (List.mem_of_getElem? (i := 7) rfl)) (fun _ h9 => h9) rfl (v := .ref (ad (a1 + 3))) rfl dX5_copyFrom_37 ?_
  refine lv_iconst (v := (0 : Int32)) hx hb dX5_copyFrom_40 (by decide) ?_
  refine lv_aload_n hx hb dX5_copyFrom_41 rfl (lv_at hl 0 rfl) ?_
  refine c_get hx hb hts i_X5_copyFrom_X5 hown hK hP r0 fr0_0 rfl 2 (by decide) (hts _ (List.mem_of_getElem? (i := 7) rfl)) (fun _ h9 => h9) rfl (v := .ref (ad (r0 + 3))) rfl dX5_copyFrom_42 ?_
  refine lv_iconst (v := (0 : Int32)) hx hb dX5_copyFrom_45 (by decide) ?_
  refine lv_aload_n hx hb dX5_copyFrom_46 rfl (lv_at hl 0 rfl) ?_
  refine c_get hx hb hts i_X5_copyFrom_X5 hown hK hP r0 fr0_0 rfl 2 (by decide) (hts _ (List.mem_of_getElem? (i := 7) rfl)) (fun _ h9 => h9) rfl (v := .ref (ad (r0 + 3))) rfl dX5_copyFrom_47 ?_
  refine c_alen hx hb hK hP (r0 + 3) fr0_3 dX5_copyFrom_50 ?_
  obtain ⟨hc5, hf⟩ := c_gd hf
  obtain ⟨g6, eg6, hf⟩ := c_letE hf
  refine c_copyi hx hb (hml.trans hl.1.symm) hown (hts _ (List.mem_of_getElem? (i := 2) rfl)) (hts _ (List.mem_of_getElem? (i := 3) rfl)) (hts _ (List.mem_of_getElem? (i := 4) rfl)) (hts _ (List.mem_of_getElem? (i := 5) rfl)) hK hP hD hS (a1 + 3) (r0 + 3) fa1_3 fr0_3 (c_cpE hc5).1 (c_cpE hc5).2.1 (c_cpE hc5).2.2.1 (c_cpE hc5).2.2.2.1 (c_cpE hc5).2.2.2.2 (Nat.le_of_ble_eq_true rfl) (Nat.le_of_ble_eq_true rfl) eg6 dX5_copyFrom_51 (fun H locs hP hS => ?_)
  refine lv_aload_n hx hb dX5_copyFrom_54 rfl (lv_at hl 0 rfl) ?_
  refine lv_aload_n hx hb dX5_copyFrom_55 rfl (lv_at hl 1 rfl) ?_
  refine c_get hx hb hts i_X5_copyFrom_X5 hown hK hP a1 fa1_0 rfl 3 (by decide) (hts _ (List.mem_of_getElem? (i := 8) rfl)) (fun _ h9 => h9) rfl (v := .int (g6.1 a1 3)) rfl dX5_copyFrom_56 ?_
  obtain ⟨g7, eg7, hf⟩ := c_letE hf
  refine c_put hx hb hts i_X5_copyFrom_X5 tyX5 tyX5_ok nmX5 hown hK hP hD hS r0 fr0_0 rfl 3 (by decide) (hts _ (List.mem_of_getElem? (i := 8) rfl)) (fun _ h9 => h9) rfl (ty := .int) (by decide +kernel) rfl rfl rfl eg7 dX5_copyFrom_59 (fun H locs hP hS => ?_)
  exact c_vret hx hb hr hlk hP hS (Option.some.inj hf) dX5_copyFrom_62
theorem i_X7_copyFrom_X7 : ∀ w ∈ u_ws RX7 TX7 17, w ∈ wsX7_copyFrom := c_inP [32, 33, 34, 35, 36, 37, 38, 39, 40, 41, 42, 43, 44, 45, 46, 47, 48] (by decide +kernel)
theorem dX7_copyFrom_0 : decode cX7_copyFrom 0 = .ok (.aload_n 1, 1) := by decide +kernel
theorem dX7_copyFrom_1 : decode cX7_copyFrom 1 = .ok (.getfield 9, 3) := by decide +kernel
theorem dX7_copyFrom_4 : decode cX7_copyFrom 4 = .ok (.iconst 0, 1) := by decide +kernel
theorem dX7_copyFrom_5 : decode cX7_copyFrom 5 = .ok (.aload_n 0, 1) := by decide +kernel
theorem dX7_copyFrom_6 : decode cX7_copyFrom 6 = .ok (.getfield 9, 3) := by decide +kernel
theorem dX7_copyFrom_9 : decode cX7_copyFrom 9 = .ok (.iconst 0, 1) := by decide +kernel
theorem dX7_copyFrom_10 : decode cX7_copyFrom 10 = .ok (.bipush 6, 2) := by decide +kernel
theorem dX7_copyFrom_12 : decode cX7_copyFrom 12 = .ok (.invokestatic 67, 3) := by decide +kernel
theorem dX7_copyFrom_15 : decode cX7_copyFrom 15 = .ok (.aload_n 1, 1) := by decide +kernel
theorem dX7_copyFrom_16 : decode cX7_copyFrom 16 = .ok (.getfield 15, 3) := by decide +kernel
theorem dX7_copyFrom_19 : decode cX7_copyFrom 19 = .ok (.iconst 0, 1) := by decide +kernel
theorem dX7_copyFrom_20 : decode cX7_copyFrom 20 = .ok (.aload_n 0, 1) := by decide +kernel
theorem dX7_copyFrom_21 : decode cX7_copyFrom 21 = .ok (.getfield 15, 3) := by decide +kernel
theorem dX7_copyFrom_24 : decode cX7_copyFrom 24 = .ok (.iconst 0, 1) := by decide +kernel
theorem dX7_copyFrom_25 : decode cX7_copyFrom 25 = .ok (.bipush 6, 2) := by decide +kernel
theorem dX7_copyFrom_27 : decode cX7_copyFrom 27 = .ok (.invokestatic 67, 3) := by decide +kernel
theorem dX7_copyFrom_30 : decode cX7_copyFrom 30 = .ok (.aload_n 1, 1) := by decide +kernel
theorem dX7_copyFrom_31 : decode cX7_copyFrom 31 = .ok (.getfield 18, 3) := by decide +kernel
theorem dX7_copyFrom_34 : decode cX7_copyFrom 34 = .ok (.iconst 0, 1) := by decide +kernel
theorem dX7_copyFrom_35 : decode cX7_copyFrom 35 = .ok (.aload_n 0, 1) := by decide +kernel
theorem dX7_copyFrom_36 : decode cX7_copyFrom 36 = .ok (.getfield 18, 3) := by decide +kernel
theorem dX7_copyFrom_39 : decode cX7_copyFrom 39 = .ok (.iconst 0, 1) := by decide +kernel
theorem dX7_copyFrom_40 : decode cX7_copyFrom 40 = .ok (.bipush 6, 2) := by decide +kernel
theorem dX7_copyFrom_42 : decode cX7_copyFrom 42 = .ok (.invokestatic 67, 3) := by decide +kernel
theorem dX7_copyFrom_45 : decode cX7_copyFrom 45 = .ok (.aload_n 1, 1) := by decide +kernel
theorem dX7_copyFrom_46 : decode cX7_copyFrom 46 = .ok (.getfield 21, 3) := by decide +kernel
theorem dX7_copyFrom_49 : decode cX7_copyFrom 49 = .ok (.iconst 0, 1) := by decide +kernel
theorem dX7_copyFrom_50 : decode cX7_copyFrom 50 = .ok (.aload_n 0, 1) := by decide +kernel
theorem dX7_copyFrom_51 : decode cX7_copyFrom 51 = .ok (.getfield 21, 3) := by decide +kernel
theorem dX7_copyFrom_54 : decode cX7_copyFrom 54 = .ok (.iconst 0, 1) := by decide +kernel
theorem dX7_copyFrom_55 : decode cX7_copyFrom 55 = .ok (.bipush 6, 2) := by decide +kernel
theorem dX7_copyFrom_57 : decode cX7_copyFrom 57 = .ok (.invokestatic 67, 3) := by decide +kernel
theorem dX7_copyFrom_60 : decode cX7_copyFrom 60 = .ok (.aload_n 0, 1) := by decide +kernel
theorem dX7_copyFrom_61 : decode cX7_copyFrom 61 = .ok (.aload_n 1, 1) := by decide +kernel
theorem dX7_copyFrom_62 : decode cX7_copyFrom 62 = .ok (.getfield 73, 3) := by decide +kernel
theorem dX7_copyFrom_65 : decode cX7_copyFrom 65 = .ok (.putfield 73, 3) := by decide +kernel
theorem dX7_copyFrom_68 : decode cX7_copyFrom 68 = .ok (.aload_n 0, 1) := by decide +kernel
theorem dX7_copyFrom_69 : decode cX7_copyFrom 69 = .ok (.aload_n 1, 1) := by decide +kernel
theorem dX7_copyFrom_70 : decode cX7_copyFrom 70 = .ok (.getfield 77, 3) := by decide +kernel
theorem dX7_copyFrom_73 : decode cX7_copyFrom 73 = .ok (.putfield 77, 3) := by decide +kernel
theorem dX7_copyFrom_76 : decode cX7_copyFrom 76 = .ok (.aload_n 0, 1) := by decide +kernel
theorem dX7_copyFrom_77 : decode cX7_copyFrom 77 = .ok (.aload_n 1, 1) := by decide +kernel
theorem dX7_copyFrom_78 : decode cX7_copyFrom 78 = .ok (.getfield 80, 3) := by decide +kernel
theorem dX7_copyFrom_81 : decode cX7_copyFrom 81 = .ok (.putfield 80, 3) := by decide +kernel
theorem dX7_copyFrom_84 : decode cX7_copyFrom 84 = .ok (.aload_n 1, 1) := by decide +kernel
theorem dX7_copyFrom_85 : decode cX7_copyFrom 85 = .ok (.getfield 24, 3) := by decide +kernel
theorem dX7_copyFrom_88 : decode cX7_copyFrom 88 = .ok (.iconst 0, 1) := by decide +kernel
theorem dX7_copyFrom_89 : decode cX7_copyFrom 89 = .ok (.aload_n 0, 1) := by decide +kernel
theorem dX7_copyFrom_90 : decode cX7_copyFrom 90 = .ok (.getfield 24, 3) := by decide +kernel
theorem dX7_copyFrom_93 : decode cX7_copyFrom 93 = .ok (.iconst 0, 1) := by decide +kernel
theorem dX7_copyFrom_94 : decode cX7_copyFrom 94 = .ok (.bipush 6, 2) := by decide +kernel
theorem dX7_copyFrom_96 : decode cX7_copyFrom 96 = .ok (.invokestatic 67, 3) := by decide +kernel
theorem dX7_copyFrom_99 : decode cX7_copyFrom 99 = .ok (.aload_n 1, 1) := by decide +kernel
theorem dX7_copyFrom_100 : decode cX7_copyFrom 100 = .ok (.getfield 27, 3) := by decide +kernel
theorem dX7_copyFrom_103 : decode cX7_copyFrom 103 = .ok (.iconst 0, 1) := by decide +kernel
theorem dX7_copyFrom_104 : decode cX7_copyFrom 104 = .ok (.aload_n 0, 1) := by decide +kernel
theorem dX7_copyFrom_105 : decode cX7_copyFrom 105 = .ok (.getfield 27, 3) := by decide +kernel
theorem dX7_copyFrom_108 : decode cX7_copyFrom 108 = .ok (.iconst 0, 1) := by decide +kernel
theorem dX7_copyFrom_109 : decode cX7_copyFrom 109 = .ok (.bipush 6, 2) := by decide +kernel
theorem dX7_copyFrom_111 : decode cX7_copyFrom 111 = .ok (.invokestatic 67, 3) := by decide +kernel
theorem dX7_copyFrom_114 : decode cX7_copyFrom 114 = .ok (.aload_n 1, 1) := by decide +kernel
theorem dX7_copyFrom_115 : decode cX7_copyFrom 115 = .ok (.getfield 30, 3) := by decide +kernel
theorem dX7_copyFrom_118 : decode cX7_copyFrom 118 = .ok (.iconst 0, 1) := by decide +kernel
theorem dX7_copyFrom_119 : decode cX7_copyFrom 119 = .ok (.aload_n 0, 1) := by decide +kernel
theorem dX7_copyFrom_120 : decode cX7_copyFrom 120 = .ok (.getfield 30, 3) := by decide +kernel
theorem dX7_copyFrom_123 : decode cX7_copyFrom 123 = .ok (.iconst 0, 1) := by decide +kernel
theorem dX7_copyFrom_124 : decode cX7_copyFrom 124 = .ok (.bipush 6, 2) := by decide +kernel
theorem dX7_copyFrom_126 : decode cX7_copyFrom 126 = .ok (.invokestatic 67, 3) := by decide +kernel
theorem dX7_copyFrom_129 : decode cX7_copyFrom 129 = .ok (.aload_n 1, 1) := by decide +kernel
theorem dX7_copyFrom_130 : decode cX7_copyFrom 130 = .ok (.getfield 33, 3) := by decide +kernel
theorem dX7_copyFrom_133 : decode cX7_copyFrom 133 = .ok (.iconst 0, 1) := by decide +kernel
theorem dX7_copyFrom_134 : decode cX7_copyFrom 134 = .ok (.aload_n 0, 1) := by decide +kernel
theorem dX7_copyFrom_135 : decode cX7_copyFrom 135 = .ok (.getfield 33, 3) := by decide +kernel
theorem dX7_copyFrom_138 : decode cX7_copyFrom 138 = .ok (.iconst 0, 1) := by decide +kernel
theorem dX7_copyFrom_139 : decode cX7_copyFrom 139 = .ok (.bipush 6, 2) := by decide +kernel
theorem dX7_copyFrom_141 : decode cX7_copyFrom 141 = .ok (.invokestatic 67, 3) := by decide +kernel
theorem dX7_copyFrom_144 : decode cX7_copyFrom 144 = .ok (.aload_n 1, 1) := by decide +kernel
theorem dX7_copyFrom_145 : decode cX7_copyFrom 145 = .ok (.getfield 36, 3) := by decide +kernel
theorem dX7_copyFrom_148 : decode cX7_copyFrom 148 = .ok (.iconst 0, 1) := by decide +kernel
theorem dX7_copyFrom_149 : decode cX7_copyFrom 149 = .ok (.aload_n 0, 1) := by decide +kernel
theorem dX7_copyFrom_150 : decode cX7_copyFrom 150 = .ok (.getfield 36, 3) := by decide +kernel
theorem dX7_copyFrom_153 : decode cX7_copyFrom 153 = .ok (.iconst 0, 1) := by decide +kernel
theorem dX7_copyFrom_154 : decode cX7_copyFrom 154 = .ok (.bipush 6, 2) := by decide +kernel
theorem dX7_copyFrom_156 : decode cX7_copyFrom 156 = .ok (.invokestatic 67, 3) := by decide +kernel
theorem dX7_copyFrom_159 : decode cX7_copyFrom 159 = .ok (.aload_n 1, 1) := by decide +kernel
theorem dX7_copyFrom_160 : decode cX7_copyFrom 160 = .ok (.getfield 39, 3) := by decide +kernel
theorem dX7_copyFrom_163 : decode cX7_copyFrom 163 = .ok (.iconst 0, 1) := by decide +kernel
theorem dX7_copyFrom_164 : decode cX7_copyFrom 164 = .ok (.aload_n 0, 1) := by decide +kernel
theorem dX7_copyFrom_165 : decode cX7_copyFrom 165 = .ok (.getfield 39, 3) := by decide +kernel
theorem dX7_copyFrom_168 : decode cX7_copyFrom 168 = .ok (.iconst 0, 1) := by decide +kernel
theorem dX7_copyFrom_169 : decode cX7_copyFrom 169 = .ok (.bipush 24, 2) := by decide +kernel
theorem dX7_copyFrom_171 : decode cX7_copyFrom 171 = .ok (.invokestatic 67, 3) := by decide +kernel
theorem dX7_copyFrom_174 : decode cX7_copyFrom 174 = .ok (.aload_n 0, 1) := by decide +kernel
theorem dX7_copyFrom_175 : decode cX7_copyFrom 175 = .ok (.getfield 47, 3) := by decide +kernel
theorem dX7_copyFrom_178 : decode cX7_copyFrom 178 = .ok (.aload_n 1, 1) := by decide +kernel
theorem dX7_copyFrom_179 : decode cX7_copyFrom 179 = .ok (.getfield 47, 3) := by decide +kernel
theorem dX7_copyFrom_182 : decode cX7_copyFrom 182 = .ok (.invokevirtual 83, 3) := by decide +kernel
theorem dX7_copyFrom_185 : decode cX7_copyFrom 185 = .ok (.aload_n 0, 1) := by decide +kernel
theorem dX7_copyFrom_186 : decode cX7_copyFrom 186 = .ok (.getfield 51, 3) := by decide +kernel
theorem dX7_copyFrom_189 : decode cX7_copyFrom 189 = .ok (.aload_n 1, 1) := by decide +kernel
theorem dX7_copyFrom_190 : decode cX7_copyFrom 190 = .ok (.getfield 51, 3) := by decide +kernel
theorem dX7_copyFrom_193 : decode cX7_copyFrom 193 = .ok (.invokevirtual 83, 3) := by decide +kernel
theorem dX7_copyFrom_196 : decode cX7_copyFrom 196 = .ok (.aload_n 0, 1) := by decide +kernel
theorem dX7_copyFrom_197 : decode cX7_copyFrom 197 = .ok (.getfield 54, 3) := by decide +kernel
theorem dX7_copyFrom_200 : decode cX7_copyFrom 200 = .ok (.aload_n 1, 1) := by decide +kernel
theorem dX7_copyFrom_201 : decode cX7_copyFrom 201 = .ok (.getfield 54, 3) := by decide +kernel
theorem dX7_copyFrom_204 : decode cX7_copyFrom 204 = .ok (.invokevirtual 83, 3) := by decide +kernel
theorem dX7_copyFrom_207 : decode cX7_copyFrom 207 = .ok (.aload_n 0, 1) := by decide +kernel
theorem dX7_copyFrom_208 : decode cX7_copyFrom 208 = .ok (.aload_n 1, 1) := by decide +kernel
theorem dX7_copyFrom_209 : decode cX7_copyFrom 209 = .ok (.getfield 57, 3) := by decide +kernel
theorem dX7_copyFrom_212 : decode cX7_copyFrom 212 = .ok (.putfield 57, 3) := by decide +kernel
theorem dX7_copyFrom_215 : decode cX7_copyFrom 215 = .ok (.return_, 1) := by decide +kernel
set_option maxRecDepth 20000 in
theorem ggX7_copyFrom_X5_copyFrom : GoodIn wsX7_copyFrom wsX5_copyFrom := goodIn_r _ [26, 27, 28, 3, 4, 5, 29, 30, 31, 49, 50, 51, 52] (by decide +kernel) (by decide +kernel)
set_option maxRecDepth 20000 in
theorem gX7_copyFrom_X5_copyFrom : GoodIn wsX7_copyFrom (wsV RX7 83 RX5 yX5_copyFrom wsX5_copyFrom) := goodIn_app (goodIn_of _ (by decide +kernel)) ggX7_copyFrom_X5_copyFrom
def fX7_copyFrom (g : c_G) (s0 : Nat) (a1 : Nat) : Option (c_G) :=
  if c_isS s0 = true then (if c_isS a1 = true then (c_let (c_sr g (s0 + 1) (va_cpy (g.1 (a1 + 1)) (g.1 (s0 + 1)) ((0 : Int32)).toNatClampNeg ((0 : Int32)).toNatClampNeg ((6 : Int32)).toNatClampNeg)) fun g1 => c_let (c_sr g1 (s0 + 2) (va_cpy (g1.1 (a1 + 2)) (g1.1 (s0 + 2)) ((0 : Int32)).toNatClampNeg ((0 : Int32)).toNatClampNeg ((6 : Int32)).toNatClampNeg)) fun g2 => c_let (c_sr g2 (s0 + 3) (va_cpy (g2.1 (a1 + 3)) (g2.1 (s0 + 3)) ((0 : Int32)).toNatClampNeg ((0 : Int32)).toNatClampNeg ((6 : Int32)).toNatClampNeg)) fun g3 => c_let (c_sr g3 (s0 + 4) (va_cpy (g3.1 (a1 + 4)) (g3.1 (s0 + 4)) ((0 : Int32)).toNatClampNeg ((0 : Int32)).toNatClampNeg ((6 : Int32)).toNatClampNeg)) fun g4 => c_let (c_si g4 s0 4 (g4.1 a1 4)) fun g5 => c_let (c_si g5 s0 5 (g5.1 a1 5)) fun g6 => c_let (c_si g6 s0 6 (g6.1 a1 6)) fun g7 => c_let (c_sr g7 (s0 + 5) (va_cpy (g7.1 (a1 + 5)) (g7.1 (s0 + 5)) ((0 : Int32)).toNatClampNeg ((0 : Int32)).toNatClampNeg ((6 : Int32)).toNatClampNeg)) fun g8 => c_let (c_sr g8 (s0 + 6) (va_cpy (g8.1 (a1 + 6)) (g8.1 (s0 + 6)) ((0 : Int32)).toNatClampNeg ((0 : Int32)).toNatClampNeg ((6 : Int32)).toNatClampNeg)) fun g9 => c_let (c_sr g9 (s0 + 7) (va_cpy (g9.1 (a1 + 7)) (g9.1 (s0 + 7)) ((0 : Int32)).toNatClampNeg ((0 : Int32)).toNatClampNeg ((6 : Int32)).toNatClampNeg)) fun g10 => c_let (c_sr g10 (s0 + 8) (va_cpy (g10.1 (a1 + 8)) (g10.1 (s0 + 8)) ((0 : Int32)).toNatClampNeg ((0 : Int32)).toNatClampNeg ((6 : Int32)).toNatClampNeg)) fun g11 => c_let (c_sr g11 (s0 + 9) (va_cpy (g11.1 (a1 + 9)) (g11.1 (s0 + 9)) ((0 : Int32)).toNatClampNeg ((0 : Int32)).toNatClampNeg ((6 : Int32)).toNatClampNeg)) fun g12 => c_let (c_sr g12 (s0 + 10) (va_cpy (g12.1 (a1 + 10)) (g12.1 (s0 + 10)) ((0 : Int32)).toNatClampNeg ((0 : Int32)).toNatClampNeg ((24 : Int32)).toNatClampNeg)) fun g13 => (fX5_copyFrom g13 ((s0 + 11)) ((a1 + 11))).bind fun g15 => (fX5_copyFrom g15 ((s0 + 15)) ((a1 + 15))).bind fun g17 => (fX5_copyFrom g17 ((s0 + 19)) ((a1 + 19))).bind fun g19 => c_let (c_so g19 s0 (g19.2.2 a1)) fun g20 => some g20) else none) else none
set_option maxRecDepth 100000 in
set_option maxHeartbeats 4000000 in
theorem kX7_copyFrom {l : Launch} {D : va_G} {tc : Nat → ClassId} {ad : Nat → Nat} {A : Nat → Prop} {E : (Nat → Nat) × (Nat → Nat) × Nat} (hD : c_D A ad TC) {s0 : Nat} {a1 : Nat} {g g' : c_G} (hf : fX7_copyFrom g s0 a1 = some g') : c_Mv l yX7_copyFrom wsX7_copyFrom (c_rm 2) D tc ad A E TC ([.ref (ad s0), .ref (ad a1)] : List Value) g g' := by
  refine c_ofW (bytes := cX7_copyFrom) (maxL := 2) (ret := none) (by decide) rfl (Nat.le_of_ble_eq_true rfl) ?_
  intro p e s m below meth c ls C hP hS hl
  unfold fX7_copyFrom at hf
  obtain ⟨hq_s0, hf⟩ := c_gd hf
  obtain ⟨hq_a1, hf⟩ := c_gd hf
  obtain ⟨hx, hb, hr, hml, hts, hown, hlk, hK, hE⟩ := id C
  obtain ⟨fs0_0, fs0_1, fs0_2, fs0_3, fs0_4, fs0_5, fs0_6, fs0_7, fs0_8, fs0_9, fs0_10, fs0_11, fs0_12, fs0_13⟩ := c_isSE hq_s0
  obtain ⟨fa1_0, fa1_1, fa1_2, fa1_3, fa1_4, fa1_5, fa1_6, fa1_7, fa1_8, fa1_9, fa1_10, fa1_11, fa1_12, fa1_13⟩ := c_isSE hq_a1
  have hl : lv_has ls 2 [(0, .ref (ad s0)), (1, .ref (ad a1))] := hl
  refine lv_aload_n hx hb dX7_copyFrom_0 rfl (lv_at hl 1 rfl) ?_
  refine c_get hx hb hts i_X7_copyFrom_X7 hown hK hP a1 fa1_0 rfl 0 (by decide) (hts _ (List.mem_of_getElem? (i := 1) rfl)) (fun _ h9 => h9) rfl (v := .ref (ad (a1 + 1))) rfl dX7_copyFrom_1 ?_
  refine lv_iconst (v := (0 : Int32)) hx hb dX7_copyFrom_4 (by decide) ?_
  refine lv_aload_n hx hb dX7_copyFrom_5 rfl (lv_at hl 0 rfl) ?_
  refine c_get hx hb hts i_X7_copyFrom_X7 hown hK hP s0 fs0_0 rfl 0 (by decide) (hts _ (List.mem_of_getElem? (i := 1) rfl)) (fun _ h9 => h9) rfl (v := .ref (ad (s0 + 1))) rfl dX7_copyFrom_6 ?_
  refine lv_iconst (v := (0 : Int32)) hx hb dX7_copyFrom_9 (by decide) ?_
  refine lv_bipush (v := (6 : Int32)) hx hb dX7_copyFrom_10 (by decide) ?_
  obtain ⟨g1, eg1, hf⟩ := c_letE hf
  refine c_copyi hx hb (hml.trans hl.1.symm) hown (hts _ (List.mem_of_getElem? (i := 2) rfl)) (hts _ (List.mem_of_getElem? (i := 3) rfl)) (hts _ (List.mem_of_getElem? (i := 4) rfl)) (hts _ (List.mem_of_getElem? (i := 5) rfl)) hK hP hD hS (a1 + 1) (s0 + 1) fa1_1 fs0_1 (by decide) (by decide) (by decide) (by decide) (by decide) (Nat.le_of_ble_eq_true rfl) (Nat.le_of_ble_eq_true rfl) eg1 dX7_copyFrom_12 (fun H locs hP hS => ?_)
  refine lv_aload_n hx hb dX7_copyFrom_15 rfl (lv_at hl 1 rfl) ?_
  refine c_get hx hb hts i_X7_copyFrom_X7 hown hK hP a1 fa1_0 rfl 1 (by decide) (hts _ (List.mem_of_getElem? (i := 6) rfl)) (fun _ h9 => h9) rfl (v := .ref (ad (a1 + 2))) rfl dX7_copyFrom_16 ?_
  refine lv_iconst (v := (0 : Int32)) hx hb dX7_copyFrom_19 (by decide) ?_
  refine lv_aload_n hx hb dX7_copyFrom_20 rfl (lv_at hl 0 rfl) ?_
  refine c_get hx hb hts i_X7_copyFrom_X7 hown hK hP s0 fs0_0 rfl 1 (by decide) (hts _ (List.mem_of_getElem? (i := 6) rfl)) (fun _ h9 => h9) rfl (v := .ref (ad (s0 + 2))) rfl dX7_copyFrom_21 ?_
  refine lv_iconst (v := (0 : Int32)) hx hb dX7_copyFrom_24 (by decide) ?_
  refine lv_bipush (v := (6 : Int32)) hx hb dX7_copyFrom_25 (by decide) ?_
  obtain ⟨g2, eg2, hf⟩ := c_letE hf
  refine c_copyi hx hb (hml.trans hl.1.symm) hown (hts _ (List.mem_of_getElem? (i := 2) rfl)) (hts _ (List.mem_of_getElem? (i := 3) rfl)) (hts _ (List.mem_of_getElem? (i := 4) rfl)) (hts _ (List.mem_of_getElem? (i := 5) rfl)) hK hP hD hS (a1 + 2) (s0 + 2) fa1_2 fs0_2 (by decide) (by decide) (by decide) (by decide) (by decide) (Nat.le_of_ble_eq_true rfl) (Nat.le_of_ble_eq_true rfl) eg2 dX7_copyFrom_27 (fun H locs hP hS => ?_)
  refine lv_aload_n hx hb dX7_copyFrom_30 rfl (lv_at hl 1 rfl) ?_
  refine c_get hx hb hts i_X7_copyFrom_X7 hown hK hP a1 fa1_0 rfl 2 (by decide) (hts _ (List.mem_of_getElem? (i := 7) rfl)) (fun _ h9 => h9) rfl (v := .ref (ad (a1 + 3))) rfl dX7_copyFrom_31 ?_
  refine lv_iconst (v := (0 : Int32)) hx hb dX7_copyFrom_34 (by decide) ?_
  refine lv_aload_n hx hb dX7_copyFrom_35 rfl (lv_at hl 0 rfl) ?_
  refine c_get hx hb hts i_X7_copyFrom_X7 hown hK hP s0 fs0_0 rfl 2 (by decide) (hts _ (List.mem_of_getElem? (i := 7) rfl)) (fun _ h9 => h9) rfl (v := .ref (ad (s0 + 3))) rfl dX7_copyFrom_36 ?_
  refine lv_iconst (v := (0 : Int32)) hx hb dX7_copyFrom_39 (by decide) ?_
  refine lv_bipush (v := (6 : Int32)) hx hb dX7_copyFrom_40 (by decide) ?_
  obtain ⟨g3, eg3, hf⟩ := c_letE hf
  refine c_copyi hx hb (hml.trans hl.1.symm) hown (hts _ (List.mem_of_getElem? (i := 2) rfl)) (hts _ (List.mem_of_getElem? (i := 3) rfl)) (hts _ (List.mem_of_getElem? (i := 4) rfl)) (hts _ (List.mem_of_getElem? (i := 5) rfl)) hK hP hD hS (a1 + 3) (s0 + 3) fa1_3 fs0_3 (by decide) (by decide) (by decide) (by decide) (by decide) (Nat.le_of_ble_eq_true rfl) (Nat.le_of_ble_eq_true rfl) eg3 dX7_copyFrom_42 (fun H locs hP hS => ?_)
  refine lv_aload_n hx hb dX7_copyFrom_45 rfl (lv_at hl 1 rfl) ?_
  refine c_get hx hb hts i_X7_copyFrom_X7 hown hK hP a1 fa1_0 rfl 3 (by decide) (hts _ (List.mem_of_getElem? (i := 8) rfl)) (fun _ h9 => h9) rfl (v := .ref (ad (a1 + 4))) rfl dX7_copyFrom_46 ?_
  refine lv_iconst (v := (0 : Int32)) hx hb dX7_copyFrom_49 (by decide) ?_
  refine lv_aload_n hx hb dX7_copyFrom_50 rfl (lv_at hl 0 rfl) ?_
  refine c_get hx hb hts i_X7_copyFrom_X7 hown hK hP s0 fs0_0 rfl 3 (by decide) (hts _ (List.mem_of_getElem? (i := 8) rfl)) (fun _ h9 => h9) rfl (v := .ref (ad (s0 + 4))) rfl dX7_copyFrom_51 ?_
  refine lv_iconst (v := (0 : Int32)) hx hb dX7_copyFrom_54 (by decide) ?_
  refine lv_bipush (v := (6 : Int32)) hx hb dX7_copyFrom_55 (by decide) ?_
  obtain ⟨g4, eg4, hf⟩ := c_letE hf
  refine c_copyi hx hb (hml.trans hl.1.symm) hown (hts _ (List.mem_of_getElem? (i := 2) rfl)) (hts _ (List.mem_of_getElem? (i := 3) rfl)) (hts _ (List.mem_of_getElem? (i := 4) rfl)) (hts _ (List.mem_of_getElem? (i := 5) rfl)) hK hP hD hS (a1 + 4) (s0 + 4) fa1_4 fs0_4 (by decide) (by decide) (by decide) (by decide) (by decide) (Nat.le_of_ble_eq_true rfl) (Nat.le_of_ble_eq_true rfl) eg4 dX7_copyFrom_57 (fun H locs hP hS => ?_)
  refine lv_aload_n hx hb dX7_copyFrom_60 rfl (lv_at hl 0 rfl) ?_
  refine lv_aload_n hx hb dX7_copyFrom_61 rfl (lv_at hl 1 rfl) ?_
  refine c_get hx hb hts i_X7_copyFrom_X7 hown hK hP a1 fa1_0 rfl 4 (by decide) (hts _ (List.mem_of_getElem? (i := 9) rfl)) (fun _ h9 => h9) rfl (v := .int (g4.1 a1 4)) rfl dX7_copyFrom_62 ?_
  obtain ⟨g5, eg5, hf⟩ := c_letE hf
  refine c_put hx hb hts i_X7_copyFrom_X7 tyX7 tyX7_ok nmX7 hown hK hP hD hS s0 fs0_0 rfl 4 (by decide) (hts _ (List.mem_of_getElem? (i := 9) rfl)) (fun _ h9 => h9) rfl (ty := .int) (by decide +kernel) rfl rfl rfl eg5 dX7_copyFrom_65 (fun H locs hP hS => ?_)
  refine lv_aload_n hx hb dX7_copyFrom_68 rfl (lv_at hl 0 rfl) ?_
  refine lv_aload_n hx hb dX7_copyFrom_69 rfl (lv_at hl 1 rfl) ?_
  refine c_get hx hb hts i_X7_copyFrom_X7 hown hK hP a1 fa1_0 rfl 5 (by decide) (hts _ (List.mem_of_getElem? (i := 10) rfl)) (fun _ h9 => h9) rfl (v := .int (g5.1 a1 5)) rfl dX7_copyFrom_70 ?_
  obtain ⟨g6, eg6, hf⟩ := c_letE hf
  refine c_put hx hb hts i_X7_copyFrom_X7 tyX7 tyX7_ok nmX7 hown hK hP hD hS s0 fs0_0 rfl 5 (by decide) (hts _ (List.mem_of_getElem? (i := 10) rfl)) (fun _ h9 => h9) rfl (ty := .int) (by decide +kernel) rfl rfl rfl eg6 dX7_copyFrom_73 (fun H locs hP hS => ?_)
  refine lv_aload_n hx hb dX7_copyFrom_76 rfl (lv_at hl 0 rfl) ?_
  refine lv_aload_n hx hb dX7_copyFrom_77 rfl (lv_at hl 1 rfl) ?_
  refine c_get hx hb hts i_X7_copyFrom_X7 hown hK hP a1 fa1_0 rfl 6 (by decide) (hts _ (List.mem_of_getElem? (i := 11) rfl)) (fun _ h9 => h9) rfl (v := .int (g6.1 a1 6)) rfl dX7_copyFrom_78 ?_
  obtain ⟨g7, eg7, hf⟩ := c_letE hf
  refine c_put hx hb hts i_X7_copyFrom_X7 tyX7 tyX7_ok nmX7 hown hK hP hD hS s0 fs0_0 rfl 6 (by decide) (hts _ (List.mem_of_getElem? (i := 11) rfl)) (fun _ h9 => h9) rfl (ty := .int) (by decide +kernel) rfl rfl rfl eg7 dX7_copyFrom_81 (fun H locs hP hS => ?_)
  refine lv_aload_n hx hb dX7_copyFrom_84 rfl (lv_at hl 1 rfl) ?_
  refine c_get hx hb hts i_X7_copyFrom_X7 hown hK hP a1 fa1_0 rfl 7 (by decide) (hts _ (List.mem_of_getElem? (i := 12) rfl)) (fun _ h9 => h9) rfl (v := .ref (ad (a1 + 5))) rfl dX7_copyFrom_85 ?_
  refine lv_iconst (v := (0 : Int32)) hx hb dX7_copyFrom_88 (by decide) ?_
  refine lv_aload_n hx hb dX7_copyFrom_89 rfl (lv_at hl 0 rfl) ?_
  refine c_get hx hb hts i_X7_copyFrom_X7 hown hK hP s0 fs0_0 rfl 7 (by decide) (hts _ (List.mem_of_getElem? (i := 12) rfl)) (fun _ h9 => h9) rfl (v := .ref (ad (s0 + 5))) rfl dX7_copyFrom_90 ?_
  refine lv_iconst (v := (0 : Int32)) hx hb dX7_copyFrom_93 (by decide) ?_
  refine lv_bipush (v := (6 : Int32)) hx hb dX7_copyFrom_94 (by decide) ?_
  obtain ⟨g8, eg8, hf⟩ := c_letE hf
  refine c_copyi hx hb (hml.trans hl.1.symm) hown (hts _ (List.mem_of_getElem? (i := 2) rfl)) (hts _ (List.mem_of_getElem? (i := 3) rfl)) (hts _ (List.mem_of_getElem? (i := 4) rfl)) (hts _ (List.mem_of_getElem? (i := 5) rfl)) hK hP hD hS (a1 + 5) (s0 + 5) fa1_5 fs0_5 (by decide) (by decide) (by decide) (by decide) (by decide) (Nat.le_of_ble_eq_true rfl) (Nat.le_of_ble_eq_true rfl) eg8 dX7_copyFrom_96 (fun H locs hP hS => ?_)
  refine lv_aload_n hx hb dX7_copyFrom_99 rfl (lv_at hl 1 rfl) ?_
  refine c_get hx hb hts i_X7_copyFrom_X7 hown hK hP a1 fa1_0 rfl 8 (by decide) (hts _ (List.mem_of_getElem? (i := 13) rfl)) (fun _ h9 => h9) rfl (v := .ref (ad (a1 + 6))) rfl dX7_copyFrom_100 ?_
  refine lv_iconst (v := (0 : Int32)) hx hb dX7_copyFrom_103 (by decide) ?_
  refine lv_aload_n hx hb dX7_copyFrom_104 rfl (lv_at hl 0 rfl) ?_
  refine c_get hx hb hts i_X7_copyFrom_X7 hown hK hP s0 fs0_0 rfl 8 (by decide) (hts _ (List.mem_of_getElem? (i := 13) rfl)) (fun _ h9 => h9) rfl (v := .ref (ad (s0 + 6))) rfl dX7_copyFrom_105 ?_
  refine lv_iconst (v := (0 : Int32)) hx hb dX7_copyFrom_108 (by decide) ?_
  refine lv_bipush (v := (6 : Int32)) hx hb dX7_copyFrom_109 (by decide) ?_
  obtain ⟨g9, eg9, hf⟩ := c_letE hf
  refine c_copyi hx hb (hml.trans hl.1.symm) hown (hts _ (List.mem_of_getElem? (i := 2) rfl)) (hts _ (List.mem_of_getElem? (i := 3) rfl)) (hts _ (List.mem_of_getElem? (i := 4) rfl)) (hts _ (List.mem_of_getElem? (i := 5) rfl)) hK hP hD hS (a1 + 6) (s0 + 6) fa1_6 fs0_6 (by decide) (by decide) (by decide) (by decide) (by decide) (Nat.le_of_ble_eq_true rfl) (Nat.le_of_ble_eq_true rfl) eg9 dX7_copyFrom_111 (fun H locs hP hS => ?_)
  refine lv_aload_n hx hb dX7_copyFrom_114 rfl (lv_at hl 1 rfl) ?_
  refine c_get hx hb hts i_X7_copyFrom_X7 hown hK hP a1 fa1_0 rfl 9 (by decide) (hts _ (List.mem_of_getElem? (i := 14) rfl)) (fun _ h9 => h9) rfl (v := .ref (ad (a1 + 7))) rfl dX7_copyFrom_115 ?_
  refine lv_iconst (v := (0 : Int32)) hx hb dX7_copyFrom_118 (by decide) ?_
  refine lv_aload_n hx hb dX7_copyFrom_119 rfl (lv_at hl 0 rfl) ?_
  refine c_get hx hb hts i_X7_copyFrom_X7 hown hK hP s0 fs0_0 rfl 9 (by decide) (hts _ (List.mem_of_getElem? (i := 14) rfl)) (fun _ h9 => h9) rfl (v := .ref (ad (s0 + 7))) rfl dX7_copyFrom_120 ?_
  refine lv_iconst (v := (0 : Int32)) hx hb dX7_copyFrom_123 (by decide) ?_
  refine lv_bipush (v := (6 : Int32)) hx hb dX7_copyFrom_124 (by decide) ?_
  obtain ⟨g10, eg10, hf⟩ := c_letE hf
  refine c_copyi hx hb (hml.trans hl.1.symm) hown (hts _ (List.mem_of_getElem? (i := 2) rfl)) (hts _ (List.mem_of_getElem? (i := 3) rfl)) (hts _ (List.mem_of_getElem? (i := 4) rfl)) (hts _ (List.mem_of_getElem? (i := 5) rfl)) hK hP hD hS (a1 + 7) (s0 + 7) fa1_7 fs0_7 (by decide) (by decide) (by decide) (by decide) (by decide) (Nat.le_of_ble_eq_true rfl) (Nat.le_of_ble_eq_true rfl) eg10 dX7_copyFrom_126 (fun H locs hP hS => ?_)
  refine lv_aload_n hx hb dX7_copyFrom_129 rfl (lv_at hl 1 rfl) ?_
  refine c_get hx hb hts i_X7_copyFrom_X7 hown hK hP a1 fa1_0 rfl 10 (by decide) (hts _ (List.mem_of_getElem? (i := 15) rfl)) (fun _ h9 => h9) rfl (v := .ref (ad (a1 + 8))) rfl dX7_copyFrom_130 ?_
  refine lv_iconst (v := (0 : Int32)) hx hb dX7_copyFrom_133 (by decide) ?_
  refine lv_aload_n hx hb dX7_copyFrom_134 rfl (lv_at hl 0 rfl) ?_
  refine c_get hx hb hts i_X7_copyFrom_X7 hown hK hP s0 fs0_0 rfl 10 (by decide) (hts _ (List.mem_of_getElem? (i := 15) rfl)) (fun _ h9 => h9) rfl (v := .ref (ad (s0 + 8))) rfl dX7_copyFrom_135 ?_
  refine lv_iconst (v := (0 : Int32)) hx hb dX7_copyFrom_138 (by decide) ?_
  refine lv_bipush (v := (6 : Int32)) hx hb dX7_copyFrom_139 (by decide) ?_
  obtain ⟨g11, eg11, hf⟩ := c_letE hf
  refine c_copyi hx hb (hml.trans hl.1.symm) hown (hts _ (List.mem_of_getElem? (i := 2) rfl)) (hts _ (List.mem_of_getElem? (i := 3) rfl)) (hts _ (List.mem_of_getElem? (i := 4) rfl)) (hts _ (List.mem_of_getElem? (i := 5) rfl)) hK hP hD hS (a1 + 8) (s0 + 8) fa1_8 fs0_8 (by decide) (by decide) (by decide) (by decide) (by decide) (Nat.le_of_ble_eq_true rfl) (Nat.le_of_ble_eq_true rfl) eg11 dX7_copyFrom_141 (fun H locs hP hS => ?_)
  refine lv_aload_n hx hb dX7_copyFrom_144 rfl (lv_at hl 1 rfl) ?_
  refine c_get hx hb hts i_X7_copyFrom_X7 hown hK hP a1 fa1_0 rfl 11 (by decide) (hts _ (List.mem_of_getElem? (i := 16) rfl)) (fun _ h9 => h9) rfl (v := .ref (ad (a1 + 9))) rfl dX7_copyFrom_145 ?_
  refine lv_iconst (v := (0 : Int32)) hx hb dX7_copyFrom_148 (by decide) ?_
  refine lv_aload_n hx hb dX7_copyFrom_149 rfl (lv_at hl 0 rfl) ?_
  refine c_get hx hb hts i_X7_copyFrom_X7 hown hK hP s0 fs0_0 rfl 11 (by decide) (hts _ (List.mem_of_getElem? (i := 16) rfl)) (fun _ h9 => h9) rfl (v := .ref (ad (s0 + 9))) rfl dX7_copyFrom_150 ?_
  refine lv_iconst (v := (0 : Int32)) hx hb dX7_copyFrom_153 (by decide) ?_
  refine lv_bipush (v := (6 : Int32)) hx hb dX7_copyFrom_154 (by decide) ?_
  obtain ⟨g12, eg12, hf⟩ := c_letE hf
  refine c_copyi hx hb (hml.trans hl.1.symm) hown (hts _ (List.mem_of_getElem? (i := 2) rfl)) (hts _ (List.mem_of_getElem? (i := 3) rfl)) (hts _ (List.mem_of_getElem? (i := 4) rfl)) (hts _ (List.mem_of_getElem? (i := 5) rfl)) hK hP hD hS (a1 + 9) (s0 + 9) fa1_9 fs0_9 (by decide) (by decide) (by decide) (by decide) (by decide) (Nat.le_of_ble_eq_true rfl) (Nat.le_of_ble_eq_true rfl) eg12 dX7_copyFrom_156 (fun H locs hP hS => ?_)
  refine lv_aload_n hx hb dX7_copyFrom_159 rfl (lv_at hl 1 rfl) ?_
  refine c_get hx hb hts i_X7_copyFrom_X7 hown hK hP a1 fa1_0 rfl 12 (by decide) (hts _ (List.mem_of_getElem? (i := 17) rfl)) (fun _ h9 => h9) rfl (v := .ref (ad (a1 + 10))) rfl dX7_copyFrom_160 ?_
  refine lv_iconst (v := (0 : Int32)) hx hb dX7_copyFrom_163 (by decide) ?_
  refine lv_aload_n hx hb dX7_copyFrom_164 rfl (lv_at hl 0 rfl) ?_
  refine c_get hx hb hts i_X7_copyFrom_X7 hown hK hP s0 fs0_0 rfl 12 (by decide) (hts _ (List.mem_of_getElem? (i := 17) rfl)) (fun _ h9 => h9) rfl (v := .ref (ad (s0 + 10))) rfl dX7_copyFrom_165 ?_
  refine lv_iconst (v := (0 : Int32)) hx hb dX7_copyFrom_168 (by decide) ?_
  refine lv_bipush (v := (24 : Int32)) hx hb dX7_copyFrom_169 (by decide) ?_
  obtain ⟨g13, eg13, hf⟩ := c_letE hf
  refine c_copyi hx hb (hml.trans hl.1.symm) hown (hts _ (List.mem_of_getElem? (i := 2) rfl)) (hts _ (List.mem_of_getElem? (i := 3) rfl)) (hts _ (List.mem_of_getElem? (i := 4) rfl)) (hts _ (List.mem_of_getElem? (i := 5) rfl)) hK hP hD hS (a1 + 10) (s0 + 10) fa1_10 fs0_10 (by decide) (by decide) (by decide) (by decide) (by decide) (Nat.le_of_ble_eq_true rfl) (Nat.le_of_ble_eq_true rfl) eg13 dX7_copyFrom_171 (fun H locs hP hS => ?_)
  refine lv_aload_n hx hb dX7_copyFrom_174 rfl (lv_at hl 0 rfl) ?_
  refine c_get hx hb hts i_X7_copyFrom_X7 hown hK hP s0 fs0_0 rfl 13 (by decide) (hts _ (List.mem_of_getElem? (i := 18) rfl)) (fun _ h9 => h9) rfl (v := .ref (ad (s0 + 11))) rfl dX7_copyFrom_175 ?_
  refine lv_aload_n hx hb dX7_copyFrom_178 rfl (lv_at hl 1 rfl) ?_
  refine c_get hx hb hts i_X7_copyFrom_X7 hown hK hP a1 fa1_0 rfl 13 (by decide) (hts _ (List.mem_of_getElem? (i := 18) rfl)) (fun _ h9 => h9) rfl (v := .ref (ad (a1 + 11))) rfl dX7_copyFrom_179 ?_
  obtain ⟨g15, hc14, hf⟩ := c_bd hf
  refine c_gov (va_runV (As := [.ref (ad (a1 + 11))]) (rest := []) ⟨hx, hb, hml, hown, hts⟩ (kX5_copyFrom hD hc14) (cwV 1 hts gX7_copyFrom_X5_copyFrom rfl rfl rfl (by decide +kernel) ⟨Nat.le_of_ble_eq_true rfl, Nat.le_of_ble_eq_true rfl⟩) (c_preV hK hP hE hS fs0_11 rfl) rfl rfl hl.1 rfl (lv_room (Nat.le_of_ble_eq_true rfl)) dX7_copyFrom_182 ⟨Nat.zero_le _, Nat.zero_le _⟩) hS (fun H locs hP hS => ?_)
  refine lv_aload_n hx hb dX7_copyFrom_185 rfl (lv_at hl 0 rfl) ?_
  refine c_get hx hb hts i_X7_copyFrom_X7 hown hK hP s0 fs0_0 rfl 14 (by decide) (hts _ (List.mem_of_getElem? (i := 19) rfl)) (fun _ h9 => h9) rfl (v := .ref (ad (s0 + 15))) rfl dX7_copyFrom_186 ?_
  refine lv_aload_n hx hb dX7_copyFrom_189 rfl (lv_at hl 1 rfl) ?_
  refine c_get hx hb hts i_X7_copyFrom_X7 hown hK hP a1 fa1_0 rfl 14 (by decide) (hts _ (List.mem_of_getElem? (i := 19) rfl)) (fun _ h9 => h9) rfl (v := .ref (ad (a1 + 15))) rfl dX7_copyFrom_190 ?_
  obtain ⟨g17, hc16, hf⟩ := c_bd hf
  refine c_gov (va_runV (As := [.ref (ad (a1 + 15))]) (rest := []) ⟨hx, hb, hml, hown, hts⟩ (kX5_copyFrom hD hc16) (cwV 1 hts gX7_copyFrom_X5_copyFrom rfl rfl rfl (by decide +kernel) ⟨Nat.le_of_ble_eq_true rfl, Nat.le_of_ble_eq_true rfl⟩) (c_preV hK hP hE hS fs0_12 rfl) rfl rfl hl.1 rfl (lv_room (Nat.le_of_ble_eq_true rfl)) dX7_copyFrom_193 ⟨Nat.zero_le _, Nat.zero_le _⟩) hS (fun H locs hP hS => ?_)
  refine lv_aload_n hx hb dX7_copyFrom_196 rfl (lv_at hl 0 rfl) ?_
  refine c_get hx hb hts i_X7_copyFrom_X7 hown hK hP s0 fs0_0 rfl 15 (by decide) (hts _ (List.mem_of_getElem? (i := 20) rfl)) (fun _ h9 => h9) rfl (v := .ref (ad (s0 + 19))) rfl dX7_copyFrom_197 ?_
  refine lv_aload_n hx hb dX7_copyFrom_200 rfl (lv_at hl 1 rfl) ?_
  refine c_get hx hb hts i_X7_copyFrom_X7 hown hK hP a1 fa1_0 rfl 15 (by decide) (hts _ (List.mem_of_getElem? (i := 20) rfl)) (fun _ h9 => h9) rfl (v := .ref (ad (a1 + 19))) rfl dX7_copyFrom_201 ?_
  obtain ⟨g19, hc18, hf⟩ := c_bd hf
  refine c_gov (va_runV (As := [.ref (ad (a1 + 19))]) (rest := []) ⟨hx, hb, hml, hown, hts⟩ (kX5_copyFrom hD hc18) (cwV 1 hts gX7_copyFrom_X5_copyFrom rfl rfl rfl (by decide +kernel) ⟨Nat.le_of_ble_eq_true rfl, Nat.le_of_ble_eq_true rfl⟩) (c_preV hK hP hE hS fs0_13 rfl) rfl rfl hl.1 rfl (lv_room (Nat.le_of_ble_eq_true rfl)) dX7_copyFrom_204 ⟨Nat.zero_le _, Nat.zero_le _⟩) hS (fun H locs hP hS => ?_)
  refine lv_aload_n hx hb dX7_copyFrom_207 rfl (lv_at hl 0 rfl) ?_
  refine lv_aload_n hx hb dX7_copyFrom_208 rfl (lv_at hl 1 rfl) ?_
  refine c_get hx hb hts i_X7_copyFrom_X7 hown hK hP a1 fa1_0 rfl 16 (by decide) (hts _ (List.mem_of_getElem? (i := 21) rfl)) (fun _ h9 => h9) rfl (v := .ref (ad (g19.2.2 a1))) rfl dX7_copyFrom_209 ?_
  obtain ⟨g20, eg20, hf⟩ := c_letE hf
  refine c_putR hx hb hts i_X7_copyFrom_X7 tyX7 tyX7_ok nmX7 hown hK hP hD hS s0 fs0_0 rfl 16 (by decide) (hts _ (List.mem_of_getElem? (i := 21) rfl)) (fun _ h9 => h9) rfl (ty := .object "NamingElders$Valley") (x := (g19.2.2 a1)) (by decide +kernel) rfl rfl rfl c_holS eg20 dX7_copyFrom_212 (fun H locs hP hS => ?_)
  exact c_vret hx hb hr hlk hP hS (Option.some.inj hf) dX7_copyFrom_215
theorem i_X7_addChild_X7 : ∀ w ∈ u_ws RX7 TX7 17, w ∈ wsX7_addChild := c_inP [8, 9, 10, 11, 12, 13, 14, 15, 16, 17, 18, 19, 20, 21, 22, 23, 24] (by decide +kernel)
theorem dX7_addChild_0 : decode cX7_addChild 0 = .ok (.aload_n 0, 1) := by decide +kernel
theorem dX7_addChild_1 : decode cX7_addChild 1 = .ok (.getfield 80, 3) := by decide +kernel
theorem dX7_addChild_4 : decode cX7_addChild 4 = .ok (.istore 4, 2) := by decide +kernel
theorem dX7_addChild_6 : decode cX7_addChild 6 = .ok (.aload_n 0, 1) := by decide +kernel
theorem dX7_addChild_7 : decode cX7_addChild 7 = .ok (.getfield 24, 3) := by decide +kernel
theorem dX7_addChild_10 : decode cX7_addChild 10 = .ok (.iload 4, 2) := by decide +kernel
theorem dX7_addChild_12 : decode cX7_addChild 12 = .ok (.iload_n 1, 1) := by decide +kernel
theorem dX7_addChild_13 : decode cX7_addChild 13 = .ok (.iastore, 1) := by decide +kernel
theorem dX7_addChild_14 : decode cX7_addChild 14 = .ok (.aload_n 0, 1) := by decide +kernel
theorem dX7_addChild_15 : decode cX7_addChild 15 = .ok (.getfield 27, 3) := by decide +kernel
theorem dX7_addChild_18 : decode cX7_addChild 18 = .ok (.iload 4, 2) := by decide +kernel
theorem dX7_addChild_20 : decode cX7_addChild 20 = .ok (.iload_n 2, 1) := by decide +kernel
theorem dX7_addChild_21 : decode cX7_addChild 21 = .ok (.iastore, 1) := by decide +kernel
theorem dX7_addChild_22 : decode cX7_addChild 22 = .ok (.aload_n 0, 1) := by decide +kernel
theorem dX7_addChild_23 : decode cX7_addChild 23 = .ok (.getfield 30, 3) := by decide +kernel
theorem dX7_addChild_26 : decode cX7_addChild 26 = .ok (.iload 4, 2) := by decide +kernel
theorem dX7_addChild_28 : decode cX7_addChild 28 = .ok (.iload_n 3, 1) := by decide +kernel
theorem dX7_addChild_29 : decode cX7_addChild 29 = .ok (.iastore, 1) := by decide +kernel
theorem dX7_addChild_30 : decode cX7_addChild 30 = .ok (.aload_n 0, 1) := by decide +kernel
theorem dX7_addChild_31 : decode cX7_addChild 31 = .ok (.getfield 33, 3) := by decide +kernel
theorem dX7_addChild_34 : decode cX7_addChild 34 = .ok (.iload 4, 2) := by decide +kernel
theorem dX7_addChild_36 : decode cX7_addChild 36 = .ok (.iconst 0, 1) := by decide +kernel
theorem dX7_addChild_37 : decode cX7_addChild 37 = .ok (.iastore, 1) := by decide +kernel
theorem dX7_addChild_38 : decode cX7_addChild 38 = .ok (.aload_n 0, 1) := by decide +kernel
theorem dX7_addChild_39 : decode cX7_addChild 39 = .ok (.getfield 36, 3) := by decide +kernel
theorem dX7_addChild_42 : decode cX7_addChild 42 = .ok (.iload 4, 2) := by decide +kernel
theorem dX7_addChild_44 : decode cX7_addChild 44 = .ok (.bipush (-5), 2) := by decide +kernel
theorem dX7_addChild_46 : decode cX7_addChild 46 = .ok (.iastore, 1) := by decide +kernel
theorem dX7_addChild_47 : decode cX7_addChild 47 = .ok (.iconst 0, 1) := by decide +kernel
theorem dX7_addChild_48 : decode cX7_addChild 48 = .ok (.istore 5, 2) := by decide +kernel
theorem dX7_addChild_50 : decode cX7_addChild 50 = .ok (.iload 5, 2) := by decide +kernel
theorem dX7_addChild_52 : decode cX7_addChild 52 = .ok (.iconst 4, 1) := by decide +kernel
theorem dX7_addChild_53 : decode cX7_addChild 53 = .ok (.if_icmp .ge 22, 3) := by decide +kernel
theorem dX7_addChild_56 : decode cX7_addChild 56 = .ok (.aload_n 0, 1) := by decide +kernel
theorem dX7_addChild_57 : decode cX7_addChild 57 = .ok (.getfield 39, 3) := by decide +kernel
theorem dX7_addChild_60 : decode cX7_addChild 60 = .ok (.iload 4, 2) := by decide +kernel
theorem dX7_addChild_62 : decode cX7_addChild 62 = .ok (.iconst 4, 1) := by decide +kernel
theorem dX7_addChild_63 : decode cX7_addChild 63 = .ok (.imul, 1) := by decide +kernel
theorem dX7_addChild_64 : decode cX7_addChild 64 = .ok (.iload 5, 2) := by decide +kernel
theorem dX7_addChild_66 : decode cX7_addChild 66 = .ok (.iadd, 1) := by decide +kernel
theorem dX7_addChild_67 : decode cX7_addChild 67 = .ok (.iconst 0, 1) := by decide +kernel
theorem dX7_addChild_68 : decode cX7_addChild 68 = .ok (.iastore, 1) := by decide +kernel
theorem dX7_addChild_69 : decode cX7_addChild 69 = .ok (.iinc 5 1, 3) := by decide +kernel
theorem dX7_addChild_72 : decode cX7_addChild 72 = .ok (.goto (-22), 3) := by decide +kernel
theorem dX7_addChild_75 : decode cX7_addChild 75 = .ok (.aload_n 0, 1) := by decide +kernel
theorem dX7_addChild_76 : decode cX7_addChild 76 = .ok (.dup, 1) := by decide +kernel
theorem dX7_addChild_77 : decode cX7_addChild 77 = .ok (.getfield 80, 3) := by decide +kernel
theorem dX7_addChild_80 : decode cX7_addChild 80 = .ok (.iconst 1, 1) := by decide +kernel
theorem dX7_addChild_81 : decode cX7_addChild 81 = .ok (.iadd, 1) := by decide +kernel
theorem dX7_addChild_82 : decode cX7_addChild 82 = .ok (.putfield 80, 3) := by decide +kernel
theorem dX7_addChild_85 : decode cX7_addChild 85 = .ok (.iload 4, 2) := by decide +kernel
theorem dX7_addChild_87 : decode cX7_addChild 87 = .ok (.ireturn, 1) := by decide +kernel
def fX7_addChild_50  (s0 : Nat) (a1 : Int32) (a2 : Int32) (a3 : Int32) : Nat → Int32 → Int32 → c_G → Option (c_G × Int32)
  | 0, _, _, _ => none
  | n + 1, x4, x5, g => if (4 : Int32) ≤ x5 then (c_let (((g.1 s0 6) + (1 : Int32))) fun v50002 => c_let (c_si g s0 6 v50002) fun g50003 => some (g50003, x4)) else (if c_in (((x4 * (4 : Int32)) + x5)) (24) = true then c_let (c_si g (s0 + 10) (((x4 * (4 : Int32)) + x5)).toNatClampNeg (0 : Int32)) fun g50005 => c_let (x5 + (1 : Int32)) fun v50006 => (fX7_addChild_50 s0 a1 a2 a3 n) x4 v50006 g50005 else none)
set_option maxRecDepth 100000 in
set_option maxHeartbeats 4000000 in
theorem jX7_addChild_50 {p : Program} {l : Launch} {e : Env} {s : State} {m : MethodId} {below : List Frame} {meth : Method} {c : Code} {D : va_G} {tc : Nat → ClassId} {ad : Nat → Nat} {A : Nat → Prop} {E : (Nat → Nat) × (Nat → Nat) × Nat} {s0 : Nat} {a1 : Int32} {a2 : Int32} {a3 : Int32} {g' : c_G} {r : Int32} (C : c_C p s m meth c D tc A E RX7 wsX7_addChild cX7_addChild 6 (some .int) ([.ref (ad s0), .int a1, .int a2, .int a3] : List Value).toArray) (hD : c_D A ad TC) (hq_s0 : c_isS s0 = true)  : ∀ (n : Nat) (x4 : Int32) (x5 : Int32) (g : c_G), fX7_addChild_50 s0 a1 a2 a3 n x4 x5 g = some (g', r) → ∀ (H : Heap) (locs : List Loc), va_P D vwCl (c_ws tc ad TC g) H → va_S A s.heap H locs → ∀ ls : Array Slot, lv_has ls 6 [(0, .ref (ad s0)), (4, .int x4), (5, .int x5)] → W p l e (c_rm 0) s m ([.ref (ad s0), .int a1, .int a2, .int a3] : List Value).toArray below meth c H locs 0 0 (MQ below (va_Qi (fun (x : Int32) (_ : Unit) => x = r) (fun _ t => va_P D vwCl (c_ws tc ad TC g') t.heap) A) ([.ref (ad s0), .int a1, .int a2, .int a3] : List Value).toArray s 0 0 A) (F0 m 50 ls []) := by
  obtain ⟨hx, hb, hr, hml, hts, hown, hlk, hK, hE⟩ := id C
  obtain ⟨fs0_0, fs0_1, fs0_2, fs0_3, fs0_4, fs0_5, fs0_6, fs0_7, fs0_8, fs0_9, fs0_10, fs0_11, fs0_12, fs0_13⟩ := c_isSE hq_s0
  intro n
  induction n with
  | zero =>
    intro x4 x5 g hf
    cases hf
  | succ n ih =>
    intro x4 x5 g hf H locs hP hS ls hl
    unfold fX7_addChild_50 at hf
    refine lv_iload hx hb dX7_addChild_50 (lv_at hl 2 rfl) ?_
    refine lv_iconst (v := (4 : Int32)) hx hb dX7_addChild_52 (by decide) ?_
    refine lv_icmp_ge (tgt := 75) hx hb dX7_addChild_53 (by decide) (fun c50001 => ?_) (fun c50001 => ?_)
    · have hf := c_it c50001 hf
      refine lv_aload_n hx hb dX7_addChild_75 rfl (lv_at hl 0 rfl) ?_
      refine lv_dup hx hb dX7_addChild_76 rfl ?_
      refine c_get hx hb hts i_X7_addChild_X7 hown hK hP s0 fs0_0 rfl 6 (by decide) (hts _ (List.mem_of_getElem? (i := 1) rfl)) (fun _ h9 => h9) rfl (v := .int (g.1 s0 6)) rfl dX7_addChild_77 ?_
      refine lv_iconst (v := (1 : Int32)) hx hb dX7_addChild_80 (by decide) ?_
      refine lv_iadd hx hb dX7_addChild_81 ?_
      obtain ⟨v50002, ev50002, hf⟩ := c_letE hf
      refine c_topi ev50002 ?_
      obtain ⟨g50003, eg50003, hf⟩ := c_letE hf
      refine c_put hx hb hts i_X7_addChild_X7 tyX7 tyX7_ok nmX7 hown hK hP hD hS s0 fs0_0 rfl 6 (by decide) (hts _ (List.mem_of_getElem? (i := 1) rfl)) (fun _ h9 => h9) rfl (ty := .int) (by decide +kernel) rfl rfl rfl eg50003 dX7_addChild_82 (fun H locs hP hS => ?_)
      refine lv_iload hx hb dX7_addChild_85 (lv_at hl 1 rfl) ?_
      exact c_iret hx hb hr hlk hP hS rfl (c_inj hf) dX7_addChild_87
    · have hf := c_ie c50001 hf
      refine lv_aload_n hx hb dX7_addChild_56 rfl (lv_at hl 0 rfl) ?_
      refine c_get hx hb hts i_X7_addChild_X7 hown hK hP s0 fs0_0 rfl 12 (by decide) (hts _ (List.mem_of_getElem? (i := 7) rfl)) (fun _ h9 => h9) rfl (v := .ref (ad (s0 + 10))) rfl dX7_addChild_57 ?_
      refine lv_iload hx hb dX7_addChild_60 (lv_at hl 1 rfl) ?_
      refine lv_iconst (v := (4 : Int32)) hx hb dX7_addChild_62 (by decide) ?_
      refine lv_imul hx hb dX7_addChild_63 ?_
      refine lv_iload hx hb dX7_addChild_64 (lv_at hl 2 rfl) ?_
      refine lv_iadd hx hb dX7_addChild_66 ?_
      refine lv_iconst (v := (0 : Int32)) hx hb dX7_addChild_67 (by decide) ?_
      obtain ⟨hi50004, hf⟩ := c_gd hf
      obtain ⟨g50005, eg50005, hf⟩ := c_letE hf
      refine c_iast (j := (((x4 * (4 : Int32)) + x5)).toNatClampNeg) hx hb hK hP hD hS (s0 + 10) fs0_10 rfl (c_inV hi50004) eg50005 dX7_addChild_68 (fun H locs hP hS => ?_)
      obtain ⟨v50006, ev50006, hf⟩ := c_letE hf
      refine lv_iinc (v := v50006) (lv' := [(5, .int v50006), (0, .ref (ad s0)), (4, .int x4)]) hx hb dX7_addChild_69 hl (k := 2) rfl (by rw [ev50006]; rfl) (by decide) rfl (fun ls hl => ?_)
      refine lv_goto (tgt := 50) hx hb dX7_addChild_72 (by decide) ?_
      exact ih x4 v50006 g50005 hf _ _ hP hS _ (lv_sub hl [1, 2, 0] rfl)
def fX7_addChild (g : c_G) (s0 : Nat) (a1 : Int32) (a2 : Int32) (a3 : Int32) : Option (c_G × Int32) :=
  if c_isS s0 = true then (if c_in ((g.1 s0 6)) (6) = true then c_let (c_si g (s0 + 5) ((g.1 s0 6)).toNatClampNeg a1) fun g2 => c_let (c_si g2 (s0 + 6) ((g.1 s0 6)).toNatClampNeg a2) fun g3 => c_let (c_si g3 (s0 + 7) ((g.1 s0 6)).toNatClampNeg a3) fun g4 => c_let (c_si g4 (s0 + 8) ((g.1 s0 6)).toNatClampNeg (0 : Int32)) fun g5 => c_let (c_si g5 (s0 + 9) ((g.1 s0 6)).toNatClampNeg (-5 : Int32)) fun g6 => fX7_addChild_50 s0 a1 a2 a3 c_F ((g.1 s0 6)) ((0 : Int32)) g6 else none) else none
set_option maxRecDepth 100000 in
set_option maxHeartbeats 4000000 in
theorem kX7_addChild {l : Launch} {D : va_G} {tc : Nat → ClassId} {ad : Nat → Nat} {A : Nat → Prop} {E : (Nat → Nat) × (Nat → Nat) × Nat} (hD : c_D A ad TC) {s0 : Nat} {a1 : Int32} {a2 : Int32} {a3 : Int32} {g g' : c_G} {r : Int32} (hf : fX7_addChild g s0 a1 a2 a3 = some (g', r)) : c_Mi l yX7_addChild wsX7_addChild (c_rm 0) D tc ad A E TC ([.ref (ad s0), .int a1, .int a2, .int a3] : List Value) g g' r := by
  refine c_ofW (bytes := cX7_addChild) (maxL := 6) (ret := (some .int)) (by decide) rfl (Nat.le_of_ble_eq_true rfl) ?_
  intro p e s m below meth c ls C hP hS hl
  unfold fX7_addChild at hf
  obtain ⟨hq_s0, hf⟩ := c_gd hf
  obtain ⟨hx, hb, hr, hml, hts, hown, hlk, hK, hE⟩ := id C
  obtain ⟨fs0_0, fs0_1, fs0_2, fs0_3, fs0_4, fs0_5, fs0_6, fs0_7, fs0_8, fs0_9, fs0_10, fs0_11, fs0_12, fs0_13⟩ := c_isSE hq_s0
  have hl : lv_has ls 6 [(0, .ref (ad s0)), (1, .int a1), (2, .int a2), (3, .int a3)] := hl
  refine lv_aload_n hx hb dX7_addChild_0 rfl (lv_at hl 0 rfl) ?_
  refine c_get hx hb hts i_X7_addChild_X7 hown hK hP s0 fs0_0 rfl 6 (by decide) (hts _ (List.mem_of_getElem? (i := 1) rfl)) (fun _ h9 => h9) rfl (v := .int (g.1 s0 6)) rfl dX7_addChild_1 ?_
  refine lv_istore (lv' := [(4, .int (g.1 s0 6)), (0, .ref (ad s0)), (1, .int a1), (2, .int a2), (3, .int a3)]) hx hb dX7_addChild_4 hl (by decide) rfl (fun ls hl => ?_)
  refine lv_aload_n hx hb dX7_addChild_6 rfl (lv_at hl 1 rfl) ?_
  refine c_get hx hb hts i_X7_addChild_X7 hown hK hP s0 fs0_0 rfl 7 (by decide) (hts _ (List.mem_of_getElem? (i := 2) rfl)) (fun _ h9 => h9) rfl (v := .ref (ad (s0 + 5))) rfl dX7_addChild_7 ?_
  refine lv_iload hx hb dX7_addChild_10 (lv_at hl 0 rfl) ?_
  refine lv_iload_n hx hb dX7_addChild_12 rfl (lv_at hl 2 rfl) ?_
  obtain ⟨hi1, hf⟩ := c_gd hf
  obtain ⟨g2, eg2, hf⟩ := c_letE hf
  refine c_iast (j := ((g.1 s0 6)).toNatClampNeg) hx hb hK hP hD hS (s0 + 5) fs0_5 rfl (c_inV hi1) eg2 dX7_addChild_13 (fun H locs hP hS => ?_)
  refine lv_aload_n hx hb dX7_addChild_14 rfl (lv_at hl 1 rfl) ?_
  refine c_get hx hb hts i_X7_addChild_X7 hown hK hP s0 fs0_0 rfl 8 (by decide) (hts _ (List.mem_of_getElem? (i := 3) rfl)) (fun _ h9 => h9) rfl (v := .ref (ad (s0 + 6))) rfl dX7_addChild_15 ?_
  refine lv_iload hx hb dX7_addChild_18 (lv_at hl 0 rfl) ?_
  refine lv_iload_n hx hb dX7_addChild_20 rfl (lv_at hl 3 rfl) ?_
  obtain ⟨g3, eg3, hf⟩ := c_letE hf
  refine c_iast (j := ((g.1 s0 6)).toNatClampNeg) hx hb hK hP hD hS (s0 + 6) fs0_6 rfl (c_inV hi1) eg3 dX7_addChild_21 (fun H locs hP hS => ?_)
  refine lv_aload_n hx hb dX7_addChild_22 rfl (lv_at hl 1 rfl) ?_
  refine c_get hx hb hts i_X7_addChild_X7 hown hK hP s0 fs0_0 rfl 9 (by decide) (hts _ (List.mem_of_getElem? (i := 4) rfl)) (fun _ h9 => h9) rfl (v := .ref (ad (s0 + 7))) rfl dX7_addChild_23 ?_
  refine lv_iload hx hb dX7_addChild_26 (lv_at hl 0 rfl) ?_
  refine lv_iload_n hx hb dX7_addChild_28 rfl (lv_at hl 4 rfl) ?_
  obtain ⟨g4, eg4, hf⟩ := c_letE hf
  refine c_iast (j := ((g.1 s0 6)).toNatClampNeg) hx hb hK hP hD hS (s0 + 7) fs0_7 rfl (c_inV hi1) eg4 dX7_addChild_29 (fun H locs hP hS => ?_)
  refine lv_aload_n hx hb dX7_addChild_30 rfl (lv_at hl 1 rfl) ?_
  refine c_get hx hb hts i_X7_addChild_X7 hown hK hP s0 fs0_0 rfl 10 (by decide) (hts _ (List.mem_of_getElem? (i := 5) rfl)) (fun _ h9 => h9) rfl (v := .ref (ad (s0 + 8))) rfl dX7_addChild_31 ?_
  refine lv_iload hx hb dX7_addChild_34 (lv_at hl 0 rfl) ?_
  refine lv_iconst (v := (0 : Int32)) hx hb dX7_addChild_36 (by decide) ?_
  obtain ⟨g5, eg5, hf⟩ := c_letE hf
  refine c_iast (j := ((g.1 s0 6)).toNatClampNeg) hx hb hK hP hD hS (s0 + 8) fs0_8 rfl (c_inV hi1) eg5 dX7_addChild_37 (fun H locs hP hS => ?_)
  refine lv_aload_n hx hb dX7_addChild_38 rfl (lv_at hl 1 rfl) ?_
  refine c_get hx hb hts i_X7_addChild_X7 hown hK hP s0 fs0_0 rfl 11 (by decide) (hts _ (List.mem_of_getElem? (i := 6) rfl)) (fun _ h9 => h9) rfl (v := .ref (ad (s0 + 9))) rfl dX7_addChild_39 ?_
  refine lv_iload hx hb dX7_addChild_42 (lv_at hl 0 rfl) ?_
  refine lv_bipush (v := (-5 : Int32)) hx hb dX7_addChild_44 (by decide) ?_
  obtain ⟨g6, eg6, hf⟩ := c_letE hf
  refine c_iast (j := ((g.1 s0 6)).toNatClampNeg) hx hb hK hP hD hS (s0 + 9) fs0_9 rfl (c_inV hi1) eg6 dX7_addChild_46 (fun H locs hP hS => ?_)
  refine lv_iconst (v := (0 : Int32)) hx hb dX7_addChild_47 (by decide) ?_
  refine lv_istore (lv' := [(5, .int (0 : Int32)), (4, .int (g.1 s0 6)), (0, .ref (ad s0)), (1, .int a1), (2, .int a2), (3, .int a3)]) hx hb dX7_addChild_48 hl (by decide) rfl (fun ls hl => ?_)
  exact jX7_addChild_50 C hD hq_s0 c_F ((g.1 s0 6)) ((0 : Int32)) g6 hf _ _ hP hS _ (lv_sub hl [2, 1, 0] rfl)
theorem i_X7_used_X7 : ∀ w ∈ u_ws RX7 TX7 17, w ∈ wsX7_used := c_inP [3, 4, 5, 6, 7, 8, 9, 10, 11, 12, 13, 14, 15, 16, 17, 18, 19] (by decide +kernel)
theorem dX7_used_0 : decode cX7_used 0 = .ok (.aload_n 0, 1) := by decide +kernel
theorem dX7_used_1 : decode cX7_used 1 = .ok (.getfield 73, 3) := by decide +kernel
theorem dX7_used_4 : decode cX7_used 4 = .ok (.istore_n 1, 1) := by decide +kernel
theorem dX7_used_5 : decode cX7_used 5 = .ok (.iconst 0, 1) := by decide +kernel
theorem dX7_used_6 : decode cX7_used 6 = .ok (.istore_n 2, 1) := by decide +kernel
theorem dX7_used_7 : decode cX7_used 7 = .ok (.iload_n 2, 1) := by decide +kernel
theorem dX7_used_8 : decode cX7_used 8 = .ok (.bipush 6, 2) := by decide +kernel
theorem dX7_used_10 : decode cX7_used 10 = .ok (.if_icmp .ge 31, 3) := by decide +kernel
theorem dX7_used_13 : decode cX7_used 13 = .ok (.aload_n 0, 1) := by decide +kernel
theorem dX7_used_14 : decode cX7_used 14 = .ok (.getfield 15, 3) := by decide +kernel
theorem dX7_used_17 : decode cX7_used 17 = .ok (.iload_n 2, 1) := by decide +kernel
theorem dX7_used_18 : decode cX7_used 18 = .ok (.iaload, 1) := by decide +kernel
theorem dX7_used_19 : decode cX7_used 19 = .ok (.bipush (-5), 2) := by decide +kernel
theorem dX7_used_21 : decode cX7_used 21 = .ok (.if_icmp .eq 14, 3) := by decide +kernel
theorem dX7_used_24 : decode cX7_used 24 = .ok (.iload_n 1, 1) := by decide +kernel
theorem dX7_used_25 : decode cX7_used 25 = .ok (.iconst 1, 1) := by decide +kernel
theorem dX7_used_26 : decode cX7_used 26 = .ok (.aload_n 0, 1) := by decide +kernel
theorem dX7_used_27 : decode cX7_used 27 = .ok (.getfield 15, 3) := by decide +kernel
theorem dX7_used_30 : decode cX7_used 30 = .ok (.iload_n 2, 1) := by decide +kernel
theorem dX7_used_31 : decode cX7_used 31 = .ok (.iaload, 1) := by decide +kernel
theorem dX7_used_32 : decode cX7_used 32 = .ok (.ishl, 1) := by decide +kernel
theorem dX7_used_33 : decode cX7_used 33 = .ok (.ior, 1) := by decide +kernel
theorem dX7_used_34 : decode cX7_used 34 = .ok (.istore_n 1, 1) := by decide +kernel
theorem dX7_used_35 : decode cX7_used 35 = .ok (.iinc 2 1, 3) := by decide +kernel
theorem dX7_used_38 : decode cX7_used 38 = .ok (.goto (-31), 3) := by decide +kernel
theorem dX7_used_41 : decode cX7_used 41 = .ok (.iload_n 1, 1) := by decide +kernel
theorem dX7_used_42 : decode cX7_used 42 = .ok (.ireturn, 1) := by decide +kernel
def fX7_used_35 (rec7 : Int32 → Int32 → c_G → Option (Int32)) (s0 : Nat) (x1 : Int32) (x2 : Int32) (g : c_G) : Option (Int32) :=
  c_let (x2 + (1 : Int32)) fun v35001 => rec7 x1 v35001 g
set_option maxRecDepth 100000 in
set_option maxHeartbeats 4000000 in
theorem jX7_used_35 {p : Program} {l : Launch} {e : Env} {s : State} {m : MethodId} {below : List Frame} {meth : Method} {c : Code} {D : va_G} {tc : Nat → ClassId} {ad : Nat → Nat} {A : Nat → Prop} {E : (Nat → Nat) × (Nat → Nat) × Nat} {s0 : Nat} {r : Int32} (C : c_C p s m meth c D tc A E RX7 wsX7_used cX7_used 3 (some .int) ([.ref (ad s0)] : List Value).toArray) (hD : c_D A ad TC) (hq_s0 : c_isS s0 = true) {rec7 : Int32 → Int32 → c_G → Option (Int32)} (hrec7 : ∀ (x1 : Int32) (x2 : Int32) (g : c_G), rec7 x1 x2 g = some r → ∀ (H : Heap) (locs : List Loc), va_P D vwCl (c_ws tc ad TC g) H → va_S A s.heap H locs → ∀ ls : Array Slot, lv_has ls 3 [(0, .ref (ad s0)), (1, .int x1), (2, .int x2)] → W p l e (c_rm 0) s m ([.ref (ad s0)] : List Value).toArray below meth c H locs 0 0 (MQ below (va_Qi (fun (x : Int32) (_ : Unit) => x = r) (fun _ t => va_P D vwCl (c_ws tc ad TC g) t.heap) A) ([.ref (ad s0)] : List Value).toArray s 0 0 A) (F0 m 7 ls [])) : ∀ (x1 : Int32) (x2 : Int32) (g : c_G), fX7_used_35 rec7 s0 x1 x2 g = some r → ∀ (H : Heap) (locs : List Loc), va_P D vwCl (c_ws tc ad TC g) H → va_S A s.heap H locs → ∀ ls : Array Slot, lv_has ls 3 [(0, .ref (ad s0)), (1, .int x1), (2, .int x2)] → W p l e (c_rm 0) s m ([.ref (ad s0)] : List Value).toArray below meth c H locs 0 0 (MQ below (va_Qi (fun (x : Int32) (_ : Unit) => x = r) (fun _ t => va_P D vwCl (c_ws tc ad TC g) t.heap) A) ([.ref (ad s0)] : List Value).toArray s 0 0 A) (F0 m 35 ls []) := by
  obtain ⟨hx, hb, hr, hml, hts, hown, hlk, hK, hE⟩ := id C
  obtain ⟨fs0_0, fs0_1, fs0_2, fs0_3, fs0_4, fs0_5, fs0_6, fs0_7, fs0_8, fs0_9, fs0_10, fs0_11, fs0_12, fs0_13⟩ := c_isSE hq_s0
  intro x1 x2 g hf H locs hP hS ls hl
  unfold fX7_used_35 at hf
  obtain ⟨v35001, ev35001, hf⟩ := c_letE hf
  refine lv_iinc (v := v35001) (lv' := [(2, .int v35001), (0, .ref (ad s0)), (1, .int x1)]) hx hb dX7_used_35 hl (k := 2) rfl (by rw [ev35001]; rfl) (by decide) rfl (fun ls hl => ?_)
  refine lv_goto (tgt := 7) hx hb dX7_used_38 (by decide) ?_
  exact hrec7 x1 v35001 g hf _ _ hP hS _ (lv_sub hl [1, 2, 0] rfl)
def fX7_used_7  (s0 : Nat) : Nat → Int32 → Int32 → c_G → Option (Int32)
  | 0, _, _, _ => none
  | n + 1, x1, x2, g => if (6 : Int32) ≤ x2 then (some x1) else (if c_in (x2) (6) = true then if (g.1 (s0 + 2) (x2).toNatClampNeg) = (-5 : Int32) then (fX7_used_35 (fX7_used_7 s0 n) s0 x1 x2 g) else (c_let ((x1 ||| ((1 : Int32) <<< ((g.1 (s0 + 2) (x2).toNatClampNeg) &&& 31)))) fun v7004 => fX7_used_35 (fX7_used_7 s0 n) s0 v7004 x2 g) else none)
set_option maxRecDepth 100000 in
set_option maxHeartbeats 4000000 in
theorem jX7_used_7 {p : Program} {l : Launch} {e : Env} {s : State} {m : MethodId} {below : List Frame} {meth : Method} {c : Code} {D : va_G} {tc : Nat → ClassId} {ad : Nat → Nat} {A : Nat → Prop} {E : (Nat → Nat) × (Nat → Nat) × Nat} {s0 : Nat} {r : Int32} (C : c_C p s m meth c D tc A E RX7 wsX7_used cX7_used 3 (some .int) ([.ref (ad s0)] : List Value).toArray) (hD : c_D A ad TC) (hq_s0 : c_isS s0 = true)  : ∀ (n : Nat) (x1 : Int32) (x2 : Int32) (g : c_G), fX7_used_7 s0 n x1 x2 g = some r → ∀ (H : Heap) (locs : List Loc), va_P D vwCl (c_ws tc ad TC g) H → va_S A s.heap H locs → ∀ ls : Array Slot, lv_has ls 3 [(0, .ref (ad s0)), (1, .int x1), (2, .int x2)] → W p l e (c_rm 0) s m ([.ref (ad s0)] : List Value).toArray below meth c H locs 0 0 (MQ below (va_Qi (fun (x : Int32) (_ : Unit) => x = r) (fun _ t => va_P D vwCl (c_ws tc ad TC g) t.heap) A) ([.ref (ad s0)] : List Value).toArray s 0 0 A) (F0 m 7 ls []) := by
  obtain ⟨hx, hb, hr, hml, hts, hown, hlk, hK, hE⟩ := id C
  obtain ⟨fs0_0, fs0_1, fs0_2, fs0_3, fs0_4, fs0_5, fs0_6, fs0_7, fs0_8, fs0_9, fs0_10, fs0_11, fs0_12, fs0_13⟩ := c_isSE hq_s0
  intro n
  induction n with
  | zero =>
    intro x1 x2 g hf
    cases hf
  | succ n ih =>
    intro x1 x2 g hf H locs hP hS ls hl
    unfold fX7_used_7 at hf
    refine lv_iload_n hx hb dX7_used_7 rfl (lv_at hl 2 rfl) ?_
    refine lv_bipush (v := (6 : Int32)) hx hb dX7_used_8 (by decide) ?_
    refine lv_icmp_ge (tgt := 41) hx hb dX7_used_10 (by decide) (fun c7001 => ?_) (fun c7001 => ?_)
    · have hf := c_it c7001 hf
      refine lv_iload_n hx hb dX7_used_41 rfl (lv_at hl 1 rfl) ?_
      exact c_iret hx hb hr hlk hP hS rfl ⟨rfl, Option.some.inj hf⟩ dX7_used_42
    · have hf := c_ie c7001 hf
      refine lv_aload_n hx hb dX7_used_13 rfl (lv_at hl 0 rfl) ?_
      refine c_get hx hb hts i_X7_used_X7 hown hK hP s0 fs0_0 rfl 1 (by decide) (hts _ (List.mem_of_getElem? (i := 2) rfl)) (fun _ h9 => h9) rfl (v := .ref (ad (s0 + 2))) rfl dX7_used_14 ?_
      refine lv_iload_n hx hb dX7_used_17 rfl (lv_at hl 2 rfl) ?_
      obtain ⟨hi7002, hf⟩ := c_gd hf
      refine c_iald (j := (x2).toNatClampNeg) hx hb hK hP (s0 + 2) fs0_2 rfl (c_inV hi7002) dX7_used_18 ?_
      refine lv_bipush (v := (-5 : Int32)) hx hb dX7_used_19 (by decide) ?_
      refine lv_icmp_eq (tgt := 35) hx hb dX7_used_21 (by decide) (fun c7003 => ?_) (fun c7003 => ?_)
      · have hf := c_it c7003 hf
        exact jX7_used_35 C hD hq_s0 ih x1 x2 g hf _ _ hP hS _ (lv_sub hl [0, 1, 2] rfl)
      · have hf := c_ie c7003 hf
        refine lv_iload_n hx hb dX7_used_24 rfl (lv_at hl 1 rfl) ?_
        refine lv_iconst (v := (1 : Int32)) hx hb dX7_used_25 (by decide) ?_
        refine lv_aload_n hx hb dX7_used_26 rfl (lv_at hl 0 rfl) ?_
        refine c_get hx hb hts i_X7_used_X7 hown hK hP s0 fs0_0 rfl 1 (by decide) (hts _ (List.mem_of_getElem? (i := 2) rfl)) (fun _ h9 => h9) rfl (v := .ref (ad (s0 + 2))) rfl dX7_used_27 ?_
        refine lv_iload_n hx hb dX7_used_30 rfl (lv_at hl 2 rfl) ?_
        refine c_iald (j := (x2).toNatClampNeg) hx hb hK hP (s0 + 2) fs0_2 rfl (c_inV hi7002) dX7_used_31 ?_
        refine lv_ishl hx hb dX7_used_32 ?_
        refine lv_ior hx hb dX7_used_33 ?_
        obtain ⟨v7004, ev7004, hf⟩ := c_letE hf
        refine c_topi ev7004 ?_
        refine lv_istore_n (lv' := [(1, .int v7004), (0, .ref (ad s0)), (2, .int x2)]) hx hb dX7_used_34 rfl hl (by decide) rfl (fun ls hl => ?_)
        exact jX7_used_35 C hD hq_s0 ih v7004 x2 g hf _ _ hP hS _ (lv_sub hl [1, 0, 2] rfl)
def fX7_used (g : c_G) (s0 : Nat) : Option (Int32) :=
  if c_isS s0 = true then (fX7_used_7 s0 c_F ((g.1 s0 4)) ((0 : Int32)) g) else none
set_option maxRecDepth 100000 in
set_option maxHeartbeats 4000000 in
theorem kX7_used {l : Launch} {D : va_G} {tc : Nat → ClassId} {ad : Nat → Nat} {A : Nat → Prop} {E : (Nat → Nat) × (Nat → Nat) × Nat} (hD : c_D A ad TC) {s0 : Nat} {g : c_G} {r : Int32} (hf : fX7_used g s0 = some r) : c_Mi l yX7_used wsX7_used (c_rm 0) D tc ad A E TC ([.ref (ad s0)] : List Value) g g r := by
  refine c_ofW (bytes := cX7_used) (maxL := 3) (ret := (some .int)) (by decide) rfl (Nat.le_of_ble_eq_true rfl) ?_
  intro p e s m below meth c ls C hP hS hl
  unfold fX7_used at hf
  obtain ⟨hq_s0, hf⟩ := c_gd hf
  obtain ⟨hx, hb, hr, hml, hts, hown, hlk, hK, hE⟩ := id C
  obtain ⟨fs0_0, fs0_1, fs0_2, fs0_3, fs0_4, fs0_5, fs0_6, fs0_7, fs0_8, fs0_9, fs0_10, fs0_11, fs0_12, fs0_13⟩ := c_isSE hq_s0
  have hl : lv_has ls 3 [(0, .ref (ad s0))] := hl
  refine lv_aload_n hx hb dX7_used_0 rfl (lv_at hl 0 rfl) ?_
  refine c_get hx hb hts i_X7_used_X7 hown hK hP s0 fs0_0 rfl 4 (by decide) (hts _ (List.mem_of_getElem? (i := 1) rfl)) (fun _ h9 => h9) rfl (v := .int (g.1 s0 4)) rfl dX7_used_1 ?_
  refine lv_istore_n (lv' := [(1, .int (g.1 s0 4)), (0, .ref (ad s0))]) hx hb dX7_used_4 rfl hl (by decide) rfl (fun ls hl => ?_)
  refine lv_iconst (v := (0 : Int32)) hx hb dX7_used_5 (by decide) ?_
  refine lv_istore_n (lv' := [(2, .int (0 : Int32)), (1, .int (g.1 s0 4)), (0, .ref (ad s0))]) hx hb dX7_used_6 rfl hl (by decide) rfl (fun ls hl => ?_)
  exact jX7_used_7 C hD hq_s0 c_F ((g.1 s0 4)) ((0 : Int32)) g hf _ _ hP hS _ (lv_sub hl [2, 1, 0] rfl)
theorem i_X7_named_X7 : ∀ w ∈ u_ws RX7 TX7 17, w ∈ wsX7_named := c_inP [2, 3, 4, 5, 6, 7, 8, 9, 10, 11, 12, 13, 14, 15, 16, 17, 18] (by decide +kernel)
theorem dX7_named_0 : decode cX7_named 0 = .ok (.iconst 0, 1) := by decide +kernel
theorem dX7_named_1 : decode cX7_named 1 = .ok (.istore_n 1, 1) := by decide +kernel
theorem dX7_named_2 : decode cX7_named 2 = .ok (.iconst 0, 1) := by decide +kernel
theorem dX7_named_3 : decode cX7_named 3 = .ok (.istore_n 2, 1) := by decide +kernel
theorem dX7_named_4 : decode cX7_named 4 = .ok (.iload_n 2, 1) := by decide +kernel
theorem dX7_named_5 : decode cX7_named 5 = .ok (.bipush 6, 2) := by decide +kernel
theorem dX7_named_7 : decode cX7_named 7 = .ok (.if_icmp .ge 23, 3) := by decide +kernel
theorem dX7_named_10 : decode cX7_named 10 = .ok (.aload_n 0, 1) := by decide +kernel
theorem dX7_named_11 : decode cX7_named 11 = .ok (.getfield 15, 3) := by decide +kernel
theorem dX7_named_14 : decode cX7_named 14 = .ok (.iload_n 2, 1) := by decide +kernel
theorem dX7_named_15 : decode cX7_named 15 = .ok (.iaload, 1) := by decide +kernel
theorem dX7_named_16 : decode cX7_named 16 = .ok (.bipush (-5), 2) := by decide +kernel
theorem dX7_named_18 : decode cX7_named 18 = .ok (.if_icmp .eq 6, 3) := by decide +kernel
theorem dX7_named_21 : decode cX7_named 21 = .ok (.iinc 1 1, 3) := by decide +kernel
theorem dX7_named_24 : decode cX7_named 24 = .ok (.iinc 2 1, 3) := by decide +kernel
theorem dX7_named_27 : decode cX7_named 27 = .ok (.goto (-23), 3) := by decide +kernel
theorem dX7_named_30 : decode cX7_named 30 = .ok (.iload_n 1, 1) := by decide +kernel
theorem dX7_named_31 : decode cX7_named 31 = .ok (.ireturn, 1) := by decide +kernel
def fX7_named_24 (rec4 : Int32 → Int32 → c_G → Option (Int32)) (s0 : Nat) (x1 : Int32) (x2 : Int32) (g : c_G) : Option (Int32) :=
  c_let (x2 + (1 : Int32)) fun v24001 => rec4 x1 v24001 g
set_option maxRecDepth 100000 in
set_option maxHeartbeats 4000000 in
theorem jX7_named_24 {p : Program} {l : Launch} {e : Env} {s : State} {m : MethodId} {below : List Frame} {meth : Method} {c : Code} {D : va_G} {tc : Nat → ClassId} {ad : Nat → Nat} {A : Nat → Prop} {E : (Nat → Nat) × (Nat → Nat) × Nat} {s0 : Nat} {r : Int32} (C : c_C p s m meth c D tc A E RX7 wsX7_named cX7_named 3 (some .int) ([.ref (ad s0)] : List Value).toArray) (hD : c_D A ad TC) (hq_s0 : c_isS s0 = true) {rec4 : Int32 → Int32 → c_G → Option (Int32)} (hrec4 : ∀ (x1 : Int32) (x2 : Int32) (g : c_G), rec4 x1 x2 g = some r → ∀ (H : Heap) (locs : List Loc), va_P D vwCl (c_ws tc ad TC g) H → va_S A s.heap H locs → ∀ ls : Array Slot, lv_has ls 3 [(0, .ref (ad s0)), (1, .int x1), (2, .int x2)] → W p l e (c_rm 0) s m ([.ref (ad s0)] : List Value).toArray below meth c H locs 0 0 (MQ below (va_Qi (fun (x : Int32) (_ : Unit) => x = r) (fun _ t => va_P D vwCl (c_ws tc ad TC g) t.heap) A) ([.ref (ad s0)] : List Value).toArray s 0 0 A) (F0 m 4 ls [])) : ∀ (x1 : Int32) (x2 : Int32) (g : c_G), fX7_named_24 rec4 s0 x1 x2 g = some r → ∀ (H : Heap) (locs : List Loc), va_P D vwCl (c_ws tc ad TC g) H → va_S A s.heap H locs → ∀ ls : Array Slot, lv_has ls 3 [(0, .ref (ad s0)), (1, .int x1), (2, .int x2)] → W p l e (c_rm 0) s m ([.ref (ad s0)] : List Value).toArray below meth c H locs 0 0 (MQ below (va_Qi (fun (x : Int32) (_ : Unit) => x = r) (fun _ t => va_P D vwCl (c_ws tc ad TC g) t.heap) A) ([.ref (ad s0)] : List Value).toArray s 0 0 A) (F0 m 24 ls []) := by
  obtain ⟨hx, hb, hr, hml, hts, hown, hlk, hK, hE⟩ := id C
  obtain ⟨fs0_0, fs0_1, fs0_2, fs0_3, fs0_4, fs0_5, fs0_6, fs0_7, fs0_8, fs0_9, fs0_10, fs0_11, fs0_12, fs0_13⟩ := c_isSE hq_s0
  intro x1 x2 g hf H locs hP hS ls hl
  unfold fX7_named_24 at hf
  obtain ⟨v24001, ev24001, hf⟩ := c_letE hf
  refine lv_iinc (v := v24001) (lv' := [(2, .int v24001), (0, .ref (ad s0)), (1, .int x1)]) hx hb dX7_named_24 hl (k := 2) rfl (by rw [ev24001]; rfl) (by decide) rfl (fun ls hl => ?_)
  refine lv_goto (tgt := 4) hx hb dX7_named_27 (by decide) ?_
  exact hrec4 x1 v24001 g hf _ _ hP hS _ (lv_sub hl [1, 2, 0] rfl)
def fX7_named_4  (s0 : Nat) : Nat → Int32 → Int32 → c_G → Option (Int32)
  | 0, _, _, _ => none
  | n + 1, x1, x2, g => if (6 : Int32) ≤ x2 then (some x1) else (if c_in (x2) (6) = true then if (g.1 (s0 + 2) (x2).toNatClampNeg) = (-5 : Int32) then (fX7_named_24 (fX7_named_4 s0 n) s0 x1 x2 g) else (c_let (x1 + (1 : Int32)) fun v4004 => fX7_named_24 (fX7_named_4 s0 n) s0 v4004 x2 g) else none)
set_option maxRecDepth 100000 in
set_option maxHeartbeats 4000000 in
theorem jX7_named_4 {p : Program} {l : Launch} {e : Env} {s : State} {m : MethodId} {below : List Frame} {meth : Method} {c : Code} {D : va_G} {tc : Nat → ClassId} {ad : Nat → Nat} {A : Nat → Prop} {E : (Nat → Nat) × (Nat → Nat) × Nat} {s0 : Nat} {r : Int32} (C : c_C p s m meth c D tc A E RX7 wsX7_named cX7_named 3 (some .int) ([.ref (ad s0)] : List Value).toArray) (hD : c_D A ad TC) (hq_s0 : c_isS s0 = true)  : ∀ (n : Nat) (x1 : Int32) (x2 : Int32) (g : c_G), fX7_named_4 s0 n x1 x2 g = some r → ∀ (H : Heap) (locs : List Loc), va_P D vwCl (c_ws tc ad TC g) H → va_S A s.heap H locs → ∀ ls : Array Slot, lv_has ls 3 [(0, .ref (ad s0)), (1, .int x1), (2, .int x2)] → W p l e (c_rm 0) s m ([.ref (ad s0)] : List Value).toArray below meth c H locs 0 0 (MQ below (va_Qi (fun (x : Int32) (_ : Unit) => x = r) (fun _ t => va_P D vwCl (c_ws tc ad TC g) t.heap) A) ([.ref (ad s0)] : List Value).toArray s 0 0 A) (F0 m 4 ls []) := by
  obtain ⟨hx, hb, hr, hml, hts, hown, hlk, hK, hE⟩ := id C
  obtain ⟨fs0_0, fs0_1, fs0_2, fs0_3, fs0_4, fs0_5, fs0_6, fs0_7, fs0_8, fs0_9, fs0_10, fs0_11, fs0_12, fs0_13⟩ := c_isSE hq_s0
  intro n
  induction n with
  | zero =>
    intro x1 x2 g hf
    cases hf
  | succ n ih =>
    intro x1 x2 g hf H locs hP hS ls hl
    unfold fX7_named_4 at hf
    refine lv_iload_n hx hb dX7_named_4 rfl (lv_at hl 2 rfl) ?_
    refine lv_bipush (v := (6 : Int32)) hx hb dX7_named_5 (by decide) ?_
    refine lv_icmp_ge (tgt := 30) hx hb dX7_named_7 (by decide) (fun c4001 => ?_) (fun c4001 => ?_)
    · have hf := c_it c4001 hf
      refine lv_iload_n hx hb dX7_named_30 rfl (lv_at hl 1 rfl) ?_
      exact c_iret hx hb hr hlk hP hS rfl ⟨rfl, Option.some.inj hf⟩ dX7_named_31
    · have hf := c_ie c4001 hf
      refine lv_aload_n hx hb dX7_named_10 rfl (lv_at hl 0 rfl) ?_
      refine c_get hx hb hts i_X7_named_X7 hown hK hP s0 fs0_0 rfl 1 (by decide) (hts _ (List.mem_of_getElem? (i := 1) rfl)) (fun _ h9 => h9) rfl (v := .ref (ad (s0 + 2))) rfl dX7_named_11 ?_
      refine lv_iload_n hx hb dX7_named_14 rfl (lv_at hl 2 rfl) ?_
      obtain ⟨hi4002, hf⟩ := c_gd hf
      refine c_iald (j := (x2).toNatClampNeg) hx hb hK hP (s0 + 2) fs0_2 rfl (c_inV hi4002) dX7_named_15 ?_
      refine lv_bipush (v := (-5 : Int32)) hx hb dX7_named_16 (by decide) ?_
      refine lv_icmp_eq (tgt := 24) hx hb dX7_named_18 (by decide) (fun c4003 => ?_) (fun c4003 => ?_)
      · have hf := c_it c4003 hf
        exact jX7_named_24 C hD hq_s0 ih x1 x2 g hf _ _ hP hS _ (lv_sub hl [0, 1, 2] rfl)
      · have hf := c_ie c4003 hf
        obtain ⟨v4004, ev4004, hf⟩ := c_letE hf
        refine lv_iinc (v := v4004) (lv' := [(1, .int v4004), (0, .ref (ad s0)), (2, .int x2)]) hx hb dX7_named_21 hl (k := 1) rfl (by rw [ev4004]; rfl) (by decide) rfl (fun ls hl => ?_)
        exact jX7_named_24 C hD hq_s0 ih v4004 x2 g hf _ _ hP hS _ (lv_sub hl [1, 0, 2] rfl)
def fX7_named (g : c_G) (s0 : Nat) : Option (Int32) :=
  if c_isS s0 = true then (fX7_named_4 s0 c_F ((0 : Int32)) ((0 : Int32)) g) else none
set_option maxRecDepth 100000 in
set_option maxHeartbeats 4000000 in
theorem kX7_named {l : Launch} {D : va_G} {tc : Nat → ClassId} {ad : Nat → Nat} {A : Nat → Prop} {E : (Nat → Nat) × (Nat → Nat) × Nat} (hD : c_D A ad TC) {s0 : Nat} {g : c_G} {r : Int32} (hf : fX7_named g s0 = some r) : c_Mi l yX7_named wsX7_named (c_rm 0) D tc ad A E TC ([.ref (ad s0)] : List Value) g g r := by
  refine c_ofW (bytes := cX7_named) (maxL := 3) (ret := (some .int)) (by decide) rfl (Nat.le_of_ble_eq_true rfl) ?_
  intro p e s m below meth c ls C hP hS hl
  unfold fX7_named at hf
  obtain ⟨hq_s0, hf⟩ := c_gd hf
  obtain ⟨hx, hb, hr, hml, hts, hown, hlk, hK, hE⟩ := id C
  obtain ⟨fs0_0, fs0_1, fs0_2, fs0_3, fs0_4, fs0_5, fs0_6, fs0_7, fs0_8, fs0_9, fs0_10, fs0_11, fs0_12, fs0_13⟩ := c_isSE hq_s0
  have hl : lv_has ls 3 [(0, .ref (ad s0))] := hl
  refine lv_iconst (v := (0 : Int32)) hx hb dX7_named_0 (by decide) ?_
  refine lv_istore_n (lv' := [(1, .int (0 : Int32)), (0, .ref (ad s0))]) hx hb dX7_named_1 rfl hl (by decide) rfl (fun ls hl => ?_)
  refine lv_iconst (v := (0 : Int32)) hx hb dX7_named_2 (by decide) ?_
  refine lv_istore_n (lv' := [(2, .int (0 : Int32)), (1, .int (0 : Int32)), (0, .ref (ad s0))]) hx hb dX7_named_3 rfl hl (by decide) rfl (fun ls hl => ?_)
  exact jX7_named_4 C hD hq_s0 c_F ((0 : Int32)) ((0 : Int32)) g hf _ _ hP hS _ (lv_sub hl [2, 1, 0] rfl)
theorem i_X7_listens_X7 : ∀ w ∈ u_ws RX7 TX7 17, w ∈ wsX7_listens := c_inP [3, 4, 5, 6, 7, 8, 9, 10, 11, 12, 13, 14, 15, 16, 17, 18, 19] (by decide +kernel)
theorem dX7_listens_0 : decode cX7_listens 0 = .ok (.aload_n 0, 1) := by decide +kernel
theorem dX7_listens_1 : decode cX7_listens 1 = .ok (.getfield 15, 3) := by decide +kernel
theorem dX7_listens_4 : decode cX7_listens 4 = .ok (.iload_n 1, 1) := by decide +kernel
theorem dX7_listens_5 : decode cX7_listens 5 = .ok (.iaload, 1) := by decide +kernel
theorem dX7_listens_6 : decode cX7_listens 6 = .ok (.bipush (-5), 2) := by decide +kernel
theorem dX7_listens_8 : decode cX7_listens 8 = .ok (.if_icmp .ne 16, 3) := by decide +kernel
theorem dX7_listens_11 : decode cX7_listens 11 = .ok (.aload_n 0, 1) := by decide +kernel
theorem dX7_listens_12 : decode cX7_listens 12 = .ok (.getfield 21, 3) := by decide +kernel
theorem dX7_listens_15 : decode cX7_listens 15 = .ok (.iload_n 1, 1) := by decide +kernel
theorem dX7_listens_16 : decode cX7_listens 16 = .ok (.iaload, 1) := by decide +kernel
theorem dX7_listens_17 : decode cX7_listens 17 = .ok (.ifCond .ne 7, 3) := by decide +kernel
theorem dX7_listens_20 : decode cX7_listens 20 = .ok (.iconst 1, 1) := by decide +kernel
theorem dX7_listens_21 : decode cX7_listens 21 = .ok (.goto 4, 3) := by decide +kernel
theorem dX7_listens_24 : decode cX7_listens 24 = .ok (.iconst 0, 1) := by decide +kernel
theorem dX7_listens_25 : decode cX7_listens 25 = .ok (.ireturn, 1) := by decide +kernel
def fX7_listens (g : c_G) (s0 : Nat) (a1 : Int32) : Option (Int32) :=
  if c_isS s0 = true then (if c_in (a1) (6) = true then if (g.1 (s0 + 2) (a1).toNatClampNeg) = (-5 : Int32) then (if (g.1 (s0 + 4) (a1).toNatClampNeg) = 0 then (some (1 : Int32)) else (some (0 : Int32))) else (some (0 : Int32)) else none) else none
set_option maxRecDepth 100000 in
set_option maxHeartbeats 4000000 in
theorem kX7_listens {l : Launch} {D : va_G} {tc : Nat → ClassId} {ad : Nat → Nat} {A : Nat → Prop} {E : (Nat → Nat) × (Nat → Nat) × Nat} (hD : c_D A ad TC) {s0 : Nat} {a1 : Int32} {g : c_G} {r : Int32} (hf : fX7_listens g s0 a1 = some r) : c_Mi l yX7_listens wsX7_listens (c_rm 0) D tc ad A E TC ([.ref (ad s0), .int a1] : List Value) g g r := by
  refine c_ofW (bytes := cX7_listens) (maxL := 2) (ret := (some .boolean)) (by decide) rfl (Nat.le_of_ble_eq_true rfl) ?_
  intro p e s m below meth c ls C hP hS hl
  unfold fX7_listens at hf
  obtain ⟨hq_s0, hf⟩ := c_gd hf
  obtain ⟨hx, hb, hr, hml, hts, hown, hlk, hK, hE⟩ := id C
  obtain ⟨fs0_0, fs0_1, fs0_2, fs0_3, fs0_4, fs0_5, fs0_6, fs0_7, fs0_8, fs0_9, fs0_10, fs0_11, fs0_12, fs0_13⟩ := c_isSE hq_s0
  have hl : lv_has ls 2 [(0, .ref (ad s0)), (1, .int a1)] := hl
  refine lv_aload_n hx hb dX7_listens_0 rfl (lv_at hl 0 rfl) ?_
  refine c_get hx hb hts i_X7_listens_X7 hown hK hP s0 fs0_0 rfl 1 (by decide) (hts _ (List.mem_of_getElem? (i := 1) rfl)) (fun _ h9 => h9) rfl (v := .ref (ad (s0 + 2))) rfl dX7_listens_1 ?_
  refine lv_iload_n hx hb dX7_listens_4 rfl (lv_at hl 1 rfl) ?_
  obtain ⟨hi1, hf⟩ := c_gd hf
  refine c_iald (j := (a1).toNatClampNeg) hx hb hK hP (s0 + 2) fs0_2 rfl (c_inV hi1) dX7_listens_5 ?_
  refine lv_bipush (v := (-5 : Int32)) hx hb dX7_listens_6 (by decide) ?_
  refine lv_icmp_ne (tgt := 24) hx hb dX7_listens_8 (by decide) (fun c2 => ?_) (fun c2 => ?_)
  · have hf := c_ie c2 hf
    refine lv_iconst (v := (0 : Int32)) hx hb dX7_listens_24 (by decide) ?_
    exact c_iret hx hb hr hlk hP hS rfl ⟨rfl, Option.some.inj hf⟩ dX7_listens_25
  · have hf := c_it c2 hf
    refine lv_aload_n hx hb dX7_listens_11 rfl (lv_at hl 0 rfl) ?_
    refine c_get hx hb hts i_X7_listens_X7 hown hK hP s0 fs0_0 rfl 3 (by decide) (hts _ (List.mem_of_getElem? (i := 2) rfl)) (fun _ h9 => h9) rfl (v := .ref (ad (s0 + 4))) rfl dX7_listens_12 ?_
    refine lv_iload_n hx hb dX7_listens_15 rfl (lv_at hl 1 rfl) ?_
    refine c_iald (j := (a1).toNatClampNeg) hx hb hK hP (s0 + 4) fs0_4 rfl (c_inV hi1) dX7_listens_16 ?_
    refine lv_if_ne (tgt := 24) hx hb dX7_listens_17 (by decide) (fun c3 => ?_) (fun c3 => ?_)
    · have hf := c_ie c3 hf
      refine lv_iconst (v := (0 : Int32)) hx hb dX7_listens_24 (by decide) ?_
      exact c_iret hx hb hr hlk hP hS rfl ⟨rfl, Option.some.inj hf⟩ dX7_listens_25
    · have hf := c_it c3 hf
      refine lv_iconst (v := (1 : Int32)) hx hb dX7_listens_20 (by decide) ?_
      refine lv_goto (tgt := 25) hx hb dX7_listens_21 (by decide) ?_
      exact c_iret hx hb hr hlk hP hS rfl ⟨rfl, Option.some.inj hf⟩ dX7_listens_25
theorem i_X7_unname_X7 : ∀ w ∈ u_ws RX7 TX7 17, w ∈ wsX7_unname := c_inP [3, 4, 5, 6, 7, 8, 9, 10, 11, 12, 13, 14, 15, 16, 17, 18, 19] (by decide +kernel)
theorem dX7_unname_0 : decode cX7_unname 0 = .ok (.aload_n 0, 1) := by decide +kernel
theorem dX7_unname_1 : decode cX7_unname 1 = .ok (.getfield 15, 3) := by decide +kernel
theorem dX7_unname_4 : decode cX7_unname 4 = .ok (.iload_n 1, 1) := by decide +kernel
theorem dX7_unname_5 : decode cX7_unname 5 = .ok (.bipush (-5), 2) := by decide +kernel
theorem dX7_unname_7 : decode cX7_unname 7 = .ok (.iastore, 1) := by decide +kernel
theorem dX7_unname_8 : decode cX7_unname 8 = .ok (.aload_n 0, 1) := by decide +kernel
theorem dX7_unname_9 : decode cX7_unname 9 = .ok (.getfield 18, 3) := by decide +kernel
theorem dX7_unname_12 : decode cX7_unname 12 = .ok (.iload_n 1, 1) := by decide +kernel
theorem dX7_unname_13 : decode cX7_unname 13 = .ok (.bipush (-5), 2) := by decide +kernel
theorem dX7_unname_15 : decode cX7_unname 15 = .ok (.iastore, 1) := by decide +kernel
theorem dX7_unname_16 : decode cX7_unname 16 = .ok (.return_, 1) := by decide +kernel
def fX7_unname (g : c_G) (s0 : Nat) (a1 : Int32) : Option (c_G) :=
  if c_isS s0 = true then (if c_in (a1) (6) = true then c_let (c_si g (s0 + 2) (a1).toNatClampNeg (-5 : Int32)) fun g2 => c_let (c_si g2 (s0 + 3) (a1).toNatClampNeg (-5 : Int32)) fun g3 => some g3 else none) else none
set_option maxRecDepth 100000 in
set_option maxHeartbeats 4000000 in
theorem kX7_unname {l : Launch} {D : va_G} {tc : Nat → ClassId} {ad : Nat → Nat} {A : Nat → Prop} {E : (Nat → Nat) × (Nat → Nat) × Nat} (hD : c_D A ad TC) {s0 : Nat} {a1 : Int32} {g g' : c_G} (hf : fX7_unname g s0 a1 = some g') : c_Mv l yX7_unname wsX7_unname (c_rm 0) D tc ad A E TC ([.ref (ad s0), .int a1] : List Value) g g' := by
  refine c_ofW (bytes := cX7_unname) (maxL := 2) (ret := none) (by decide) rfl (Nat.le_of_ble_eq_true rfl) ?_
  intro p e s m below meth c ls C hP hS hl
  unfold fX7_unname at hf
  obtain ⟨hq_s0, hf⟩ := c_gd hf
  obtain ⟨hx, hb, hr, hml, hts, hown, hlk, hK, hE⟩ := id C
  obtain ⟨fs0_0, fs0_1, fs0_2, fs0_3, fs0_4, fs0_5, fs0_6, fs0_7, fs0_8, fs0_9, fs0_10, fs0_11, fs0_12, fs0_13⟩ := c_isSE hq_s0
  have hl : lv_has ls 2 [(0, .ref (ad s0)), (1, .int a1)] := hl
  refine lv_aload_n hx hb dX7_unname_0 rfl (lv_at hl 0 rfl) ?_
  refine c_get hx hb hts i_X7_unname_X7 hown hK hP s0 fs0_0 rfl 1 (by decide) (hts _ (List.mem_of_getElem? (i := 1) rfl)) (fun _ h9 => h9) rfl (v := .ref (ad (s0 + 2))) rfl dX7_unname_1 ?_
  refine lv_iload_n hx hb dX7_unname_4 rfl (lv_at hl 1 rfl) ?_
  refine lv_bipush (v := (-5 : Int32)) hx hb dX7_unname_5 (by decide) ?_
  obtain ⟨hi1, hf⟩ := c_gd hf
  obtain ⟨g2, eg2, hf⟩ := c_letE hf
  refine c_iast (j := (a1).toNatClampNeg) hx hb hK hP hD hS (s0 + 2) fs0_2 rfl (c_inV hi1) eg2 dX7_unname_7 (fun H locs hP hS => ?_)
  refine lv_aload_n hx hb dX7_unname_8 rfl (lv_at hl 0 rfl) ?_
  refine c_get hx hb hts i_X7_unname_X7 hown hK hP s0 fs0_0 rfl 2 (by decide) (hts _ (List.mem_of_getElem? (i := 2) rfl)) (fun _ h9 => h9) rfl (v := .ref (ad (s0 + 3))) rfl dX7_unname_9 ?_
  refine lv_iload_n hx hb dX7_unname_12 rfl (lv_at hl 1 rfl) ?_
  refine lv_bipush (v := (-5 : Int32)) hx hb dX7_unname_13 (by decide) ?_
  obtain ⟨g3, eg3, hf⟩ := c_letE hf
  refine c_iast (j := (a1).toNatClampNeg) hx hb hK hP hD hS (s0 + 3) fs0_3 rfl (c_inV hi1) eg3 dX7_unname_15 (fun H locs hP hS => ?_)
  exact c_vret hx hb hr hlk hP hS (Option.some.inj hf) dX7_unname_16
theorem i_X7_grow_X7 : ∀ w ∈ u_ws RX7 TX7 17, w ∈ wsX7_grow := c_inP [7, 8, 9, 10, 11, 12, 13, 14, 15, 16, 17, 18, 19, 20, 21, 22, 23] (by decide +kernel)
theorem i_X7_grow_X10 : ∀ w ∈ u_ws RX10 TX10 8, w ∈ wsX7_grow := c_inP [24, 25, 26, 27, 28, 29, 30, 31] (by decide +kernel)
theorem dX7_grow_0 : decode cX7_grow 0 = .ok (.aload_n 0, 1) := by decide +kernel
theorem dX7_grow_1 : decode cX7_grow 1 = .ok (.getfield 57, 3) := by decide +kernel
theorem dX7_grow_4 : decode cX7_grow 4 = .ok (.getfield 87, 3) := by decide +kernel
theorem dX7_grow_7 : decode cX7_grow 7 = .ok (.istore_n 2, 1) := by decide +kernel
theorem dX7_grow_8 : decode cX7_grow 8 = .ok (.iconst 0, 1) := by decide +kernel
theorem dX7_grow_9 : decode cX7_grow 9 = .ok (.istore_n 3, 1) := by decide +kernel
theorem dX7_grow_10 : decode cX7_grow 10 = .ok (.iload_n 3, 1) := by decide +kernel
theorem dX7_grow_11 : decode cX7_grow 11 = .ok (.aload_n 0, 1) := by decide +kernel
theorem dX7_grow_12 : decode cX7_grow 12 = .ok (.getfield 80, 3) := by decide +kernel
theorem dX7_grow_15 : decode cX7_grow 15 = .ok (.if_icmp .ge 66, 3) := by decide +kernel
theorem dX7_grow_18 : decode cX7_grow 18 = .ok (.aload_n 0, 1) := by decide +kernel
theorem dX7_grow_19 : decode cX7_grow 19 = .ok (.getfield 33, 3) := by decide +kernel
theorem dX7_grow_22 : decode cX7_grow 22 = .ok (.iload_n 3, 1) := by decide +kernel
theorem dX7_grow_23 : decode cX7_grow 23 = .ok (.iaload, 1) := by decide +kernel
theorem dX7_grow_24 : decode cX7_grow 24 = .ok (.iload_n 1, 1) := by decide +kernel
theorem dX7_grow_25 : decode cX7_grow 25 = .ok (.if_icmp .ge 13, 3) := by decide +kernel
theorem dX7_grow_28 : decode cX7_grow 28 = .ok (.aload_n 0, 1) := by decide +kernel
theorem dX7_grow_29 : decode cX7_grow 29 = .ok (.getfield 33, 3) := by decide +kernel
theorem dX7_grow_32 : decode cX7_grow 32 = .ok (.iload_n 3, 1) := by decide +kernel
theorem dX7_grow_33 : decode cX7_grow 33 = .ok (.dup2, 1) := by decide +kernel
theorem dX7_grow_34 : decode cX7_grow 34 = .ok (.iaload, 1) := by decide +kernel
theorem dX7_grow_35 : decode cX7_grow 35 = .ok (.iconst 1, 1) := by decide +kernel
theorem dX7_grow_36 : decode cX7_grow 36 = .ok (.iadd, 1) := by decide +kernel
theorem dX7_grow_37 : decode cX7_grow 37 = .ok (.iastore, 1) := by decide +kernel
theorem dX7_grow_38 : decode cX7_grow 38 = .ok (.iload_n 2, 1) := by decide +kernel
theorem dX7_grow_39 : decode cX7_grow 39 = .ok (.ifCond .le 36, 3) := by decide +kernel
theorem dX7_grow_42 : decode cX7_grow 42 = .ok (.aload_n 0, 1) := by decide +kernel
theorem dX7_grow_43 : decode cX7_grow 43 = .ok (.getfield 33, 3) := by decide +kernel
theorem dX7_grow_46 : decode cX7_grow 46 = .ok (.iload_n 3, 1) := by decide +kernel
theorem dX7_grow_47 : decode cX7_grow 47 = .ok (.iaload, 1) := by decide +kernel
theorem dX7_grow_48 : decode cX7_grow 48 = .ok (.iload_n 2, 1) := by decide +kernel
theorem dX7_grow_49 : decode cX7_grow 49 = .ok (.irem, 1) := by decide +kernel
theorem dX7_grow_50 : decode cX7_grow 50 = .ok (.ifCond .ne 25, 3) := by decide +kernel
theorem dX7_grow_53 : decode cX7_grow 53 = .ok (.aload_n 0, 1) := by decide +kernel
theorem dX7_grow_54 : decode cX7_grow 54 = .ok (.getfield 30, 3) := by decide +kernel
theorem dX7_grow_57 : decode cX7_grow 57 = .ok (.iload_n 3, 1) := by decide +kernel
theorem dX7_grow_58 : decode cX7_grow 58 = .ok (.dup2, 1) := by decide +kernel
theorem dX7_grow_59 : decode cX7_grow 59 = .ok (.iaload, 1) := by decide +kernel
theorem dX7_grow_60 : decode cX7_grow 60 = .ok (.iconst 1, 1) := by decide +kernel
theorem dX7_grow_61 : decode cX7_grow 61 = .ok (.aload_n 0, 1) := by decide +kernel
theorem dX7_grow_62 : decode cX7_grow 62 = .ok (.getfield 33, 3) := by decide +kernel
theorem dX7_grow_65 : decode cX7_grow 65 = .ok (.iload_n 3, 1) := by decide +kernel
theorem dX7_grow_66 : decode cX7_grow 66 = .ok (.iaload, 1) := by decide +kernel
theorem dX7_grow_67 : decode cX7_grow 67 = .ok (.iload_n 3, 1) := by decide +kernel
theorem dX7_grow_68 : decode cX7_grow 68 = .ok (.iadd, 1) := by decide +kernel
theorem dX7_grow_69 : decode cX7_grow 69 = .ok (.bipush 12, 2) := by decide +kernel
theorem dX7_grow_71 : decode cX7_grow 71 = .ok (.irem, 1) := by decide +kernel
theorem dX7_grow_72 : decode cX7_grow 72 = .ok (.ishl, 1) := by decide +kernel
theorem dX7_grow_73 : decode cX7_grow 73 = .ok (.ior, 1) := by decide +kernel
theorem dX7_grow_74 : decode cX7_grow 74 = .ok (.iastore, 1) := by decide +kernel
theorem dX7_grow_75 : decode cX7_grow 75 = .ok (.iinc 3 1, 3) := by decide +kernel
theorem dX7_grow_78 : decode cX7_grow 78 = .ok (.goto (-68), 3) := by decide +kernel
theorem dX7_grow_81 : decode cX7_grow 81 = .ok (.aload_n 0, 1) := by decide +kernel
theorem dX7_grow_82 : decode cX7_grow 82 = .ok (.dup, 1) := by decide +kernel
theorem dX7_grow_83 : decode cX7_grow 83 = .ok (.getfield 77, 3) := by decide +kernel
theorem dX7_grow_86 : decode cX7_grow 86 = .ok (.iconst 1, 1) := by decide +kernel
theorem dX7_grow_87 : decode cX7_grow 87 = .ok (.iadd, 1) := by decide +kernel
theorem dX7_grow_88 : decode cX7_grow 88 = .ok (.putfield 77, 3) := by decide +kernel
theorem dX7_grow_91 : decode cX7_grow 91 = .ok (.return_, 1) := by decide +kernel
def fX7_grow_75 (rec10 : Int32 → Int32 → Int32 → c_G → Option (c_G)) (s0 : Nat) (a1 : Int32) (x1 : Int32) (x2 : Int32) (x3 : Int32) (g : c_G) : Option (c_G) :=
  c_let (x3 + (1 : Int32)) fun v75001 => rec10 x1 x2 v75001 g
set_option maxRecDepth 100000 in
set_option maxHeartbeats 4000000 in
theorem jX7_grow_75 {p : Program} {l : Launch} {e : Env} {s : State} {m : MethodId} {below : List Frame} {meth : Method} {c : Code} {D : va_G} {tc : Nat → ClassId} {ad : Nat → Nat} {A : Nat → Prop} {E : (Nat → Nat) × (Nat → Nat) × Nat} {s0 : Nat} {a1 : Int32} {g' : c_G} (C : c_C p s m meth c D tc A E RX7 wsX7_grow cX7_grow 4 none ([.ref (ad s0), .int a1] : List Value).toArray) (hD : c_D A ad TC) (hq_s0 : c_isS s0 = true) {rec10 : Int32 → Int32 → Int32 → c_G → Option (c_G)} (hrec10 : ∀ (x1 : Int32) (x2 : Int32) (x3 : Int32) (g : c_G), rec10 x1 x2 x3 g = some g' → ∀ (H : Heap) (locs : List Loc), va_P D vwCl (c_ws tc ad TC g) H → va_S A s.heap H locs → ∀ ls : Array Slot, lv_has ls 4 [(0, .ref (ad s0)), (1, .int x1), (2, .int x2), (3, .int x3)] → W p l e (c_rm 0) s m ([.ref (ad s0), .int a1] : List Value).toArray below meth c H locs 0 0 (MQ below (va_Qv (fun (_ : Unit) => True) (fun _ t => va_P D vwCl (c_ws tc ad TC g') t.heap) A) ([.ref (ad s0), .int a1] : List Value).toArray s 0 0 A) (F0 m 10 ls [])) : ∀ (x1 : Int32) (x2 : Int32) (x3 : Int32) (g : c_G), fX7_grow_75 rec10 s0 a1 x1 x2 x3 g = some g' → ∀ (H : Heap) (locs : List Loc), va_P D vwCl (c_ws tc ad TC g) H → va_S A s.heap H locs → ∀ ls : Array Slot, lv_has ls 4 [(0, .ref (ad s0)), (1, .int x1), (2, .int x2), (3, .int x3)] → W p l e (c_rm 0) s m ([.ref (ad s0), .int a1] : List Value).toArray below meth c H locs 0 0 (MQ below (va_Qv (fun (_ : Unit) => True) (fun _ t => va_P D vwCl (c_ws tc ad TC g') t.heap) A) ([.ref (ad s0), .int a1] : List Value).toArray s 0 0 A) (F0 m 75 ls []) := by
  obtain ⟨hx, hb, hr, hml, hts, hown, hlk, hK, hE⟩ := id C
  obtain ⟨fs0_0, fs0_1, fs0_2, fs0_3, fs0_4, fs0_5, fs0_6, fs0_7, fs0_8, fs0_9, fs0_10, fs0_11, fs0_12, fs0_13⟩ := c_isSE hq_s0
  intro x1 x2 x3 g hf H locs hP hS ls hl
  unfold fX7_grow_75 at hf
  obtain ⟨v75001, ev75001, hf⟩ := c_letE hf
  refine lv_iinc (v := v75001) (lv' := [(3, .int v75001), (0, .ref (ad s0)), (1, .int x1), (2, .int x2)]) hx hb dX7_grow_75 hl (k := 3) rfl (by rw [ev75001]; rfl) (by decide) rfl (fun ls hl => ?_)
  refine lv_goto (tgt := 10) hx hb dX7_grow_78 (by decide) ?_
  exact hrec10 x1 x2 v75001 g hf _ _ hP hS _ (lv_sub hl [1, 2, 3, 0] rfl)
def fX7_grow_38 (rec10 : Int32 → Int32 → Int32 → c_G → Option (c_G)) (s0 : Nat) (a1 : Int32) (x1 : Int32) (x2 : Int32) (x3 : Int32) (g : c_G) : Option (c_G) :=
  if x2 ≤ 0 then (fX7_grow_75 rec10 s0 a1 x1 x2 x3 g) else (if c_in (x3) (6) = true then if x2 = 0 then none else if ((g.1 (s0 + 8) (x3).toNatClampNeg) - (g.1 (s0 + 8) (x3).toNatClampNeg) / x2 * x2) = 0 then (c_let (((g.1 (s0 + 7) (x3).toNatClampNeg) ||| ((1 : Int32) <<< ((((g.1 (s0 + 8) (x3).toNatClampNeg) + x3) - ((g.1 (s0 + 8) (x3).toNatClampNeg) + x3) / (12 : Int32) * (12 : Int32)) &&& 31)))) fun v38005 => c_let (c_si g (s0 + 7) (x3).toNatClampNeg v38005) fun g38006 => fX7_grow_75 rec10 s0 a1 x1 x2 x3 g38006) else (fX7_grow_75 rec10 s0 a1 x1 x2 x3 g) else none)
set_option maxRecDepth 100000 in
set_option maxHeartbeats 4000000 in
theorem jX7_grow_38 {p : Program} {l : Launch} {e : Env} {s : State} {m : MethodId} {below : List Frame} {meth : Method} {c : Code} {D : va_G} {tc : Nat → ClassId} {ad : Nat → Nat} {A : Nat → Prop} {E : (Nat → Nat) × (Nat → Nat) × Nat} {s0 : Nat} {a1 : Int32} {g' : c_G} (C : c_C p s m meth c D tc A E RX7 wsX7_grow cX7_grow 4 none ([.ref (ad s0), .int a1] : List Value).toArray) (hD : c_D A ad TC) (hq_s0 : c_isS s0 = true) {rec10 : Int32 → Int32 → Int32 → c_G → Option (c_G)} (hrec10 : ∀ (x1 : Int32) (x2 : Int32) (x3 : Int32) (g : c_G), rec10 x1 x2 x3 g = some g' → ∀ (H : Heap) (locs : List Loc), va_P D vwCl (c_ws tc ad TC g) H → va_S A s.heap H locs → ∀ ls : Array Slot, lv_has ls 4 [(0, .ref (ad s0)), (1, .int x1), (2, .int x2), (3, .int x3)] → W p l e (c_rm 0) s m ([.ref (ad s0), .int a1] : List Value).toArray below meth c H locs 0 0 (MQ below (va_Qv (fun (_ : Unit) => True) (fun _ t => va_P D vwCl (c_ws tc ad TC g') t.heap) A) ([.ref (ad s0), .int a1] : List Value).toArray s 0 0 A) (F0 m 10 ls [])) : ∀ (x1 : Int32) (x2 : Int32) (x3 : Int32) (g : c_G), fX7_grow_38 rec10 s0 a1 x1 x2 x3 g = some g' → ∀ (H : Heap) (locs : List Loc), va_P D vwCl (c_ws tc ad TC g) H → va_S A s.heap H locs → ∀ ls : Array Slot, lv_has ls 4 [(0, .ref (ad s0)), (1, .int x1), (2, .int x2), (3, .int x3)] → W p l e (c_rm 0) s m ([.ref (ad s0), .int a1] : List Value).toArray below meth c H locs 0 0 (MQ below (va_Qv (fun (_ : Unit) => True) (fun _ t => va_P D vwCl (c_ws tc ad TC g') t.heap) A) ([.ref (ad s0), .int a1] : List Value).toArray s 0 0 A) (F0 m 38 ls []) := by
  obtain ⟨hx, hb, hr, hml, hts, hown, hlk, hK, hE⟩ := id C
  obtain ⟨fs0_0, fs0_1, fs0_2, fs0_3, fs0_4, fs0_5, fs0_6, fs0_7, fs0_8, fs0_9, fs0_10, fs0_11, fs0_12, fs0_13⟩ := c_isSE hq_s0
  intro x1 x2 x3 g hf H locs hP hS ls hl
  unfold fX7_grow_38 at hf
  refine lv_iload_n hx hb dX7_grow_38 rfl (lv_at hl 2 rfl) ?_
  refine lv_if_le (tgt := 75) hx hb dX7_grow_39 (by decide) (fun c38001 => ?_) (fun c38001 => ?_)
  · have hf := c_it c38001 hf
    exact jX7_grow_75 C hD hq_s0 hrec10 x1 x2 x3 g hf _ _ hP hS _ (lv_sub hl [0, 1, 2, 3] rfl)
  · have hf := c_ie c38001 hf
    refine lv_aload_n hx hb dX7_grow_42 rfl (lv_at hl 0 rfl) ?_
    refine c_get hx hb hts i_X7_grow_X7 hown hK hP s0 fs0_0 rfl 10 (by decide) (hts _ (List.mem_of_getElem? (i := 4) rfl)) (fun _ h9 => h9) rfl (v := .ref (ad (s0 + 8))) rfl dX7_grow_43 ?_
    refine lv_iload_n hx hb dX7_grow_46 rfl (lv_at hl 3 rfl) ?_
    obtain ⟨hi38002, hf⟩ := c_gd hf
    refine c_iald (j := (x3).toNatClampNeg) hx hb hK hP (s0 + 8) fs0_8 rfl (c_inV hi38002) dX7_grow_47 ?_
    refine lv_iload_n hx hb dX7_grow_48 rfl (lv_at hl 2 rfl) ?_
    obtain ⟨hz38003, hf⟩ := c_gn hf
    refine lv_irem hx hb dX7_grow_49 hz38003 ?_
    refine lv_if_ne (tgt := 75) hx hb dX7_grow_50 (by decide) (fun c38004 => ?_) (fun c38004 => ?_)
    · have hf := c_ie c38004 hf
      exact jX7_grow_75 C hD hq_s0 hrec10 x1 x2 x3 g hf _ _ hP hS _ (lv_sub hl [0, 1, 2, 3] rfl)
    · have hf := c_it c38004 hf
      refine lv_aload_n hx hb dX7_grow_53 rfl (lv_at hl 0 rfl) ?_
      refine c_get hx hb hts i_X7_grow_X7 hown hK hP s0 fs0_0 rfl 9 (by decide) (hts _ (List.mem_of_getElem? (i := 5) rfl)) (fun _ h9 => h9) rfl (v := .ref (ad (s0 + 7))) rfl dX7_grow_54 ?_
      refine lv_iload_n hx hb dX7_grow_57 rfl (lv_at hl 3 rfl) ?_
      refine lv_dup2_11 hx hb dX7_grow_58 rfl rfl ?_
      refine c_iald (j := (x3).toNatClampNeg) hx hb hK hP (s0 + 7) fs0_7 rfl (c_inV hi38002) dX7_grow_59 ?_
      refine lv_iconst (v := (1 : Int32)) hx hb dX7_grow_60 (by decide) ?_
      refine lv_aload_n hx hb dX7_grow_61 rfl (lv_at hl 0 rfl) ?_
      refine c_get hx hb hts i_X7_grow_X7 hown hK hP s0 fs0_0 rfl 10 (by decide) (hts _ (List.mem_of_getElem? (i := 4) rfl)) (fun _ h9 => h9) rfl (v := .ref (ad (s0 + 8))) rfl dX7_grow_62 ?_
      refine lv_iload_n hx hb dX7_grow_65 rfl (lv_at hl 3 rfl) ?_
      refine c_iald (j := (x3).toNatClampNeg) hx hb hK hP (s0 + 8) fs0_8 rfl (c_inV hi38002) dX7_grow_66 ?_
      refine lv_iload_n hx hb dX7_grow_67 rfl (lv_at hl 3 rfl) ?_
      refine lv_iadd hx hb dX7_grow_68 ?_
      refine lv_bipush (v := (12 : Int32)) hx hb dX7_grow_69 (by decide) ?_
      refine lv_irem hx hb dX7_grow_71 (by decide) ?_
      refine lv_ishl hx hb dX7_grow_72 ?_
      refine lv_ior hx hb dX7_grow_73 ?_
      obtain ⟨v38005, ev38005, hf⟩ := c_letE hf
      refine c_topi ev38005 ?_
      obtain ⟨g38006, eg38006, hf⟩ := c_letE hf
      refine c_iast (j := (x3).toNatClampNeg) hx hb hK hP hD hS (s0 + 7) fs0_7 rfl (c_inV hi38002) eg38006 dX7_grow_74 (fun H locs hP hS => ?_)
      exact jX7_grow_75 C hD hq_s0 hrec10 x1 x2 x3 g38006 hf _ _ hP hS _ (lv_sub hl [0, 1, 2, 3] rfl)
def fX7_grow_10  (s0 : Nat) (a1 : Int32) : Nat → Int32 → Int32 → Int32 → c_G → Option (c_G)
  | 0, _, _, _, _ => none
  | n + 1, x1, x2, x3, g => if (g.1 s0 6) ≤ x3 then (c_let (((g.1 s0 5) + (1 : Int32))) fun v10002 => c_let (c_si g s0 5 v10002) fun g10003 => some g10003) else (if c_in (x3) (6) = true then if x1 ≤ (g.1 (s0 + 8) (x3).toNatClampNeg) then (fX7_grow_38 (fX7_grow_10 s0 a1 n) s0 a1 x1 x2 x3 g) else (c_let (((g.1 (s0 + 8) (x3).toNatClampNeg) + (1 : Int32))) fun v10006 => c_let (c_si g (s0 + 8) (x3).toNatClampNeg v10006) fun g10007 => fX7_grow_38 (fX7_grow_10 s0 a1 n) s0 a1 x1 x2 x3 g10007) else none)
set_option maxRecDepth 100000 in
set_option maxHeartbeats 4000000 in
theorem jX7_grow_10 {p : Program} {l : Launch} {e : Env} {s : State} {m : MethodId} {below : List Frame} {meth : Method} {c : Code} {D : va_G} {tc : Nat → ClassId} {ad : Nat → Nat} {A : Nat → Prop} {E : (Nat → Nat) × (Nat → Nat) × Nat} {s0 : Nat} {a1 : Int32} {g' : c_G} (C : c_C p s m meth c D tc A E RX7 wsX7_grow cX7_grow 4 none ([.ref (ad s0), .int a1] : List Value).toArray) (hD : c_D A ad TC) (hq_s0 : c_isS s0 = true)  : ∀ (n : Nat) (x1 : Int32) (x2 : Int32) (x3 : Int32) (g : c_G), fX7_grow_10 s0 a1 n x1 x2 x3 g = some g' → ∀ (H : Heap) (locs : List Loc), va_P D vwCl (c_ws tc ad TC g) H → va_S A s.heap H locs → ∀ ls : Array Slot, lv_has ls 4 [(0, .ref (ad s0)), (1, .int x1), (2, .int x2), (3, .int x3)] → W p l e (c_rm 0) s m ([.ref (ad s0), .int a1] : List Value).toArray below meth c H locs 0 0 (MQ below (va_Qv (fun (_ : Unit) => True) (fun _ t => va_P D vwCl (c_ws tc ad TC g') t.heap) A) ([.ref (ad s0), .int a1] : List Value).toArray s 0 0 A) (F0 m 10 ls []) := by
  obtain ⟨hx, hb, hr, hml, hts, hown, hlk, hK, hE⟩ := id C
  obtain ⟨fs0_0, fs0_1, fs0_2, fs0_3, fs0_4, fs0_5, fs0_6, fs0_7, fs0_8, fs0_9, fs0_10, fs0_11, fs0_12, fs0_13⟩ := c_isSE hq_s0
  intro n
  induction n with
  | zero =>
    intro x1 x2 x3 g hf
    cases hf
  | succ n ih =>
    intro x1 x2 x3 g hf H locs hP hS ls hl
    unfold fX7_grow_10 at hf
    refine lv_iload_n hx hb dX7_grow_10 rfl (lv_at hl 3 rfl) ?_
    refine lv_aload_n hx hb dX7_grow_11 rfl (lv_at hl 0 rfl) ?_
    refine c_get hx hb hts i_X7_grow_X7 hown hK hP s0 fs0_0 rfl 6 (by decide) (hts _ (List.mem_of_getElem? (i := 3) rfl)) (fun _ h9 => h9) rfl (v := .int (g.1 s0 6)) rfl dX7_grow_12 ?_
    refine lv_icmp_ge (tgt := 81) hx hb dX7_grow_15 (by decide) (fun c10001 => ?_) (fun c10001 => ?_)
    · have hf := c_it c10001 hf
      refine lv_aload_n hx hb dX7_grow_81 rfl (lv_at hl 0 rfl) ?_
      refine lv_dup hx hb dX7_grow_82 rfl ?_
      refine c_get hx hb hts i_X7_grow_X7 hown hK hP s0 fs0_0 rfl 5 (by decide) (hts _ (List.mem_of_getElem? (i := 6) rfl)) (fun _ h9 => h9) rfl (v := .int (g.1 s0 5)) rfl dX7_grow_83 ?_
      refine lv_iconst (v := (1 : Int32)) hx hb dX7_grow_86 (by decide) ?_
      refine lv_iadd hx hb dX7_grow_87 ?_
      obtain ⟨v10002, ev10002, hf⟩ := c_letE hf
      refine c_topi ev10002 ?_
      obtain ⟨g10003, eg10003, hf⟩ := c_letE hf
      refine c_put hx hb hts i_X7_grow_X7 tyX7 tyX7_ok nmX7 hown hK hP hD hS s0 fs0_0 rfl 5 (by decide) (hts _ (List.mem_of_getElem? (i := 6) rfl)) (fun _ h9 => h9) rfl (ty := .int) (by decide +kernel) rfl rfl rfl eg10003 dX7_grow_88 (fun H locs hP hS => ?_)
      exact c_vret hx hb hr hlk hP hS (Option.some.inj hf) dX7_grow_91
    · have hf := c_ie c10001 hf
      refine lv_aload_n hx hb dX7_grow_18 rfl (lv_at hl 0 rfl) ?_
      refine c_get hx hb hts i_X7_grow_X7 hown hK hP s0 fs0_0 rfl 10 (by decide) (hts _ (List.mem_of_getElem? (i := 4) rfl)) (fun _ h9 => h9) rfl (v := .ref (ad (s0 + 8))) rfl dX7_grow_19 ?_
      refine lv_iload_n hx hb dX7_grow_22 rfl (lv_at hl 3 rfl) ?_
      obtain ⟨hi10004, hf⟩ := c_gd hf
      refine c_iald (j := (x3).toNatClampNeg) hx hb hK hP (s0 + 8) fs0_8 rfl (c_inV hi10004) dX7_grow_23 ?_
      refine lv_iload_n hx hb dX7_grow_24 rfl (lv_at hl 1 rfl) ?_
      refine lv_icmp_ge (tgt := 38) hx hb dX7_grow_25 (by decide) (fun c10005 => ?_) (fun c10005 => ?_)
      · have hf := c_it c10005 hf
        exact jX7_grow_38 C hD hq_s0 ih x1 x2 x3 g hf _ _ hP hS _ (lv_sub hl [0, 1, 2, 3] rfl)
      · have hf := c_ie c10005 hf
        refine lv_aload_n hx hb dX7_grow_28 rfl (lv_at hl 0 rfl) ?_
        refine c_get hx hb hts i_X7_grow_X7 hown hK hP s0 fs0_0 rfl 10 (by decide) (hts _ (List.mem_of_getElem? (i := 4) rfl)) (fun _ h9 => h9) rfl (v := .ref (ad (s0 + 8))) rfl dX7_grow_29 ?_
        refine lv_iload_n hx hb dX7_grow_32 rfl (lv_at hl 3 rfl) ?_
        refine lv_dup2_11 hx hb dX7_grow_33 rfl rfl ?_
        refine c_iald (j := (x3).toNatClampNeg) hx hb hK hP (s0 + 8) fs0_8 rfl (c_inV hi10004) dX7_grow_34 ?_
        refine lv_iconst (v := (1 : Int32)) hx hb dX7_grow_35 (by decide) ?_
        refine lv_iadd hx hb dX7_grow_36 ?_
        obtain ⟨v10006, ev10006, hf⟩ := c_letE hf
        refine c_topi ev10006 ?_
        obtain ⟨g10007, eg10007, hf⟩ := c_letE hf
        refine c_iast (j := (x3).toNatClampNeg) hx hb hK hP hD hS (s0 + 8) fs0_8 rfl (c_inV hi10004) eg10007 dX7_grow_37 (fun H locs hP hS => ?_)
        exact jX7_grow_38 C hD hq_s0 ih x1 x2 x3 g10007 hf _ _ hP hS _ (lv_sub hl [0, 1, 2, 3] rfl)
def fX7_grow (g : c_G) (s0 : Nat) (a1 : Int32) : Option (c_G) :=
  if c_isS s0 = true then (if c_isV ((g.2.2 s0)) = true then fX7_grow_10 s0 a1 c_F a1 ((g.1 (g.2.2 s0) 7)) ((0 : Int32)) g else none) else none
set_option maxRecDepth 100000 in
set_option maxHeartbeats 4000000 in
theorem kX7_grow {l : Launch} {D : va_G} {tc : Nat → ClassId} {ad : Nat → Nat} {A : Nat → Prop} {E : (Nat → Nat) × (Nat → Nat) × Nat} (hD : c_D A ad TC) {s0 : Nat} {a1 : Int32} {g g' : c_G} (hf : fX7_grow g s0 a1 = some g') : c_Mv l yX7_grow wsX7_grow (c_rm 0) D tc ad A E TC ([.ref (ad s0), .int a1] : List Value) g g' := by
  refine c_ofW (bytes := cX7_grow) (maxL := 4) (ret := none) (by decide) rfl (Nat.le_of_ble_eq_true rfl) ?_
  intro p e s m below meth c ls C hP hS hl
  unfold fX7_grow at hf
  obtain ⟨hq_s0, hf⟩ := c_gd hf
  obtain ⟨hx, hb, hr, hml, hts, hown, hlk, hK, hE⟩ := id C
  obtain ⟨fs0_0, fs0_1, fs0_2, fs0_3, fs0_4, fs0_5, fs0_6, fs0_7, fs0_8, fs0_9, fs0_10, fs0_11, fs0_12, fs0_13⟩ := c_isSE hq_s0
  have hl : lv_has ls 4 [(0, .ref (ad s0)), (1, .int a1)] := hl
  refine lv_aload_n hx hb dX7_grow_0 rfl (lv_at hl 0 rfl) ?_
  refine c_get hx hb hts i_X7_grow_X7 hown hK hP s0 fs0_0 rfl 16 (by decide) (hts _ (List.mem_of_getElem? (i := 1) rfl)) (fun _ h9 => h9) rfl (v := .ref (ad (g.2.2 s0))) rfl dX7_grow_1 ?_
  obtain ⟨hq1, hf⟩ := c_gd hf
  have hq1T := c_isVE hq1
  refine c_get hx hb hts i_X7_grow_X10 hown hK hP (g.2.2 s0) hq1T.1 rfl 7 (by decide) (hts _ (List.mem_of_getElem? (i := 2) rfl)) (fun _ h9 => h9) rfl (v := .int (g.1 (g.2.2 s0) 7)) rfl dX7_grow_4 ?_
  refine lv_istore_n (lv' := [(2, .int (g.1 (g.2.2 s0) 7)), (0, .ref (ad s0)), (1, .int a1)]) hx hb dX7_grow_7 rfl hl (by decide) rfl (fun ls hl => ?_)
  refine lv_iconst (v := (0 : Int32)) hx hb dX7_grow_8 (by decide) ?_
  refine lv_istore_n (lv' := [(3, .int (0 : Int32)), (2, .int (g.1 (g.2.2 s0) 7)), (0, .ref (ad s0)), (1, .int a1)]) hx hb dX7_grow_9 rfl hl (by decide) rfl (fun ls hl => ?_)
  exact jX7_grow_10 C hD hq_s0 c_F a1 ((g.1 (g.2.2 s0) 7)) ((0 : Int32)) g hf _ _ hP hS _ (lv_sub hl [2, 3, 1, 0] rfl)
