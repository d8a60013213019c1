theorem i_X11_deal_X7 : ∀ w ∈ u_ws RX7 TX7 17, w ∈ wsX11_deal := c_inP [49, 50, 51, 52, 53, 54, 55, 56, 57, 58, 59, 60, 61, 62, 63, 64, 65] (by decide +kernel)
theorem i_X11_deal_X11 : ∀ w ∈ u_ws RX11 TX11 19, w ∈ wsX11_deal := c_inP [30, 31, 32, 33, 34, 35, 36, 37, 38, 39, 40, 41, 42, 43, 44, 45, 46, 47, 48] (by decide +kernel)
theorem dX11_deal_0 : decode cX11_deal 0 = .ok (.iload 4, 2) := by decide +kernel
theorem dX11_deal_2 : decode cX11_deal 2 = .ok (.aload_n 0, 1) := by decide +kernel
theorem dX11_deal_3 : decode cX11_deal 3 = .ok (.getfield 86, 3) := by decide +kernel
theorem dX11_deal_6 : decode cX11_deal 6 = .ok (.getfield 109, 3) := by decide +kernel
theorem dX11_deal_9 : decode cX11_deal 9 = .ok (.iadd, 1) := by decide +kernel
theorem dX11_deal_10 : decode cX11_deal 10 = .ok (.iload_n 1, 1) := by decide +kernel
theorem dX11_deal_11 : decode cX11_deal 11 = .ok (.isub, 1) := by decide +kernel
theorem dX11_deal_12 : decode cX11_deal 12 = .ok (.aload_n 0, 1) := by decide +kernel
theorem dX11_deal_13 : decode cX11_deal 13 = .ok (.getfield 213, 3) := by decide +kernel
theorem dX11_deal_16 : decode cX11_deal 16 = .ok (.if_icmp .gt 4, 3) := by decide +kernel
theorem dX11_deal_19 : decode cX11_deal 19 = .ok (.return_, 1) := by decide +kernel
theorem dX11_deal_20 : decode cX11_deal 20 = .ok (.iload_n 1, 1) := by decide +kernel
theorem dX11_deal_21 : decode cX11_deal 21 = .ok (.aload_n 0, 1) := by decide +kernel
theorem dX11_deal_22 : decode cX11_deal 22 = .ok (.getfield 86, 3) := by decide +kernel
theorem dX11_deal_25 : decode cX11_deal 25 = .ok (.getfield 109, 3) := by decide +kernel
theorem dX11_deal_28 : decode cX11_deal 28 = .ok (.if_icmp .lt 25, 3) := by decide +kernel
theorem dX11_deal_31 : decode cX11_deal 31 = .ok (.aload_n 0, 1) := by decide +kernel
theorem dX11_deal_32 : decode cX11_deal 32 = .ok (.iload 4, 2) := by decide +kernel
theorem dX11_deal_34 : decode cX11_deal 34 = .ok (.putfield 213, 3) := by decide +kernel
theorem dX11_deal_37 : decode cX11_deal 37 = .ok (.aload_n 0, 1) := by decide +kernel
theorem dX11_deal_38 : decode cX11_deal 38 = .ok (.getfield 31, 3) := by decide +kernel
theorem dX11_deal_41 : decode cX11_deal 41 = .ok (.iconst 0, 1) := by decide +kernel
theorem dX11_deal_42 : decode cX11_deal 42 = .ok (.aload_n 0, 1) := by decide +kernel
theorem dX11_deal_43 : decode cX11_deal 43 = .ok (.getfield 34, 3) := by decide +kernel
theorem dX11_deal_46 : decode cX11_deal 46 = .ok (.iconst 0, 1) := by decide +kernel
theorem dX11_deal_47 : decode cX11_deal 47 = .ok (.bipush 6, 2) := by decide +kernel
theorem dX11_deal_49 : decode cX11_deal 49 = .ok (.invokestatic 316, 3) := by decide +kernel
theorem dX11_deal_52 : decode cX11_deal 52 = .ok (.return_, 1) := by decide +kernel
theorem dX11_deal_53 : decode cX11_deal 53 = .ok (.iconst 0, 1) := by decide +kernel
theorem dX11_deal_54 : decode cX11_deal 54 = .ok (.istore 5, 2) := by decide +kernel
theorem dX11_deal_56 : decode cX11_deal 56 = .ok (.iload 5, 2) := by decide +kernel
theorem dX11_deal_58 : decode cX11_deal 58 = .ok (.bipush 6, 2) := by decide +kernel
theorem dX11_deal_60 : decode cX11_deal 60 = .ok (.if_icmp .ge 29, 3) := by decide +kernel
theorem dX11_deal_63 : decode cX11_deal 63 = .ok (.iload_n 2, 1) := by decide +kernel
theorem dX11_deal_64 : decode cX11_deal 64 = .ok (.iload 5, 2) := by decide +kernel
theorem dX11_deal_66 : decode cX11_deal 66 = .ok (.ishr, 1) := by decide +kernel
theorem dX11_deal_67 : decode cX11_deal 67 = .ok (.iconst 1, 1) := by decide +kernel
theorem dX11_deal_68 : decode cX11_deal 68 = .ok (.iand, 1) := by decide +kernel
theorem dX11_deal_69 : decode cX11_deal 69 = .ok (.ifCond .ne 14, 3) := by decide +kernel
theorem dX11_deal_72 : decode cX11_deal 72 = .ok (.aload_n 0, 1) := by decide +kernel
theorem dX11_deal_73 : decode cX11_deal 73 = .ok (.iload_n 1, 1) := by decide +kernel
theorem dX11_deal_74 : decode cX11_deal 74 = .ok (.iload 5, 2) := by decide +kernel
theorem dX11_deal_76 : decode cX11_deal 76 = .ok (.iload_n 2, 1) := by decide +kernel
theorem dX11_deal_77 : decode cX11_deal 77 = .ok (.iload_n 3, 1) := by decide +kernel
theorem dX11_deal_78 : decode cX11_deal 78 = .ok (.iload 4, 2) := by decide +kernel
theorem dX11_deal_80 : decode cX11_deal 80 = .ok (.invokevirtual 343, 3) := by decide +kernel
theorem dX11_deal_83 : decode cX11_deal 83 = .ok (.iinc 5 1, 3) := by decide +kernel
theorem dX11_deal_86 : decode cX11_deal 86 = .ok (.goto (-30), 3) := by decide +kernel
theorem dX11_deal_89 : decode cX11_deal 89 = .ok (.return_, 1) := by decide +kernel
set_option maxRecDepth 20000 in
theorem ggX11_deal_X11_give : GoodIn wsX11_deal wsX11_give := goodIn_r _ [14, 1, 15, 16, 4, 17, 18, 19, 20, 21, 22, 23, 24, 25, 13, 26, 27, 28, 29, 0, 2, 3, 5, 6, 7, 8, 9, 10, 11, 12, 30, 31, 32, 33, 34, 35, 36, 37, 38, 39, 40, 41, 42, 43, 44, 45, 46, 47, 48, 49, 50, 51, 52, 53, 54, 55, 56, 57, 58, 59, 60, 61, 62, 63, 64, 65] (by decide +kernel) (by decide +kernel)
set_option maxRecDepth 20000 in
theorem gX11_deal_X11_give : GoodIn wsX11_deal (wsV RX11 343 RX11 yX11_give wsX11_give) := goodIn_app (goodIn_of _ (by decide +kernel)) ggX11_deal_X11_give
def fX11_deal_83 (F : Nat → c_G → Int32 → Int32 → Int32 → Int32 → Int32 → Option (c_G)) (rec56 : Int32 → Int32 → Int32 → Int32 → Int32 → c_G → Option (c_G)) (a1 : Int32) (a2 : Int32) (a3 : Int32) (a4 : Int32) (x1 : Int32) (x2 : Int32) (x3 : Int32) (x4 : Int32) (x5 : Int32) (g : c_G) : Option (c_G) :=
  c_let (x5 + (1 : Int32)) fun v83001 => rec56 x1 x2 x3 x4 v83001 g
set_option maxRecDepth 100000 in
set_option maxHeartbeats 4000000 in
theorem jX11_deal_83 {p : Program} {l : Launch} {e : Env} {s : State} {m : MethodId} {below : List Frame} {meth : Method} {c : Code} {D : va_G} {tc : Nat → ClassId} {ad : Nat → Nat} {A : Nat → Prop} {E : (Nat → Nat) × (Nat → Nat) × Nat} {F : Nat → c_G → Int32 → Int32 → Int32 → Int32 → Int32 → Option (c_G)} {dd : Nat} {a1 : Int32} {a2 : Int32} {a3 : Int32} {a4 : Int32} {g' : c_G} (C : c_C p s m meth c D tc A E RX11 wsX11_deal cX11_deal 6 none ([.ref (ad 0), .int a1, .int a2, .int a3, .int a4] : List Value).toArray) (hD : c_D A ad TC) (hF0 : ∀ {g g' : c_G} {a1 : Int32} {a2 : Int32} {a3 : Int32} {a4 : Int32}, F 0 g a1 a2 a3 a4 0 = some g' → c_Mv l yX11_deal wsX11_deal (c_rm (1 + dd)) D tc ad A E TC [.ref (ad 0), .int a1, .int a2, .int a3, .int a4] g g') (hF1 : ∀ {g g' : c_G} {a1 : Int32} {a2 : Int32} {a3 : Int32} {a4 : Int32} {a5 : Int32}, F 1 g a1 a2 a3 a4 a5 = some g' → c_Mv l yX11_give wsX11_give (c_rm (1 + dd)) D tc ad A E TC [.ref (ad 0), .int a1, .int a2, .int a3, .int a4, .int a5] g g') {rec56 : Int32 → Int32 → Int32 → Int32 → Int32 → c_G → Option (c_G)} (hrec56 : ∀ (x1 : Int32) (x2 : Int32) (x3 : Int32) (x4 : Int32) (x5 : Int32) (g : c_G), rec56 x1 x2 x3 x4 x5 g = some g' → ∀ (H : Heap) (locs : List Loc), va_P D vwCl (c_ws tc ad TC g) H → va_S A s.heap H locs → ∀ ls : Array Slot, lv_has ls 6 [(0, .ref (ad 0)), (1, .int x1), (2, .int x2), (3, .int x3), (4, .int x4), (5, .int x5)] → W p l e (c_rm (1 + dd + 1)) s m ([.ref (ad 0), .int a1, .int a2, .int a3, .int a4] : List Value).toArray below meth c H locs 0 0 (MQ below (va_Qv (fun (_ : Unit) => True) (fun _ t => va_P D vwCl (c_ws tc ad TC g') t.heap) A) ([.ref (ad 0), .int a1, .int a2, .int a3, .int a4] : List Value).toArray s 0 0 A) (F0 m 56 ls [])) : ∀ (x1 : Int32) (x2 : Int32) (x3 : Int32) (x4 : Int32) (x5 : Int32) (g : c_G), fX11_deal_83 F rec56 a1 a2 a3 a4 x1 x2 x3 x4 x5 g = some g' → ∀ (H : Heap) (locs : List Loc), va_P D vwCl (c_ws tc ad TC g) H → va_S A s.heap H locs → ∀ ls : Array Slot, lv_has ls 6 [(0, .ref (ad 0)), (1, .int x1), (2, .int x2), (3, .int x3), (4, .int x4), (5, .int x5)] → W p l e (c_rm (1 + dd + 1)) s m ([.ref (ad 0), .int a1, .int a2, .int a3, .int a4] : List Value).toArray below meth c H locs 0 0 (MQ below (va_Qv (fun (_ : Unit) => True) (fun _ t => va_P D vwCl (c_ws tc ad TC g') t.heap) A) ([.ref (ad 0), .int a1, .int a2, .int a3, .int a4] : List Value).toArray s 0 0 A) (F0 m 83 ls []) := by
  obtain ⟨hx, hb, hr, hml, hts, hown, hlk, hK, hE⟩ := id C
  intro x1 x2 x3 x4 x5 g hf H locs hP hS ls hl
  unfold fX11_deal_83 at hf
  obtain ⟨v83001, ev83001, hf⟩ := c_letE hf
  refine lv_iinc (v := v83001) (lv' := [(5, .int v83001), (0, .ref (ad 0)), (1, .int x1), (2, .int x2), (3, .int x3), (4, .int x4)]) hx hb dX11_deal_83 hl (k := 5) rfl (by rw [ev83001]; rfl) (by decide) rfl (fun ls hl => ?_)
  refine lv_goto (tgt := 56) hx hb dX11_deal_86 (by decide) ?_
  exact hrec56 x1 x2 x3 x4 v83001 g hf _ _ hP hS _ (lv_sub hl [1, 2, 3, 4, 5, 0] rfl)
def fX11_deal_56 (F : Nat → c_G → Int32 → Int32 → Int32 → Int32 → Int32 → Option (c_G))  (a1 : Int32) (a2 : Int32) (a3 : Int32) (a4 : Int32) : Nat → Int32 → Int32 → Int32 → Int32 → Int32 → c_G → Option (c_G)
  | 0, _, _, _, _, _, _ => none
  | n + 1, x1, x2, x3, x4, x5, g => if (6 : Int32) ≤ x5 then (some g) else (if ((x2 >>> (x5 &&& 31)) &&& (1 : Int32)) = 0 then ((F 1 g x1 x5 x2 x3 x4).bind fun g56004 => fX11_deal_83 F (fX11_deal_56 F a1 a2 a3 a4 n) a1 a2 a3 a4 x1 x2 x3 x4 x5 g56004) else (fX11_deal_83 F (fX11_deal_56 F a1 a2 a3 a4 n) a1 a2 a3 a4 x1 x2 x3 x4 x5 g))
set_option maxRecDepth 100000 in
set_option maxHeartbeats 4000000 in
theorem jX11_deal_56 {p : Program} {l : Launch} {e : Env} {s : State} {m : MethodId} {below : List Frame} {meth : Method} {c : Code} {D : va_G} {tc : Nat → ClassId} {ad : Nat → Nat} {A : Nat → Prop} {E : (Nat → Nat) × (Nat → Nat) × Nat} {F : Nat → c_G → Int32 → Int32 → Int32 → Int32 → Int32 → Option (c_G)} {dd : Nat} {a1 : Int32} {a2 : Int32} {a3 : Int32} {a4 : Int32} {g' : c_G} (C : c_C p s m meth c D tc A E RX11 wsX11_deal cX11_deal 6 none ([.ref (ad 0), .int a1, .int a2, .int a3, .int a4] : List Value).toArray) (hD : c_D A ad TC) (hF0 : ∀ {g g' : c_G} {a1 : Int32} {a2 : Int32} {a3 : Int32} {a4 : Int32}, F 0 g a1 a2 a3 a4 0 = some g' → c_Mv l yX11_deal wsX11_deal (c_rm (1 + dd)) D tc ad A E TC [.ref (ad 0), .int a1, .int a2, .int a3, .int a4] g g') (hF1 : ∀ {g g' : c_G} {a1 : Int32} {a2 : Int32} {a3 : Int32} {a4 : Int32} {a5 : Int32}, F 1 g a1 a2 a3 a4 a5 = some g' → c_Mv l yX11_give wsX11_give (c_rm (1 + dd)) D tc ad A E TC [.ref (ad 0), .int a1, .int a2, .int a3, .int a4, .int a5] g g')  : ∀ (n : Nat) (x1 : Int32) (x2 : Int32) (x3 : Int32) (x4 : Int32) (x5 : Int32) (g : c_G), fX11_deal_56 F a1 a2 a3 a4 n x1 x2 x3 x4 x5 g = some g' → ∀ (H : Heap) (locs : List Loc), va_P D vwCl (c_ws tc ad TC g) H → va_S A s.heap H locs → ∀ ls : Array Slot, lv_has ls 6 [(0, .ref (ad 0)), (1, .int x1), (2, .int x2), (3, .int x3), (4, .int x4), (5, .int x5)] → W p l e (c_rm (1 + dd + 1)) s m ([.ref (ad 0), .int a1, .int a2, .int a3, .int a4] : List Value).toArray below meth c H locs 0 0 (MQ below (va_Qv (fun (_ : Unit) => True) (fun _ t => va_P D vwCl (c_ws tc ad TC g') t.heap) A) ([.ref (ad 0), .int a1, .int a2, .int a3, .int a4] : List Value).toArray s 0 0 A) (F0 m 56 ls []) := by
  obtain ⟨hx, hb, hr, hml, hts, hown, hlk, hK, hE⟩ := id C
  intro n
  induction n with
  | zero =>
    intro x1 x2 x3 x4 x5 g hf
    cases hf
  | succ n ih =>
    intro x1 x2 x3 x4 x5 g hf H locs hP hS ls hl
    unfold fX11_deal_56 at hf
    refine lv_iload hx hb dX11_deal_56 (lv_at hl 5 rfl) ?_
    refine lv_bipush (v := (6 : Int32)) hx hb dX11_deal_58 (by decide) ?_
    refine lv_icmp_ge (tgt := 89) hx hb dX11_deal_60 (by decide) (fun c56001 => ?_) (fun c56001 => ?_)
    · have hf := c_it c56001 hf
      exact c_vret hx hb hr hlk hP hS (Option.some.inj hf) dX11_deal_89
    · have hf := c_ie c56001 hf
      refine lv_iload_n hx hb dX11_deal_63 rfl (lv_at hl 2 rfl) ?_
      refine lv_iload hx hb dX11_deal_64 (lv_at hl 5 rfl) ?_
      refine lv_ishr hx hb dX11_deal_66 ?_
      refine lv_iconst (v := (1 : Int32)) hx hb dX11_deal_67 (by decide) ?_
      refine lv_iand hx hb dX11_deal_68 ?_
      refine lv_if_ne (tgt := 83) hx hb dX11_deal_69 (by decide) (fun c56002 => ?_) (fun c56002 => ?_)
      · have hf := c_ie c56002 hf
        exact jX11_deal_83 C hD hF0 hF1 ih x1 x2 x3 x4 x5 g hf _ _ hP hS _ (lv_sub hl [0, 1, 2, 3, 4, 5] rfl)
      · have hf := c_it c56002 hf
        refine lv_aload_n hx hb dX11_deal_72 rfl (lv_at hl 0 rfl) ?_
        refine lv_iload_n hx hb dX11_deal_73 rfl (lv_at hl 1 rfl) ?_
        refine lv_iload hx hb dX11_deal_74 (lv_at hl 5 rfl) ?_
        refine lv_iload_n hx hb dX11_deal_76 rfl (lv_at hl 2 rfl) ?_
        refine lv_iload_n hx hb dX11_deal_77 rfl (lv_at hl 3 rfl) ?_
        refine lv_iload hx hb dX11_deal_78 (lv_at hl 4 rfl) ?_
        obtain ⟨g56004, hc56003, hf⟩ := c_bd hf
        refine c_gov (va_runV (As := [.int x1, .int x5, .int x2, .int x3, .int x4]) (rest := []) ⟨hx, hb, hml, hown, hts⟩ (hF1 hc56003) (cwV 5 hts gX11_deal_X11_give rfl rfl rfl (by decide +kernel) ⟨by simp only [c_rm]; omega, by simp only [c_rm]; omega⟩) (c_preV hK hP hE hS tC0 rfl) rfl rfl hl.1 rfl (lv_room (Nat.le_of_ble_eq_true rfl)) dX11_deal_80 ⟨Nat.zero_le _, Nat.zero_le _⟩) hS (fun H locs hP hS => ?_)
        exact jX11_deal_83 C hD hF0 hF1 ih x1 x2 x3 x4 x5 g56004 hf _ _ hP hS _ (lv_sub hl [0, 1, 2, 3, 4, 5] rfl)
def fX11_deal (F : Nat → c_G → Int32 → Int32 → Int32 → Int32 → Int32 → Option (c_G)) (g : c_G) (a1 : Int32) (a2 : Int32) (a3 : Int32) (a4 : Int32) : Option (c_G) :=
  if (g.1 0 14) < ((a4 + (g.1 55 6)) - a1) then (if a1 < (g.1 55 6) then (fX11_deal_56 F a1 a2 a3 a4 c_F a1 a2 a3 a4 ((0 : Int32)) g) else (c_let (c_si g 0 14 a4) fun g3 => c_let (c_sr g3 7 (va_cpy (g3.1 6) (g3.1 7) ((0 : Int32)).toNatClampNeg ((0 : Int32)).toNatClampNeg ((6 : Int32)).toNatClampNeg)) fun g4 => some g4)) else (some g)
set_option maxRecDepth 100000 in
set_option maxHeartbeats 4000000 in
theorem kX11_deal {l : Launch} {D : va_G} {tc : Nat → ClassId} {ad : Nat → Nat} {A : Nat → Prop} {E : (Nat → Nat) × (Nat → Nat) × Nat} {F : Nat → c_G → Int32 → Int32 → Int32 → Int32 → Int32 → Option (c_G)} {dd : Nat} (hF0 : ∀ {g g' : c_G} {a1 : Int32} {a2 : Int32} {a3 : Int32} {a4 : Int32}, F 0 g a1 a2 a3 a4 0 = some g' → c_Mv l yX11_deal wsX11_deal (c_rm (1 + dd)) D tc ad A E TC [.ref (ad 0), .int a1, .int a2, .int a3, .int a4] g g') (hF1 : ∀ {g g' : c_G} {a1 : Int32} {a2 : Int32} {a3 : Int32} {a4 : Int32} {a5 : Int32}, F 1 g a1 a2 a3 a4 a5 = some g' → c_Mv l yX11_give wsX11_give (c_rm (1 + dd)) D tc ad A E TC [.ref (ad 0), .int a1, .int a2, .int a3, .int a4, .int a5] g g') (hD : c_D A ad TC) {a1 : Int32} {a2 : Int32} {a3 : Int32} {a4 : Int32} {g g' : c_G} (hf : fX11_deal F g a1 a2 a3 a4 = some g') : c_Mv l yX11_deal wsX11_deal (c_rm (1 + dd + 1)) D tc ad A E TC ([.ref (ad 0), .int a1, .int a2, .int a3, .int a4] : List Value) g g' := by
  refine c_ofW (bytes := cX11_deal) (maxL := 6) (ret := none) (by decide) rfl (Nat.le_of_ble_eq_true rfl) ?_
  intro p e s m below meth c ls C hP hS hl
  unfold fX11_deal at hf
  obtain ⟨hx, hb, hr, hml, hts, hown, hlk, hK, hE⟩ := id C
  have hl : lv_has ls 6 [(0, .ref (ad 0)), (1, .int a1), (2, .int a2), (3, .int a3), (4, .int a4)] := hl
  refine lv_iload hx hb dX11_deal_0 (lv_at hl 4 rfl) ?_
  refine lv_aload_n hx hb dX11_deal_2 rfl (lv_at hl 0 rfl) ?_
  refine c_get hx hb hts i_X11_deal_X11 hown hK hP 0 tC0 rfl 5 (by decide) (hts _ (List.mem_of_getElem? (i := 1) rfl)) (fun _ h9 => h9) rfl (v := .ref (ad 55)) rfl dX11_deal_3 ?_
  refine c_get hx hb hts i_X11_deal_X7 hown hK hP 55 tC55 rfl 6 (by decide) (hts _ (List.mem_of_getElem? (i := 2) rfl)) (fun _ h9 => h9) rfl (v := .int (g.1 55 6)) rfl dX11_deal_6 ?_
  refine lv_iadd hx hb dX11_deal_9 ?_
  refine lv_iload_n hx hb dX11_deal_10 rfl (lv_at hl 1 rfl) ?_
  refine lv_isub hx hb dX11_deal_11 ?_
  refine lv_aload_n hx hb dX11_deal_12 rfl (lv_at hl 0 rfl) ?_
  refine c_get hx hb hts i_X11_deal_X11 hown hK hP 0 tC0 rfl 14 (by decide) (hts _ (List.mem_of_getElem? (i := 3) rfl)) (fun _ h9 => h9) rfl (v := .int (g.1 0 14)) rfl dX11_deal_13 ?_
  refine lv_icmp_gt (tgt := 20) hx hb dX11_deal_16 (by decide) (fun c1 => ?_) (fun c1 => ?_)
  · have hf := c_it c1 hf
    refine lv_iload_n hx hb dX11_deal_20 rfl (lv_at hl 1 rfl) ?_
    refine lv_aload_n hx hb dX11_deal_21 rfl (lv_at hl 0 rfl) ?_
    refine c_get hx hb hts i_X11_deal_X11 hown hK hP 0 tC0 rfl 5 (by decide) (hts _ (List.mem_of_getElem? (i := 1) rfl)) (fun _ h9 => h9) rfl (v := .ref (ad 55)) rfl dX11_deal_22 ?_
    refine c_get hx hb hts i_X11_deal_X7 hown hK hP 55 tC55 rfl 6 (by decide) (hts _ (List.mem_of_getElem? (i := 2) rfl)) (fun _ h9 => h9) rfl (v := .int (g.1 55 6)) rfl dX11_deal_25 ?_
    refine lv_icmp_lt (tgt := 53) hx hb dX11_deal_28 (by decide) (fun c2 => ?_) (fun c2 => ?_)
    · have hf := c_it c2 hf
      refine lv_iconst (v := (0 : Int32)) hx hb dX11_deal_53 (by decide) ?_
      refine lv_istore (lv' := [(5, .int (0 : Int32)), (0, .ref (ad 0)), (1, .int a1), (2, .int a2), (3, .int a3), (4, .int a4)]) hx hb dX11_deal_54 hl (by decide) rfl (fun ls hl => ?_)
      exact jX11_deal_56 C hD hF0 hF1 c_F a1 a2 a3 a4 ((0 : Int32)) g hf _ _ hP hS _ (lv_sub hl [1, 2, 3, 4, 5, 0] rfl)
    · have hf := c_ie c2 hf
      refine lv_aload_n hx hb dX11_deal_31 rfl (lv_at hl 0 rfl) ?_
      refine lv_iload hx hb dX11_deal_32 (lv_at hl 4 rfl) ?_
      obtain ⟨g3, eg3, hf⟩ := c_letE hf
      refine c_put hx hb hts i_X11_deal_X11 tyX11 tyX11_ok nmX11 hown hK hP hD hS 0 tC0 rfl 14 (by decide) (hts _ (List.mem_of_getElem? (i := 3) rfl)) (fun _ h9 => h9) rfl (ty := .int) (by decide +kernel) rfl rfl rfl eg3 dX11_deal_34 (fun H locs hP hS => ?_)
      refine lv_aload_n hx hb dX11_deal_37 rfl (lv_at hl 0 rfl) ?_
      refine c_get hx hb hts i_X11_deal_X11 hown hK hP 0 tC0 rfl 12 (by decide) (hts _ (List.mem_of_getElem? (i := 4) rfl)) (fun _ h9 => h9) rfl (v := .ref (ad 6)) rfl dX11_deal_38 ?_
      refine lv_iconst (v := (0 : Int32)) hx hb dX11_deal_41 (by decide) ?_
      refine lv_aload_n hx hb dX11_deal_42 rfl (lv_at hl 0 rfl) ?_
      refine c_get hx hb hts i_X11_deal_X11 hown hK hP 0 tC0 rfl 13 (by decide) (hts _ (List.mem_of_getElem? (i := 5) rfl)) (fun _ h9 => h9) rfl (v := .ref (ad 7)) rfl dX11_deal_43 ?_
      refine lv_iconst (v := (0 : Int32)) hx hb dX11_deal_46 (by decide) ?_
      refine lv_bipush (v := (6 : Int32)) hx hb dX11_deal_47 (by decide) ?_
      obtain ⟨g4, eg4, hf⟩ := c_letE hf
      refine c_copyi hx hb (hml.trans hl.1.symm) hown (hts _ (List.mem_of_getElem? (i := 6) rfl)) (hts _ (List.mem_of_getElem? (i := 7) rfl)) (hts _ (List.mem_of_getElem? (i := 8) rfl)) (hts _ (List.mem_of_getElem? (i := 9) rfl)) hK hP hD hS 6 7 tC6 tC7 (by decide) (by decide) (by decide) (by decide) (by decide) (Nat.le_of_ble_eq_true rfl) (Nat.le_of_ble_eq_true rfl) eg4 dX11_deal_49 (fun H locs hP hS => ?_)
      exact c_vret hx hb hr hlk hP hS (Option.some.inj hf) dX11_deal_52
  · have hf := c_ie c1 hf
    exact c_vret hx hb hr hlk hP hS (Option.some.inj hf) dX11_deal_19
theorem i_X11_give_X7 : ∀ w ∈ u_ws RX7 TX7 17, w ∈ wsX11_give := c_inP [49, 50, 51, 52, 53, 54, 55, 56, 57, 58, 59, 60, 61, 62, 63, 64, 65] (by decide +kernel)
theorem i_X11_give_X11 : ∀ w ∈ u_ws RX11 TX11 19, w ∈ wsX11_give := c_inP [30, 31, 32, 33, 34, 35, 36, 37, 38, 39, 40, 41, 42, 43, 44, 45, 46, 47, 48] (by decide +kernel)
theorem dX11_give_0 : decode cX11_give 0 = .ok (.iload_n 1, 1) := by decide +kernel
theorem dX11_give_1 : decode cX11_give 1 = .ok (.bipush 6, 2) := by decide +kernel
theorem dX11_give_3 : decode cX11_give 3 = .ok (.imul, 1) := by decide +kernel
theorem dX11_give_4 : decode cX11_give 4 = .ok (.iload_n 2, 1) := by decide +kernel
theorem dX11_give_5 : decode cX11_give 5 = .ok (.iadd, 1) := by decide +kernel
theorem dX11_give_6 : decode cX11_give 6 = .ok (.bipush 12, 2) := by decide +kernel
theorem dX11_give_8 : decode cX11_give 8 = .ok (.imul, 1) := by decide +kernel
theorem dX11_give_9 : decode cX11_give 9 = .ok (.istore 6, 2) := by decide +kernel
theorem dX11_give_11 : decode cX11_give 11 = .ok (.aload_n 0, 1) := by decide +kernel
theorem dX11_give_12 : decode cX11_give 12 = .ok (.getfield 86, 3) := by decide +kernel
theorem dX11_give_15 : decode cX11_give 15 = .ok (.iload_n 2, 1) := by decide +kernel
theorem dX11_give_16 : decode cX11_give 16 = .ok (.invokevirtual 329, 3) := by decide +kernel
theorem dX11_give_19 : decode cX11_give 19 = .ok (.ifCond .eq 29, 3) := by decide +kernel
theorem dX11_give_22 : decode cX11_give 22 = .ok (.aload_n 0, 1) := by decide +kernel
theorem dX11_give_23 : decode cX11_give 23 = .ok (.getfield 28, 3) := by decide +kernel
theorem dX11_give_26 : decode cX11_give 26 = .ok (.iload 6, 2) := by decide +kernel
theorem dX11_give_28 : decode cX11_give 28 = .ok (.aload_n 0, 1) := by decide +kernel
theorem dX11_give_29 : decode cX11_give 29 = .ok (.getfield 86, 3) := by decide +kernel
theorem dX11_give_32 : decode cX11_give 32 = .ok (.getfield 126, 3) := by decide +kernel
theorem dX11_give_35 : decode cX11_give 35 = .ok (.iload_n 1, 1) := by decide +kernel
theorem dX11_give_36 : decode cX11_give 36 = .ok (.iaload, 1) := by decide +kernel
theorem dX11_give_37 : decode cX11_give 37 = .ok (.iload 4, 2) := by decide +kernel
theorem dX11_give_39 : decode cX11_give 39 = .ok (.iconst (-1), 1) := by decide +kernel
theorem dX11_give_40 : decode cX11_give 40 = .ok (.ixor, 1) := by decide +kernel
theorem dX11_give_41 : decode cX11_give 41 = .ok (.iand, 1) := by decide +kernel
theorem dX11_give_42 : decode cX11_give 42 = .ok (.invokestatic 332, 3) := by decide +kernel
theorem dX11_give_45 : decode cX11_give 45 = .ok (.goto 5, 3) := by decide +kernel
theorem dX11_give_48 : decode cX11_give 48 = .ok (.bipush (-5), 2) := by decide +kernel
theorem dX11_give_50 : decode cX11_give 50 = .ok (.istore 7, 2) := by decide +kernel
theorem dX11_give_52 : decode cX11_give 52 = .ok (.aload_n 0, 1) := by decide +kernel
theorem dX11_give_53 : decode cX11_give 53 = .ok (.getfield 31, 3) := by decide +kernel
theorem dX11_give_56 : decode cX11_give 56 = .ok (.iload_n 1, 1) := by decide +kernel
theorem dX11_give_57 : decode cX11_give 57 = .ok (.iload_n 2, 1) := by decide +kernel
theorem dX11_give_58 : decode cX11_give 58 = .ok (.iastore, 1) := by decide +kernel
theorem dX11_give_59 : decode cX11_give 59 = .ok (.iload 7, 2) := by decide +kernel
theorem dX11_give_61 : decode cX11_give 61 = .ok (.bipush (-5), 2) := by decide +kernel
theorem dX11_give_63 : decode cX11_give 63 = .ok (.if_icmp .ne 22, 3) := by decide +kernel
theorem dX11_give_66 : decode cX11_give 66 = .ok (.aload_n 0, 1) := by decide +kernel
theorem dX11_give_67 : decode cX11_give 67 = .ok (.iload_n 1, 1) := by decide +kernel
theorem dX11_give_68 : decode cX11_give 68 = .ok (.iconst 1, 1) := by decide +kernel
theorem dX11_give_69 : decode cX11_give 69 = .ok (.iadd, 1) := by decide +kernel
theorem dX11_give_70 : decode cX11_give 70 = .ok (.iload_n 3, 1) := by decide +kernel
theorem dX11_give_71 : decode cX11_give 71 = .ok (.iconst 1, 1) := by decide +kernel
theorem dX11_give_72 : decode cX11_give 72 = .ok (.iload_n 2, 1) := by decide +kernel
theorem dX11_give_73 : decode cX11_give 73 = .ok (.ishl, 1) := by decide +kernel
theorem dX11_give_74 : decode cX11_give 74 = .ok (.ior, 1) := by decide +kernel
theorem dX11_give_75 : decode cX11_give 75 = .ok (.iload 4, 2) := by decide +kernel
theorem dX11_give_77 : decode cX11_give 77 = .ok (.iload 5, 2) := by decide +kernel
theorem dX11_give_79 : decode cX11_give 79 = .ok (.invokevirtual 339, 3) := by decide +kernel
theorem dX11_give_82 : decode cX11_give 82 = .ok (.goto 26, 3) := by decide +kernel
theorem dX11_give_85 : decode cX11_give 85 = .ok (.aload_n 0, 1) := by decide +kernel
theorem dX11_give_86 : decode cX11_give 86 = .ok (.iload_n 1, 1) := by decide +kernel
theorem dX11_give_87 : decode cX11_give 87 = .ok (.iconst 1, 1) := by decide +kernel
theorem dX11_give_88 : decode cX11_give 88 = .ok (.iadd, 1) := by decide +kernel
theorem dX11_give_89 : decode cX11_give 89 = .ok (.iload_n 3, 1) := by decide +kernel
theorem dX11_give_90 : decode cX11_give 90 = .ok (.iconst 1, 1) := by decide +kernel
theorem dX11_give_91 : decode cX11_give 91 = .ok (.iload_n 2, 1) := by decide +kernel
theorem dX11_give_92 : decode cX11_give 92 = .ok (.ishl, 1) := by decide +kernel
theorem dX11_give_93 : decode cX11_give 93 = .ok (.ior, 1) := by decide +kernel
theorem dX11_give_94 : decode cX11_give 94 = .ok (.iload 4, 2) := by decide +kernel
theorem dX11_give_96 : decode cX11_give 96 = .ok (.iconst 1, 1) := by decide +kernel
theorem dX11_give_97 : decode cX11_give 97 = .ok (.iload 7, 2) := by decide +kernel
theorem dX11_give_99 : decode cX11_give 99 = .ok (.ishl, 1) := by decide +kernel
theorem dX11_give_100 : decode cX11_give 100 = .ok (.ior, 1) := by decide +kernel
theorem dX11_give_101 : decode cX11_give 101 = .ok (.iload 5, 2) := by decide +kernel
theorem dX11_give_103 : decode cX11_give 103 = .ok (.iconst 1, 1) := by decide +kernel
theorem dX11_give_104 : decode cX11_give 104 = .ok (.iadd, 1) := by decide +kernel
theorem dX11_give_105 : decode cX11_give 105 = .ok (.invokevirtual 339, 3) := by decide +kernel
theorem dX11_give_108 : decode cX11_give 108 = .ok (.return_, 1) := by decide +kernel
set_option maxRecDepth 20000 in
theorem ggX11_give_X7_listens : GoodIn wsX11_give wsX7_listens := goodIn_r _ [9, 10, 11, 49, 50, 51, 52, 53, 54, 55, 56, 57, 58, 59, 60, 61, 62, 63, 64, 65] (by decide +kernel) (by decide +kernel)
set_option maxRecDepth 20000 in
theorem gX11_give_X7_listens : GoodIn wsX11_give (wsV RX11 329 RX7 yX7_listens wsX7_listens) := goodIn_app (goodIn_of _ (by decide +kernel)) ggX11_give_X7_listens
set_option maxRecDepth 20000 in
theorem ggX11_give_X11_best : GoodIn wsX11_give wsX11_best := goodIn_r _ [15] (by decide +kernel) (by decide +kernel)
set_option maxRecDepth 20000 in
theorem gX11_give_X11_best : GoodIn wsX11_give (va_wsS RX11 332 yX11_best wsX11_best) := goodIn_app (goodIn_of _ (by decide +kernel)) ggX11_give_X11_best
set_option maxRecDepth 20000 in
theorem ggX11_give_X11_deal : GoodIn wsX11_give wsX11_deal := goodIn_r _ [19, 1, 20, 21, 4, 22, 23, 24, 25, 26, 27, 28, 29, 14, 0, 2, 3, 5, 6, 7, 8, 9, 10, 11, 12, 13, 15, 16, 17, 18, 30, 31, 32, 33, 34, 35, 36, 37, 38, 39, 40, 41, 42, 43, 44, 45, 46, 47, 48, 49, 50, 51, 52, 53, 54, 55, 56, 57, 58, 59, 60, 61, 62, 63, 64, 65] (by decide +kernel) (by decide +kernel)
set_option maxRecDepth 20000 in
theorem gX11_give_X11_deal : GoodIn wsX11_give (wsV RX11 339 RX11 yX11_deal wsX11_deal) := goodIn_app (goodIn_of _ (by decide +kernel)) ggX11_give_X11_deal
def fX11_give_50 (F : Nat → c_G → Int32 → Int32 → Int32 → Int32 → Int32 → Option (c_G))  (a1 : Int32) (a2 : Int32) (a3 : Int32) (a4 : Int32) (a5 : Int32) (x1 : Int32) (x2 : Int32) (x3 : Int32) (x4 : Int32) (x5 : Int32) (y0 : Int32) (g : c_G) : Option (c_G) :=
  if c_in (x1) (6) = true then c_let (c_si g 6 (x1).toNatClampNeg x2) fun g50002 => if y0 = (-5 : Int32) then ((F 0 g50002 ((x1 + (1 : Int32))) ((x3 ||| ((1 : Int32) <<< (x2 &&& 31)))) x4 x5 0).bind fun g50007 => some g50007) else ((F 0 g50002 ((x1 + (1 : Int32))) ((x3 ||| ((1 : Int32) <<< (x2 &&& 31)))) ((x4 ||| ((1 : Int32) <<< (y0 &&& 31)))) ((x5 + (1 : Int32))) 0).bind fun g50005 => some g50005) else none
set_option maxRecDepth 100000 in
set_option maxHeartbeats 4000000 in
theorem jX11_give_50 {p : Program} {l : Launch} {e : Env} {s : State} {m : MethodId} {below : List Frame} {meth : Method} {c : Code} {D : va_G} {tc : Nat → ClassId} {ad : Nat → Nat} {A : Nat → Prop} {E : (Nat → Nat) × (Nat → Nat) × Nat} {F : Nat → c_G → Int32 → Int32 → Int32 → Int32 → Int32 → Option (c_G)} {dd : Nat} {a1 : Int32} {a2 : Int32} {a3 : Int32} {a4 : Int32} {a5 : Int32} {g' : c_G} (C : c_C p s m meth c D tc A E RX11 wsX11_give cX11_give 8 none ([.ref (ad 0), .int a1, .int a2, .int a3, .int a4, .int a5] : List Value).toArray) (hD : c_D A ad TC) (hF0 : ∀ {g g' : c_G} {a1 : Int32} {a2 : Int32} {a3 : Int32} {a4 : Int32}, F 0 g a1 a2 a3 a4 0 = some g' → c_Mv l yX11_deal wsX11_deal (c_rm (1 + dd)) D tc ad A E TC [.ref (ad 0), .int a1, .int a2, .int a3, .int a4] g g') (hF1 : ∀ {g g' : c_G} {a1 : Int32} {a2 : Int32} {a3 : Int32} {a4 : Int32} {a5 : Int32}, F 1 g a1 a2 a3 a4 a5 = some g' → c_Mv l yX11_give wsX11_give (c_rm (1 + dd)) D tc ad A E TC [.ref (ad 0), .int a1, .int a2, .int a3, .int a4, .int a5] g g')  : ∀ (x1 : Int32) (x2 : Int32) (x3 : Int32) (x4 : Int32) (x5 : Int32) (y0 : Int32) (g : c_G), fX11_give_50 F a1 a2 a3 a4 a5 x1 x2 x3 x4 x5 y0 g = some g' → ∀ (H : Heap) (locs : List Loc), va_P D vwCl (c_ws tc ad TC g) H → va_S A s.heap H locs → ∀ ls : Array Slot, lv_has ls 8 [(0, .ref (ad 0)), (1, .int x1), (2, .int x2), (3, .int x3), (4, .int x4), (5, .int x5)] → W p l e (c_rm (1 + dd + 1)) s m ([.ref (ad 0), .int a1, .int a2, .int a3, .int a4, .int a5] : List Value).toArray below meth c H locs 0 0 (MQ below (va_Qv (fun (_ : Unit) => True) (fun _ t => va_P D vwCl (c_ws tc ad TC g') t.heap) A) ([.ref (ad 0), .int a1, .int a2, .int a3, .int a4, .int a5] : List Value).toArray s 0 0 A) (F0 m 50 ls [.int y0]) := by
  obtain ⟨hx, hb, hr, hml, hts, hown, hlk, hK, hE⟩ := id C
  intro x1 x2 x3 x4 x5 y0 g hf H locs hP hS ls hl
  unfold fX11_give_50 at hf
  refine lv_istore (lv' := [(7, .int y0), (0, .ref (ad 0)), (1, .int x1), (2, .int x2), (3, .int x3), (4, .int x4), (5, .int x5)]) hx hb dX11_give_50 hl (by decide) rfl (fun ls hl => ?_)
  refine lv_aload_n hx hb dX11_give_52 rfl (lv_at hl 1 rfl) ?_
  refine c_get hx hb hts i_X11_give_X11 hown hK hP 0 tC0 rfl 12 (by decide) (hts _ (List.mem_of_getElem? (i := 4) rfl)) (fun _ h9 => h9) rfl (v := .ref (ad 6)) rfl dX11_give_53 ?_
  refine lv_iload_n hx hb dX11_give_56 rfl (lv_at hl 2 rfl) ?_
  refine lv_iload_n hx hb dX11_give_57 rfl (lv_at hl 3 rfl) ?_
  obtain ⟨hi50001, hf⟩ := c_gd hf
  obtain ⟨g50002, eg50002, hf⟩ := c_letE hf
  refine c_iast (j := (x1).toNatClampNeg) hx hb hK hP hD hS 6 tC6 rfl (c_inV hi50001) eg50002 dX11_give_58 (fun H locs hP hS => ?_)
  refine lv_iload hx hb dX11_give_59 (lv_at hl 0 rfl) ?_
  refine lv_bipush (v := (-5 : Int32)) hx hb dX11_give_61 (by decide) ?_
  refine lv_icmp_ne (tgt := 85) hx hb dX11_give_63 (by decide) (fun c50003 => ?_) (fun c50003 => ?_)
  · have hf := c_ie c50003 hf
    refine lv_aload_n hx hb dX11_give_85 rfl (lv_at hl 1 rfl) ?_
    refine lv_iload_n hx hb dX11_give_86 rfl (lv_at hl 2 rfl) ?_
    refine lv_iconst (v := (1 : Int32)) hx hb dX11_give_87 (by decide) ?_
    refine lv_iadd hx hb dX11_give_88 ?_
    refine lv_iload_n hx hb dX11_give_89 rfl (lv_at hl 4 rfl) ?_
    refine lv_iconst (v := (1 : Int32)) hx hb dX11_give_90 (by decide) ?_
    refine lv_iload_n hx hb dX11_give_91 rfl (lv_at hl 3 rfl) ?_
    refine lv_ishl hx hb dX11_give_92 ?_
    refine lv_ior hx hb dX11_give_93 ?_
    refine lv_iload hx hb dX11_give_94 (lv_at hl 5 rfl) ?_
    refine lv_iconst (v := (1 : Int32)) hx hb dX11_give_96 (by decide) ?_
    refine lv_iload hx hb dX11_give_97 (lv_at hl 0 rfl) ?_
    refine lv_ishl hx hb dX11_give_99 ?_
    refine lv_ior hx hb dX11_give_100 ?_
    refine lv_iload hx hb dX11_give_101 (lv_at hl 6 rfl) ?_
    refine lv_iconst (v := (1 : Int32)) hx hb dX11_give_103 (by decide) ?_
    refine lv_iadd hx hb dX11_give_104 ?_
    obtain ⟨g50005, hc50004, hf⟩ := c_bd hf
    refine c_gov (va_runV (As := [.int (x1 + (1 : Int32)), .int (x3 ||| ((1 : Int32) <<< (x2 &&& 31))), .int (x4 ||| ((1 : Int32) <<< (y0 &&& 31))), .int (x5 + (1 : Int32))]) (rest := []) ⟨hx, hb, hml, hown, hts⟩ (hF0 hc50004) (cwV 4 hts gX11_give_X11_deal rfl rfl rfl (by decide +kernel) ⟨by simp only [c_rm]; omega, by simp only [c_rm]; omega⟩) (c_preV hK hP hE hS tC0 rfl) rfl rfl hl.1 rfl (lv_room (Nat.le_of_ble_eq_true rfl)) dX11_give_105 ⟨Nat.zero_le _, Nat.zero_le _⟩) hS (fun H locs hP hS => ?_)
    exact c_vret hx hb hr hlk hP hS (Option.some.inj hf) dX11_give_108
  · have hf := c_it c50003 hf
    refine lv_aload_n hx hb dX11_give_66 rfl (lv_at hl 1 rfl) ?_
    refine lv_iload_n hx hb dX11_give_67 rfl (lv_at hl 2 rfl) ?_
    refine lv_iconst (v := (1 : Int32)) hx hb dX11_give_68 (by decide) ?_
    refine lv_iadd hx hb dX11_give_69 ?_
    refine lv_iload_n hx hb dX11_give_70 rfl (lv_at hl 4 rfl) ?_
    refine lv_iconst (v := (1 : Int32)) hx hb dX11_give_71 (by decide) ?_
    refine lv_iload_n hx hb dX11_give_72 rfl (lv_at hl 3 rfl) ?_
    refine lv_ishl hx hb dX11_give_73 ?_
    refine lv_ior hx hb dX11_give_74 ?_
    refine lv_iload hx hb dX11_give_75 (lv_at hl 5 rfl) ?_
    refine lv_iload hx hb dX11_give_77 (lv_at hl 6 rfl) ?_
    obtain ⟨g50007, hc50006, hf⟩ := c_bd hf
    refine c_gov (va_runV (As := [.int (x1 + (1 : Int32)), .int (x3 ||| ((1 : Int32) <<< (x2 &&& 31))), .int x4, .int x5]) (rest := []) ⟨hx, hb, hml, hown, hts⟩ (hF0 hc50006) (cwV 4 hts gX11_give_X11_deal rfl rfl rfl (by decide +kernel) ⟨by simp only [c_rm]; omega, by simp only [c_rm]; omega⟩) (c_preV hK hP hE hS tC0 rfl) rfl rfl hl.1 rfl (lv_room (Nat.le_of_ble_eq_true rfl)) dX11_give_79 ⟨Nat.zero_le _, Nat.zero_le _⟩) hS (fun H locs hP hS => ?_)
    refine lv_goto (tgt := 108) hx hb dX11_give_82 (by decide) ?_
    exact c_vret hx hb hr hlk hP hS (Option.some.inj hf) dX11_give_108
def fX11_give (F : Nat → c_G → Int32 → Int32 → Int32 → Int32 → Int32 → Option (c_G)) (g : c_G) (a1 : Int32) (a2 : Int32) (a3 : Int32) (a4 : Int32) (a5 : Int32) : Option (c_G) :=
  c_let ((((a1 * (6 : Int32)) + a2) * (12 : Int32))) fun v1 => (fX7_listens g 55 a2).bind fun r2 => if r2 = 0 then (fX11_give_50 F a1 a2 a3 a4 a5 a1 a2 a3 a4 a5 ((-5 : Int32)) g) else (if c_in (a1) (6) = true then (fX11_best g 5 v1 (((g.1 62 (a1).toNatClampNeg) &&& (a4 ^^^ (-1 : Int32))))).bind fun r6 => fX11_give_50 F a1 a2 a3 a4 a5 a1 a2 a3 a4 a5 r6 g else none)
set_option maxRecDepth 100000 in
set_option maxHeartbeats 4000000 in
theorem kX11_give {l : Launch} {D : va_G} {tc : Nat → ClassId} {ad : Nat → Nat} {A : Nat → Prop} {E : (Nat → Nat) × (Nat → Nat) × Nat} {F : Nat → c_G → Int32 → Int32 → Int32 → Int32 → Int32 → Option (c_G)} {dd : Nat} (hF0 : ∀ {g g' : c_G} {a1 : Int32} {a2 : Int32} {a3 : Int32} {a4 : Int32}, F 0 g a1 a2 a3 a4 0 = some g' → c_Mv l yX11_deal wsX11_deal (c_rm (1 + dd)) D tc ad A E TC [.ref (ad 0), .int a1, .int a2, .int a3, .int a4] g g') (hF1 : ∀ {g g' : c_G} {a1 : Int32} {a2 : Int32} {a3 : Int32} {a4 : Int32} {a5 : Int32}, F 1 g a1 a2 a3 a4 a5 = some g' → c_Mv l yX11_give wsX11_give (c_rm (1 + dd)) D tc ad A E TC [.ref (ad 0), .int a1, .int a2, .int a3, .int a4, .int a5] g g') (hD : c_D A ad TC) {a1 : Int32} {a2 : Int32} {a3 : Int32} {a4 : Int32} {a5 : Int32} {g g' : c_G} (hf : fX11_give F g a1 a2 a3 a4 a5 = some g') : c_Mv l yX11_give wsX11_give (c_rm (1 + dd + 1)) D tc ad A E TC ([.ref (ad 0), .int a1, .int a2, .int a3, .int a4, .int a5] : List Value) g g' := by
  refine c_ofW (bytes := cX11_give) (maxL := 8) (ret := none) (by decide) rfl (Nat.le_of_ble_eq_true rfl) ?_
  intro p e s m below meth c ls C hP hS hl
  unfold fX11_give at hf
  obtain ⟨hx, hb, hr, hml, hts, hown, hlk, hK, hE⟩ := id C
  have hl : lv_has ls 8 [(0, .ref (ad 0)), (1, .int a1), (2, .int a2), (3, .int a3), (4, .int a4), (5, .int a5)] := hl
  refine lv_iload_n hx hb dX11_give_0 rfl (lv_at hl 1 rfl) ?_
  refine lv_bipush (v := (6 : Int32)) hx hb dX11_give_1 (by decide) ?_
  refine lv_imul hx hb dX11_give_3 ?_
  refine lv_iload_n hx hb dX11_give_4 rfl (lv_at hl 2 rfl) ?_
  refine lv_iadd hx hb dX11_give_5 ?_
  refine lv_bipush (v := (12 : Int32)) hx hb dX11_give_6 (by decide) ?_
  refine lv_imul hx hb dX11_give_8 ?_
  obtain ⟨v1, ev1, hf⟩ := c_letE hf
  refine c_topi ev1 ?_
  refine lv_istore (lv' := [(6, .int v1), (0, .ref (ad 0)), (1, .int a1), (2, .int a2), (3, .int a3), (4, .int a4), (5, .int a5)]) hx hb dX11_give_9 hl (by decide) rfl (fun ls hl => ?_)
  refine lv_aload_n hx hb dX11_give_11 rfl (lv_at hl 1 rfl) ?_
  refine c_get hx hb hts i_X11_give_X11 hown hK hP 0 tC0 rfl 5 (by decide) (hts _ (List.mem_of_getElem? (i := 1) rfl)) (fun _ h9 => h9) rfl (v := .ref (ad 55)) rfl dX11_give_12 ?_
  refine lv_iload_n hx hb dX11_give_15 rfl (lv_at hl 3 rfl) ?_
  obtain ⟨r2, hc3, hf⟩ := c_bd hf
  refine c_goi (va_runV (As := [.int a2]) (rest := []) ⟨hx, hb, hml, hown, hts⟩ (kX7_listens hD hc3) (cwV 1 hts gX11_give_X7_listens rfl rfl rfl (by decide +kernel) ⟨by simp only [c_rm]; omega, by simp only [c_rm]; omega⟩) (c_preV hK hP hE hS tC55 rfl) rfl rfl hl.1 rfl (lv_room (Nat.le_of_ble_eq_true rfl)) dX11_give_16 ⟨Nat.zero_le _, Nat.zero_le _⟩) hS (fun H locs hP hS => ?_)
  refine lv_if_eq (tgt := 48) hx hb dX11_give_19 (by decide) (fun c4 => ?_) (fun c4 => ?_)
  · have hf := c_it c4 hf
    refine lv_bipush (v := (-5 : Int32)) hx hb dX11_give_48 (by decide) ?_
    exact jX11_give_50 C hD hF0 hF1 a1 a2 a3 a4 a5 ((-5 : Int32)) g hf _ _ hP hS _ (lv_sub hl [1, 2, 3, 4, 5, 6] rfl)
  · have hf := c_ie c4 hf
    refine lv_aload_n hx hb dX11_give_22 rfl (lv_at hl 1 rfl) ?_
    refine c_get hx hb hts i_X11_give_X11 hown hK hP 0 tC0 rfl 11 (by decide) (hts _ (List.mem_of_getElem? (i := 2) rfl)) (fun _ h9 => h9) rfl (v := .ref (ad 5)) rfl dX11_give_23 ?_
    refine lv_iload hx hb dX11_give_26 (lv_at hl 0 rfl) ?_
    refine lv_aload_n hx hb dX11_give_28 rfl (lv_at hl 1 rfl) ?_
    refine c_get hx hb hts i_X11_give_X11 hown hK hP 0 tC0 rfl 5 (by decide) (hts _ (List.mem_of_getElem? (i := 1) rfl)) (fun _ h9 => h9) rfl (v := .ref (ad 55)) rfl dX11_give_29 ?_
    refine c_get hx hb hts i_X11_give_X7 hown hK hP 55 tC55 rfl 9 (by decide) (hts _ (List.mem_of_getElem? (i := 3) rfl)) (fun _ h9 => h9) rfl (v := .ref (ad 62)) rfl dX11_give_32 ?_
    refine lv_iload_n hx hb dX11_give_35 rfl (lv_at hl 2 rfl) ?_
    obtain ⟨hi5, hf⟩ := c_gd hf
    refine c_iald (j := (a1).toNatClampNeg) hx hb hK hP 62 tC62 rfl (c_inV hi5) dX11_give_36 ?_
    refine lv_iload hx hb dX11_give_37 (lv_at hl 5 rfl) ?_
    refine lv_iconst (v := (-1 : Int32)) hx hb dX11_give_39 (by decide) ?_
    refine lv_ixor hx hb dX11_give_40 ?_
    refine lv_iand hx hb dX11_give_41 ?_
    obtain ⟨r6, hc7, hf⟩ := c_bd hf
    refine c_goi (va_runS (As := [.ref (ad 5), .int v1, .int ((g.1 62 (a1).toNatClampNeg) &&& (a4 ^^^ (-1 : Int32)))]) (rest := []) ⟨hx, hb, hml, hown, hts⟩ (kX11_best hD hc7) (va_cwS 3 hts gX11_give_X11_best rfl rfl rfl (by decide +kernel) ⟨by simp only [c_rm]; omega, by simp only [c_rm]; omega⟩) (c_preS hK hP hE hS) rfl rfl hl.1 rfl (lv_room (Nat.le_of_ble_eq_true rfl)) dX11_give_42 ⟨Nat.zero_le _, Nat.zero_le _⟩) hS (fun H locs hP hS => ?_)
    refine lv_goto (tgt := 50) hx hb dX11_give_45 (by decide) ?_
    exact jX11_give_50 C hD hF0 hF1 a1 a2 a3 a4 a5 r6 g hf _ _ hP hS _ (lv_sub hl [1, 2, 3, 4, 5, 6] rfl)
def fG2 : Nat → Nat → c_G → Int32 → Int32 → Int32 → Int32 → Int32 → Option (c_G)
  | 0, _, _, _, _, _, _, _ => none
  | n + 1, t, g, a1, a2, a3, a4, a5 => if t = 0 then fX11_deal (fG2 n) g a1 a2 a3 a4 else if t = 1 then fX11_give (fG2 n) g a1 a2 a3 a4 a5 else none
set_option maxRecDepth 100000 in
set_option maxHeartbeats 4000000 in
theorem kG2_all {l : Launch} {D : va_G} {tc : Nat → ClassId} {ad : Nat → Nat} {A : Nat → Prop} {E : (Nat → Nat) × (Nat → Nat) × Nat} (hD : c_D A ad TC) : ∀ n : Nat, (∀ {g g' : c_G} {a1 : Int32} {a2 : Int32} {a3 : Int32} {a4 : Int32}, fG2 n 0 g a1 a2 a3 a4 0 = some g' → c_Mv l yX11_deal wsX11_deal (c_rm (1 + n)) D tc ad A E TC [.ref (ad 0), .int a1, .int a2, .int a3, .int a4] g g') ∧ (∀ {g g' : c_G} {a1 : Int32} {a2 : Int32} {a3 : Int32} {a4 : Int32} {a5 : Int32}, fG2 n 1 g a1 a2 a3 a4 a5 = some g' → c_Mv l yX11_give wsX11_give (c_rm (1 + n)) D tc ad A E TC [.ref (ad 0), .int a1, .int a2, .int a3, .int a4, .int a5] g g') := by
  intro n
  induction n with
  | zero =>
    exact ⟨@fun _ _ _ _ _ _ hf => (by cases hf), @fun _ _ _ _ _ _ _ hf => (by cases hf)⟩
  | succ n ih =>
    exact ⟨@fun _ _ _ _ _ _ hf => kX11_deal (ih.1) (ih.2) hD (by have h9 := hf; unfold fG2 at h9; exact c_it rfl h9), @fun _ _ _ _ _ _ _ hf => kX11_give (ih.1) (ih.2) hD (by have h9 := hf; unfold fG2 at h9; replace h9 := c_ie (by decide) h9; exact c_it rfl h9)⟩
theorem kG2_0 {l : Launch} {D : va_G} {tc : Nat → ClassId} {ad : Nat → Nat} {A : Nat → Prop} {E : (Nat → Nat) × (Nat → Nat) × Nat} (hD : c_D A ad TC) : ∀ {g g' : c_G} {a1 : Int32} {a2 : Int32} {a3 : Int32} {a4 : Int32}, fG2 40 0 g a1 a2 a3 a4 0 = some g' → c_Mv l yX11_deal wsX11_deal (c_rm (1 + 40)) D tc ad A E TC [.ref (ad 0), .int a1, .int a2, .int a3, .int a4] g g' := (kG2_all hD 40).1
theorem kG2_1 {l : Launch} {D : va_G} {tc : Nat → ClassId} {ad : Nat → Nat} {A : Nat → Prop} {E : (Nat → Nat) × (Nat → Nat) × Nat} (hD : c_D A ad TC) : ∀ {g g' : c_G} {a1 : Int32} {a2 : Int32} {a3 : Int32} {a4 : Int32} {a5 : Int32}, fG2 40 1 g a1 a2 a3 a4 a5 = some g' → c_Mv l yX11_give wsX11_give (c_rm (1 + 40)) D tc ad A E TC [.ref (ad 0), .int a1, .int a2, .int a3, .int a4, .int a5] g g' := (kG2_all hD 40).2
theorem i_X11_findRound_X7 : ∀ w ∈ u_ws RX7 TX7 17, w ∈ wsX11_findRound := c_inP [125, 126, 127, 128, 129, 130, 131, 132, 133, 134, 135, 136, 137, 138, 139, 140, 141] (by decide +kernel)
theorem i_X11_findRound_X11 : ∀ w ∈ u_ws RX11 TX11 19, w ∈ wsX11_findRound := c_inP [106, 107, 108, 109, 110, 111, 112, 113, 114, 115, 116, 117, 118, 119, 120, 121, 122, 123, 124] (by decide +kernel)
theorem dX11_findRound_0 : decode cX11_findRound 0 = .ok (.iconst 0, 1) := by decide +kernel
theorem dX11_findRound_1 : decode cX11_findRound 1 = .ok (.istore_n 1, 1) := by decide +kernel
theorem dX11_findRound_2 : decode cX11_findRound 2 = .ok (.iload_n 1, 1) := by decide +kernel
theorem dX11_findRound_3 : decode cX11_findRound 3 = .ok (.aload_n 0, 1) := by decide +kernel
theorem dX11_findRound_4 : decode cX11_findRound 4 = .ok (.getfield 86, 3) := by decide +kernel
theorem dX11_findRound_7 : decode cX11_findRound 7 = .ok (.getfield 109, 3) := by decide +kernel
theorem dX11_findRound_10 : decode cX11_findRound 10 = .ok (.if_icmp .ge 65, 3) := by decide +kernel
theorem dX11_findRound_13 : decode cX11_findRound 13 = .ok (.iconst 0, 1) := by decide +kernel
theorem dX11_findRound_14 : decode cX11_findRound 14 = .ok (.istore_n 2, 1) := by decide +kernel
theorem dX11_findRound_15 : decode cX11_findRound 15 = .ok (.iload_n 2, 1) := by decide +kernel
theorem dX11_findRound_16 : decode cX11_findRound 16 = .ok (.bipush 6, 2) := by decide +kernel
theorem dX11_findRound_18 : decode cX11_findRound 18 = .ok (.if_icmp .ge 51, 3) := by decide +kernel
theorem dX11_findRound_21 : decode cX11_findRound 21 = .ok (.aload_n 0, 1) := by decide +kernel
theorem dX11_findRound_22 : decode cX11_findRound 22 = .ok (.aload_n 0, 1) := by decide +kernel
theorem dX11_findRound_23 : decode cX11_findRound 23 = .ok (.getfield 86, 3) := by decide +kernel
theorem dX11_findRound_26 : decode cX11_findRound 26 = .ok (.iload_n 1, 1) := by decide +kernel
theorem dX11_findRound_27 : decode cX11_findRound 27 = .ok (.aload_n 0, 1) := by decide +kernel
theorem dX11_findRound_28 : decode cX11_findRound 28 = .ok (.getfield 86, 3) := by decide +kernel
theorem dX11_findRound_31 : decode cX11_findRound 31 = .ok (.getfield 123, 3) := by decide +kernel
theorem dX11_findRound_34 : decode cX11_findRound 34 = .ok (.iload_n 1, 1) := by decide +kernel
theorem dX11_findRound_35 : decode cX11_findRound 35 = .ok (.iaload, 1) := by decide +kernel
theorem dX11_findRound_36 : decode cX11_findRound 36 = .ok (.iload_n 2, 1) := by decide +kernel
theorem dX11_findRound_37 : decode cX11_findRound 37 = .ok (.invokevirtual 165, 3) := by decide +kernel
theorem dX11_findRound_40 : decode cX11_findRound 40 = .ok (.aload_n 0, 1) := by decide +kernel
theorem dX11_findRound_41 : decode cX11_findRound 41 = .ok (.getfield 25, 3) := by decide +kernel
theorem dX11_findRound_44 : decode cX11_findRound 44 = .ok (.iconst 0, 1) := by decide +kernel
theorem dX11_findRound_45 : decode cX11_findRound 45 = .ok (.aload_n 0, 1) := by decide +kernel
theorem dX11_findRound_46 : decode cX11_findRound 46 = .ok (.getfield 28, 3) := by decide +kernel
theorem dX11_findRound_49 : decode cX11_findRound 49 = .ok (.iload_n 1, 1) := by decide +kernel
theorem dX11_findRound_50 : decode cX11_findRound 50 = .ok (.bipush 6, 2) := by decide +kernel
theorem dX11_findRound_52 : decode cX11_findRound 52 = .ok (.imul, 1) := by decide +kernel
theorem dX11_findRound_53 : decode cX11_findRound 53 = .ok (.iload_n 2, 1) := by decide +kernel
theorem dX11_findRound_54 : decode cX11_findRound 54 = .ok (.iadd, 1) := by decide +kernel
theorem dX11_findRound_55 : decode cX11_findRound 55 = .ok (.bipush 12, 2) := by decide +kernel
theorem dX11_findRound_57 : decode cX11_findRound 57 = .ok (.imul, 1) := by decide +kernel
theorem dX11_findRound_58 : decode cX11_findRound 58 = .ok (.bipush 12, 2) := by decide +kernel
theorem dX11_findRound_60 : decode cX11_findRound 60 = .ok (.invokestatic 316, 3) := by decide +kernel
theorem dX11_findRound_63 : decode cX11_findRound 63 = .ok (.iinc 2 1, 3) := by decide +kernel
theorem dX11_findRound_66 : decode cX11_findRound 66 = .ok (.goto (-51), 3) := by decide +kernel
theorem dX11_findRound_69 : decode cX11_findRound 69 = .ok (.iinc 1 1, 3) := by decide +kernel
theorem dX11_findRound_72 : decode cX11_findRound 72 = .ok (.goto (-70), 3) := by decide +kernel
theorem dX11_findRound_75 : decode cX11_findRound 75 = .ok (.aload_n 0, 1) := by decide +kernel
theorem dX11_findRound_76 : decode cX11_findRound 76 = .ok (.bipush (-5), 2) := by decide +kernel
theorem dX11_findRound_78 : decode cX11_findRound 78 = .ok (.putfield 213, 3) := by decide +kernel
theorem dX11_findRound_81 : decode cX11_findRound 81 = .ok (.aload_n 0, 1) := by decide +kernel
theorem dX11_findRound_82 : decode cX11_findRound 82 = .ok (.iconst 0, 1) := by decide +kernel
theorem dX11_findRound_83 : decode cX11_findRound 83 = .ok (.iconst 0, 1) := by decide +kernel
theorem dX11_findRound_84 : decode cX11_findRound 84 = .ok (.aload_n 0, 1) := by decide +kernel
theorem dX11_findRound_85 : decode cX11_findRound 85 = .ok (.getfield 86, 3) := by decide +kernel
theorem dX11_findRound_88 : decode cX11_findRound 88 = .ok (.invokevirtual 203, 3) := by decide +kernel
theorem dX11_findRound_91 : decode cX11_findRound 91 = .ok (.aload_n 0, 1) := by decide +kernel
theorem dX11_findRound_92 : decode cX11_findRound 92 = .ok (.getfield 86, 3) := by decide +kernel
theorem dX11_findRound_95 : decode cX11_findRound 95 = .ok (.invokevirtual 207, 3) := by decide +kernel
theorem dX11_findRound_98 : decode cX11_findRound 98 = .ok (.invokevirtual 339, 3) := by decide +kernel
theorem dX11_findRound_101 : decode cX11_findRound 101 = .ok (.return_, 1) := by decide +kernel
set_option maxRecDepth 20000 in
theorem ggX11_findRound_X11_weigh : GoodIn wsX11_findRound wsX11_weigh := goodIn_r _ [15, 16, 17, 18, 19, 20, 21, 4, 22, 23, 24, 25, 26, 27, 28, 29, 30, 31, 32, 33, 34, 35, 36, 37, 38, 39, 40, 41, 42, 43, 44, 45, 46, 47, 48, 49, 50, 51, 52, 53, 54, 55, 56, 57, 58, 59, 60, 61, 62, 63, 64, 65, 66, 67, 68, 69, 70, 71, 72, 73, 74, 75, 106, 107, 108, 109, 110, 111, 112, 113, 114, 115, 116, 117, 118, 119, 120, 121, 122, 123, 124, 125, 126, 127, 128, 129, 130, 131, 132, 133, 134, 135, 136, 137, 138, 139, 140, 141, 142, 143, 144, 145, 146, 147, 148, 149] (by decide +kernel) (by decide +kernel)
set_option maxRecDepth 20000 in
theorem gX11_findRound_X11_weigh : GoodIn wsX11_findRound (wsV RX11 165 RX11 yX11_weigh wsX11_weigh) := goodIn_app (goodIn_of _ (by decide +kernel)) ggX11_findRound_X11_weigh
set_option maxRecDepth 20000 in
theorem ggX11_findRound_X7_used : GoodIn wsX11_findRound wsX7_used := goodIn_r _ [80, 81, 82, 125, 126, 127, 128, 129, 130, 131, 132, 133, 134, 135, 136, 137, 138, 139, 140, 141] (by decide +kernel) (by decide +kernel)
set_option maxRecDepth 20000 in
theorem gX11_findRound_X7_used : GoodIn wsX11_findRound (wsV RX11 203 RX7 yX7_used wsX7_used) := goodIn_app (goodIn_of _ (by decide +kernel)) ggX11_findRound_X7_used
set_option maxRecDepth 20000 in
theorem ggX11_findRound_X7_named : GoodIn wsX11_findRound wsX7_named := goodIn_r _ [86, 82, 125, 126, 127, 128, 129, 130, 131, 132, 133, 134, 135, 136, 137, 138, 139, 140, 141] (by decide +kernel) (by decide +kernel)
set_option maxRecDepth 20000 in
theorem gX11_findRound_X7_named : GoodIn wsX11_findRound (wsV RX11 207 RX7 yX7_named wsX7_named) := goodIn_app (goodIn_of _ (by decide +kernel)) ggX11_findRound_X7_named
set_option maxRecDepth 20000 in
theorem ggX11_findRound_X11_deal : GoodIn wsX11_findRound wsX11_deal := goodIn_r _ [90, 1, 2, 10, 91, 92, 6, 7, 8, 9, 93, 94, 95, 14, 96, 5, 97, 98, 99, 100, 79, 101, 82, 102, 103, 104, 105, 87, 88, 89, 106, 107, 108, 109, 110, 111, 112, 113, 114, 115, 116, 117, 118, 119, 120, 121, 122, 123, 124, 125, 126, 127, 128, 129, 130, 131, 132, 133, 134, 135, 136, 137, 138, 139, 140, 141] (by decide +kernel) (by decide +kernel)
set_option maxRecDepth 20000 in
theorem gX11_findRound_X11_deal : GoodIn wsX11_findRound (wsV RX11 339 RX11 yX11_deal wsX11_deal) := goodIn_app (goodIn_of _ (by decide +kernel)) ggX11_findRound_X11_deal
def fX11_findRound_15 (kk69 : Int32 → c_G → Option (c_G))  : Nat → Int32 → Int32 → c_G → Option (c_G)
  | 0, _, _, _ => none
  | n + 1, x1, x2, g => if (6 : Int32) ≤ x2 then (kk69 x1 g) else (if c_in (x1) (6) = true then (fX11_weigh g 55 x1 ((g.1 61 (x1).toNatClampNeg)) x2).bind fun g15004 => if c_cp ((0 : Int32)) ((((x1 * (6 : Int32)) + x2) * (12 : Int32))) ((12 : Int32)) 12 432 = true then c_let (c_sr g15004 5 (va_cpy (g15004.1 4) (g15004.1 5) ((0 : Int32)).toNatClampNeg ((((x1 * (6 : Int32)) + x2) * (12 : Int32))).toNatClampNeg ((12 : Int32)).toNatClampNeg)) fun g15006 => c_let (x2 + (1 : Int32)) fun v15007 => (fX11_findRound_15 kk69 n) x1 v15007 g15006 else none else none)
set_option maxRecDepth 100000 in
set_option maxHeartbeats 4000000 in
theorem jX11_findRound_15 {p : Program} {l : Launch} {e : Env} {s : State} {m : MethodId} {below : List Frame} {meth : Method} {c : Code} {D : va_G} {tc : Nat → ClassId} {ad : Nat → Nat} {A : Nat → Prop} {E : (Nat → Nat) × (Nat → Nat) × Nat} {g' : c_G} (C : c_C p s m meth c D tc A E RX11 wsX11_findRound cX11_findRound 3 none ([.ref (ad 0)] : List Value).toArray) (hD : c_D A ad TC) {kk69 : Int32 → c_G → Option (c_G)} (hkk69 : ∀ (x1 : Int32) (g : c_G), kk69 x1 g = some g' → ∀ (H : Heap) (locs : List Loc), va_P D vwCl (c_ws tc ad TC g) H → va_S A s.heap H locs → ∀ ls : Array Slot, lv_has ls 3 [(0, .ref (ad 0)), (1, .int x1)] → W p l e (c_rm 42) s m ([.ref (ad 0)] : List Value).toArray below meth c H locs 0 0 (MQ below (va_Qv (fun (_ : Unit) => True) (fun _ t => va_P D vwCl (c_ws tc ad TC g') t.heap) A) ([.ref (ad 0)] : List Value).toArray s 0 0 A) (F0 m 69 ls [])) : ∀ (n : Nat) (x1 : Int32) (x2 : Int32) (g : c_G), fX11_findRound_15 kk69 n x1 x2 g = some g' → ∀ (H : Heap) (locs : List Loc), va_P D vwCl (c_ws tc ad TC g) H → va_S A s.heap H locs → ∀ ls : Array Slot, lv_has ls 3 [(0, .ref (ad 0)), (1, .int x1), (2, .int x2)] → W p l e (c_rm 42) s m ([.ref (ad 0)] : List Value).toArray below meth c H locs 0 0 (MQ below (va_Qv (fun (_ : Unit) => True) (fun _ t => va_P D vwCl (c_ws tc ad TC g') t.heap) A) ([.ref (ad 0)] : List Value).toArray s 0 0 A) (F0 m 15 ls []) := by
  obtain ⟨hx, hb, hr, hml, hts, hown, hlk, hK, hE⟩ := id C
  intro n
  induction n with
  | zero =>
    intro x1 x2 g hf
    cases hf
  | succ n ih =>
    intro x1 x2 g hf H locs hP hS ls hl
    unfold fX11_findRound_15 at hf
    refine lv_iload_n hx hb dX11_findRound_15 rfl (lv_at hl 2 rfl) ?_
    refine lv_bipush (v := (6 : Int32)) hx hb dX11_findRound_16 (by decide) ?_
    refine lv_icmp_ge (tgt := 69) hx hb dX11_findRound_18 (by decide) (fun c15001 => ?_) (fun c15001 => ?_)
    · have hf := c_it c15001 hf
      exact hkk69 x1 g hf _ _ hP hS _ (lv_sub hl [0, 1] rfl)
    · have hf := c_ie c15001 hf
      refine lv_aload_n hx hb dX11_findRound_21 rfl (lv_at hl 0 rfl) ?_
      refine lv_aload_n hx hb dX11_findRound_22 rfl (lv_at hl 0 rfl) ?_
      refine c_get hx hb hts i_X11_findRound_X11 hown hK hP 0 tC0 rfl 5 (by decide) (hts _ (List.mem_of_getElem? (i := 1) rfl)) (fun _ h9 => h9) rfl (v := .ref (ad 55)) rfl dX11_findRound_23 ?_
      refine lv_iload_n hx hb dX11_findRound_26 rfl (lv_at hl 1 rfl) ?_
      refine lv_aload_n hx hb dX11_findRound_27 rfl (lv_at hl 0 rfl) ?_
      refine c_get hx hb hts i_X11_findRound_X11 hown hK hP 0 tC0 rfl 5 (by decide) (hts _ (List.mem_of_getElem? (i := 1) rfl)) (fun _ h9 => h9) rfl (v := .ref (ad 55)) rfl dX11_findRound_28 ?_
      refine c_get hx hb hts i_X11_findRound_X7 hown hK hP 55 tC55 rfl 8 (by decide) (hts _ (List.mem_of_getElem? (i := 3) rfl)) (fun _ h9 => h9) rfl (v := .ref (ad 61)) rfl dX11_findRound_31 ?_
      refine lv_iload_n hx hb dX11_findRound_34 rfl (lv_at hl 1 rfl) ?_
      obtain ⟨hi15002, hf⟩ := c_gd hf
      refine c_iald (j := (x1).toNatClampNeg) hx hb hK hP 61 tC61 rfl (c_inV hi15002) dX11_findRound_35 ?_
      refine lv_iload_n hx hb dX11_findRound_36 rfl (lv_at hl 2 rfl) ?_
      obtain ⟨g15004, hc15003, hf⟩ := c_bd hf
      refine c_gov (va_runV (As := [.ref (ad 55), .int x1, .int (g.1 61 (x1).toNatClampNeg), .int x2]) (rest := []) ⟨hx, hb, hml, hown, hts⟩ (kX11_weigh hD hc15003) (cwV 4 hts gX11_findRound_X11_weigh rfl rfl rfl (by decide +kernel) ⟨Nat.le_of_ble_eq_true rfl, Nat.le_of_ble_eq_true rfl⟩) (c_preV hK hP hE hS tC0 rfl) rfl rfl hl.1 rfl (lv_room (Nat.le_of_ble_eq_true rfl)) dX11_findRound_37 ⟨Nat.zero_le _, Nat.zero_le _⟩) hS (fun H locs hP hS => ?_)
      refine lv_aload_n hx hb dX11_findRound_40 rfl (lv_at hl 0 rfl) ?_
      refine c_get hx hb hts i_X11_findRound_X11 hown hK hP 0 tC0 rfl 10 (by decide) (hts _ (List.mem_of_getElem? (i := 4) rfl)) (fun _ h9 => h9) rfl (v := .ref (ad 4)) rfl dX11_findRound_41 ?_
      refine lv_iconst (v := (0 : Int32)) hx hb dX11_findRound_44 (by decide) ?_
      refine lv_aload_n hx hb dX11_findRound_45 rfl (lv_at hl 0 rfl) ?_
      refine c_get hx hb hts i_X11_findRound_X11 hown hK hP 0 tC0 rfl 11 (by decide) (hts _ (List.mem_of_getElem? (i := 5) rfl)) (fun _ h9 => h9) rfl (v := .ref (ad 5)) rfl dX11_findRound_46 ?_
      refine lv_iload_n hx hb dX11_findRound_49 rfl (lv_at hl 1 rfl) ?_
      refine lv_bipush (v := (6 : Int32)) hx hb dX11_findRound_50 (by decide) ?_
      refine lv_imul hx hb dX11_findRound_52 ?_
      refine lv_iload_n hx hb dX11_findRound_53 rfl (lv_at hl 2 rfl) ?_
      refine lv_iadd hx hb dX11_findRound_54 ?_
      refine lv_bipush (v := (12 : Int32)) hx hb dX11_findRound_55 (by decide) ?_
      refine lv_imul hx hb dX11_findRound_57 ?_
      refine lv_bipush (v := (12 : Int32)) hx hb dX11_findRound_58 (by decide) ?_
      obtain ⟨hc15005, hf⟩ := c_gd hf
      obtain ⟨g15006, eg15006, hf⟩ := c_letE hf
      refine c_copyi hx hb (hml.trans hl.1.symm) hown (hts _ (List.mem_of_getElem? (i := 6) rfl)) (hts _ (List.mem_of_getElem? (i := 7) rfl)) (hts _ (List.mem_of_getElem? (i := 8) rfl)) (hts _ (List.mem_of_getElem? (i := 9) rfl)) hK hP hD hS 4 5 tC4 tC5 (c_cpE hc15005).1 (c_cpE hc15005).2.1 (c_cpE hc15005).2.2.1 (c_cpE hc15005).2.2.2.1 (c_cpE hc15005).2.2.2.2 (Nat.le_of_ble_eq_true rfl) (Nat.le_of_ble_eq_true rfl) eg15006 dX11_findRound_60 (fun H locs hP hS => ?_)
      obtain ⟨v15007, ev15007, hf⟩ := c_letE hf
      refine lv_iinc (v := v15007) (lv' := [(2, .int v15007), (0, .ref (ad 0)), (1, .int x1)]) hx hb dX11_findRound_63 hl (k := 2) rfl (by rw [ev15007]; rfl) (by decide) rfl (fun ls hl => ?_)
      refine lv_goto (tgt := 15) hx hb dX11_findRound_66 (by decide) ?_
      exact ih x1 v15007 g15006 hf _ _ hP hS _ (lv_sub hl [1, 2, 0] rfl)
def fX11_findRound_69 (rec2 : Int32 → c_G → Option (c_G))  (x1 : Int32) (g : c_G) : Option (c_G) :=
  c_let (x1 + (1 : Int32)) fun v69001 => rec2 v69001 g
set_option maxRecDepth 100000 in
set_option maxHeartbeats 4000000 in
theorem jX11_findRound_69 {p : Program} {l : Launch} {e : Env} {s : State} {m : MethodId} {below : List Frame} {meth : Method} {c : Code} {D : va_G} {tc : Nat → ClassId} {ad : Nat → Nat} {A : Nat → Prop} {E : (Nat → Nat) × (Nat → Nat) × Nat} {g' : c_G} (C : c_C p s m meth c D tc A E RX11 wsX11_findRound cX11_findRound 3 none ([.ref (ad 0)] : List Value).toArray) (hD : c_D A ad TC) {rec2 : Int32 → c_G → Option (c_G)} (hrec2 : ∀ (x1 : Int32) (g : c_G), rec2 x1 g = some g' → ∀ (H : Heap) (locs : List Loc), va_P D vwCl (c_ws tc ad TC g) H → va_S A s.heap H locs → ∀ ls : Array Slot, lv_has ls 3 [(0, .ref (ad 0)), (1, .int x1)] → W p l e (c_rm 42) s m ([.ref (ad 0)] : List Value).toArray below meth c H locs 0 0 (MQ below (va_Qv (fun (_ : Unit) => True) (fun _ t => va_P D vwCl (c_ws tc ad TC g') t.heap) A) ([.ref (ad 0)] : List Value).toArray s 0 0 A) (F0 m 2 ls [])) : ∀ (x1 : Int32) (g : c_G), fX11_findRound_69 rec2 x1 g = some g' → ∀ (H : Heap) (locs : List Loc), va_P D vwCl (c_ws tc ad TC g) H → va_S A s.heap H locs → ∀ ls : Array Slot, lv_has ls 3 [(0, .ref (ad 0)), (1, .int x1)] → W p l e (c_rm 42) s m ([.ref (ad 0)] : List Value).toArray below meth c H locs 0 0 (MQ below (va_Qv (fun (_ : Unit) => True) (fun _ t => va_P D vwCl (c_ws tc ad TC g') t.heap) A) ([.ref (ad 0)] : List Value).toArray s 0 0 A) (F0 m 69 ls []) := by
  obtain ⟨hx, hb, hr, hml, hts, hown, hlk, hK, hE⟩ := id C
  intro x1 g hf H locs hP hS ls hl
  unfold fX11_findRound_69 at hf
  obtain ⟨v69001, ev69001, hf⟩ := c_letE hf
  refine lv_iinc (v := v69001) (lv' := [(1, .int v69001), (0, .ref (ad 0))]) hx hb dX11_findRound_69 hl (k := 1) rfl (by rw [ev69001]; rfl) (by decide) rfl (fun ls hl => ?_)
  refine lv_goto (tgt := 2) hx hb dX11_findRound_72 (by decide) ?_
  exact hrec2 v69001 g hf _ _ hP hS _ (lv_sub hl [1, 0] rfl)
def fX11_findRound_2   : Nat → Int32 → c_G → Option (c_G)
  | 0, _, _ => none
  | n + 1, x1, g => if (g.1 55 6) ≤ x1 then (c_let (c_si g 0 14 (-5 : Int32)) fun g2002 => (fX7_used g2002 55).bind fun r2003 => (fX7_named g2002 55).bind fun r2005 => (fG2 40 0 g2002 ((0 : Int32)) ((0 : Int32)) r2003 r2005 0).bind fun g2008 => some g2008) else (fX11_findRound_15 (fX11_findRound_69 (fX11_findRound_2 n)) c_F x1 ((0 : Int32)) g)
set_option maxRecDepth 100000 in
set_option maxHeartbeats 4000000 in
theorem jX11_findRound_2 {p : Program} {l : Launch} {e : Env} {s : State} {m : MethodId} {below : List Frame} {meth : Method} {c : Code} {D : va_G} {tc : Nat → ClassId} {ad : Nat → Nat} {A : Nat → Prop} {E : (Nat → Nat) × (Nat → Nat) × Nat} {g' : c_G} (C : c_C p s m meth c D tc A E RX11 wsX11_findRound cX11_findRound 3 none ([.ref (ad 0)] : List Value).toArray) (hD : c_D A ad TC)  : ∀ (n : Nat) (x1 : Int32) (g : c_G), fX11_findRound_2 n x1 g = some g' → ∀ (H : Heap) (locs : List Loc), va_P D vwCl (c_ws tc ad TC g) H → va_S A s.heap H locs → ∀ ls : Array Slot, lv_has ls 3 [(0, .ref (ad 0)), (1, .int x1)] → W p l e (c_rm 42) s m ([.ref (ad 0)] : List Value).toArray below meth c H locs 0 0 (MQ below (va_Qv (fun (_ : Unit) => True) (fun _ t => va_P D vwCl (c_ws tc ad TC g') t.heap) A) ([.ref (ad 0)] : List Value).toArray s 0 0 A) (F0 m 2 ls []) := by
  obtain ⟨hx, hb, hr, hml, hts, hown, hlk, hK, hE⟩ := id C
  intro n
  induction n with
  | zero =>
    intro x1 g hf
    cases hf
  | succ n ih =>
    intro x1 g hf H locs hP hS ls hl
    unfold fX11_findRound_2 at hf
    refine lv_iload_n hx hb dX11_findRound_2 rfl (lv_at hl 1 rfl) ?_
    refine lv_aload_n hx hb dX11_findRound_3 rfl (lv_at hl 0 rfl) ?_
    refine c_get hx hb hts i_X11_findRound_X11 hown hK hP 0 tC0 rfl 5 (by decide) (hts _ (List.mem_of_getElem? (i := 1) rfl)) (fun _ h9 => h9) rfl (v := .ref (ad 55)) rfl dX11_findRound_4 ?_
    refine c_get hx hb hts i_X11_findRound_X7 hown hK hP 55 tC55 rfl 6 (by decide) (hts _ (List.mem_of_getElem? (i := 2) rfl)) (fun _ h9 => h9) rfl (v := .int (g.1 55 6)) rfl dX11_findRound_7 ?_
    refine lv_icmp_ge (tgt := 75) hx hb dX11_findRound_10 (by decide) (fun c2001 => ?_) (fun c2001 => ?_)
    · have hf := c_it c2001 hf
      refine lv_aload_n hx hb dX11_findRound_75 rfl (lv_at hl 0 rfl) ?_
      refine lv_bipush (v := (-5 : Int32)) hx hb dX11_findRound_76 (by decide) ?_
      obtain ⟨g2002, eg2002, hf⟩ := c_letE hf
      refine c_put hx hb hts i_X11_findRound_X11 tyX11 tyX11_ok nmX11 hown hK hP hD hS 0 tC0 rfl 14 (by decide) (hts _ (List.mem_of_getElem? (i := 10) rfl)) (fun _ h9 => h9) rfl (ty := .int) (by decide +kernel) rfl rfl rfl eg2002 dX11_findRound_78 (fun H locs hP hS => ?_)
      refine lv_aload_n hx hb dX11_findRound_81 rfl (lv_at hl 0 rfl) ?_
      refine lv_iconst (v := (0 : Int32)) hx hb dX11_findRound_82 (by decide) ?_
      refine lv_iconst (v := (0 : Int32)) hx hb dX11_findRound_83 (by decide) ?_
      refine lv_aload_n hx hb dX11_findRound_84 rfl (lv_at hl 0 rfl) ?_
      refine c_get hx hb hts i_X11_findRound_X11 hown hK hP 0 tC0 rfl 5 (by decide) (hts _ (List.mem_of_getElem? (i := 1) rfl)) (fun _ h9 => h9) rfl (v := .ref (ad 55)) rfl dX11_findRound_85 ?_
      obtain ⟨r2003, hc2004, hf⟩ := c_bd hf
      refine c_goi (va_runV (As := []) (rest := [.int (0 : Int32), .int (0 : Int32), .ref (ad 0)]) ⟨hx, hb, hml, hown, hts⟩ (kX7_used hD hc2004) (cwV 0 hts gX11_findRound_X7_used rfl rfl rfl (by decide +kernel) ⟨Nat.le_of_ble_eq_true rfl, Nat.le_of_ble_eq_true rfl⟩) (c_preV hK hP hE hS tC55 rfl) rfl rfl hl.1 rfl (lv_room (Nat.le_of_ble_eq_true rfl)) dX11_findRound_88 ⟨Nat.zero_le _, Nat.zero_le _⟩) hS (fun H locs hP hS => ?_)
      refine lv_aload_n hx hb dX11_findRound_91 rfl (lv_at hl 0 rfl) ?_
      refine c_get hx hb hts i_X11_findRound_X11 hown hK hP 0 tC0 rfl 5 (by decide) (hts _ (List.mem_of_getElem? (i := 1) rfl)) (fun _ h9 => h9) rfl (v := .ref (ad 55)) rfl dX11_findRound_92 ?_
      obtain ⟨r2005, hc2006, hf⟩ := c_bd hf
      refine c_goi (va_runV (As := []) (rest := [.int r2003, .int (0 : Int32), .int (0 : Int32), .ref (ad 0)]) ⟨hx, hb, hml, hown, hts⟩ (kX7_named hD hc2006) (cwV 0 hts gX11_findRound_X7_named rfl rfl rfl (by decide +kernel) ⟨Nat.le_of_ble_eq_true rfl, Nat.le_of_ble_eq_true rfl⟩) (c_preV hK hP hE hS tC55 rfl) rfl rfl hl.1 rfl (lv_room (Nat.le_of_ble_eq_true rfl)) dX11_findRound_95 ⟨Nat.zero_le _, Nat.zero_le _⟩) hS (fun H locs hP hS => ?_)
      obtain ⟨g2008, hc2007, hf⟩ := c_bd hf
      refine c_gov (va_runV (As := [.int (0 : Int32), .int (0 : Int32), .int r2003, .int r2005]) (rest := []) ⟨hx, hb, hml, hown, hts⟩ (kG2_0 hD hc2007) (cwV 4 hts gX11_findRound_X11_deal rfl rfl rfl (by decide +kernel) ⟨Nat.le_of_ble_eq_true rfl, Nat.le_of_ble_eq_true rfl⟩) (c_preV hK hP hE hS tC0 rfl) rfl rfl hl.1 rfl (lv_room (Nat.le_of_ble_eq_true rfl)) dX11_findRound_98 ⟨Nat.zero_le _, Nat.zero_le _⟩) hS (fun H locs hP hS => ?_)
      exact c_vret hx hb hr hlk hP hS (Option.some.inj hf) dX11_findRound_101
    · have hf := c_ie c2001 hf
      refine lv_iconst (v := (0 : Int32)) hx hb dX11_findRound_13 (by decide) ?_
      refine lv_istore_n (lv' := [(2, .int (0 : Int32)), (0, .ref (ad 0)), (1, .int x1)]) hx hb dX11_findRound_14 rfl hl (by decide) rfl (fun ls hl => ?_)
      exact jX11_findRound_15 C hD (jX11_findRound_69 C hD ih) c_F x1 ((0 : Int32)) g hf _ _ hP hS _ (lv_sub hl [1, 2, 0] rfl)
def fX11_findRound (g : c_G)  : Option (c_G) :=
  fX11_findRound_2 c_F ((0 : Int32)) g
set_option maxRecDepth 100000 in
set_option maxHeartbeats 4000000 in
theorem kX11_findRound {l : Launch} {D : va_G} {tc : Nat → ClassId} {ad : Nat → Nat} {A : Nat → Prop} {E : (Nat → Nat) × (Nat → Nat) × Nat} (hD : c_D A ad TC)  {g g' : c_G} (hf : fX11_findRound g  = some g') : c_Mv l yX11_findRound wsX11_findRound (c_rm 42) D tc ad A E TC ([.ref (ad 0)] : List Value) g g' := by
  refine c_ofW (bytes := cX11_findRound) (maxL := 3) (ret := none) (by decide) rfl (Nat.le_of_ble_eq_true rfl) ?_
  intro p e s m below meth c ls C hP hS hl
  unfold fX11_findRound at hf
  obtain ⟨hx, hb, hr, hml, hts, hown, hlk, hK, hE⟩ := id C
  have hl : lv_has ls 3 [(0, .ref (ad 0))] := hl
  refine lv_iconst (v := (0 : Int32)) hx hb dX11_findRound_0 (by decide) ?_
  refine lv_istore_n (lv' := [(1, .int (0 : Int32)), (0, .ref (ad 0))]) hx hb dX11_findRound_1 rfl hl (by decide) rfl (fun ls hl => ?_)
  exact jX11_findRound_2 C hD c_F ((0 : Int32)) g hf _ _ hP hS _ (lv_sub hl [1, 0] rfl)
theorem i_X11_told_X7 : ∀ w ∈ u_ws RX7 TX7 17, w ∈ wsX11_told := c_inP [136, 137, 138, 139, 140, 141, 142, 143, 144, 145, 146, 147, 148, 149, 150, 151, 152] (by decide +kernel)
theorem i_X11_told_X10 : ∀ w ∈ u_ws RX10 TX10 8, w ∈ wsX11_told := c_inP [153, 154, 155, 156, 157, 158, 159, 160] (by decide +kernel)
theorem i_X11_told_X11 : ∀ w ∈ u_ws RX11 TX11 19, w ∈ wsX11_told := c_inP [117, 118, 119, 120, 121, 122, 123, 124, 125, 126, 127, 128, 129, 130, 131, 132, 133, 134, 135] (by decide +kernel)
theorem dX11_told_0 : decode cX11_told 0 = .ok (.iload_n 1, 1) := by decide +kernel
theorem dX11_told_1 : decode cX11_told 1 = .ok (.tableswitch 91 0 5 #[39, 47, 58, 66, 74, 82], 39) := by decide +kernel
theorem dX11_told_40 : decode cX11_told 40 = .ok (.aload_n 0, 1) := by decide +kernel
theorem dX11_told_41 : decode cX11_told 41 = .ok (.getfield 86, 3) := by decide +kernel
theorem dX11_told_44 : decode cX11_told 44 = .ok (.getfield 197, 3) := by decide +kernel
theorem dX11_told_47 : decode cX11_told 47 = .ok (.ireturn, 1) := by decide +kernel
theorem dX11_told_48 : decode cX11_told 48 = .ok (.aload_n 0, 1) := by decide +kernel
theorem dX11_told_49 : decode cX11_told 49 = .ok (.getfield 86, 3) := by decide +kernel
theorem dX11_told_52 : decode cX11_told 52 = .ok (.getfield 193, 3) := by decide +kernel
theorem dX11_told_55 : decode cX11_told 55 = .ok (.getfield 200, 3) := by decide +kernel
theorem dX11_told_58 : decode cX11_told 58 = .ok (.ireturn, 1) := by decide +kernel
theorem dX11_told_59 : decode cX11_told 59 = .ok (.aload_n 0, 1) := by decide +kernel
theorem dX11_told_60 : decode cX11_told 60 = .ok (.getfield 86, 3) := by decide +kernel
theorem dX11_told_63 : decode cX11_told 63 = .ok (.getfield 177, 3) := by decide +kernel
theorem dX11_told_66 : decode cX11_told 66 = .ok (.ireturn, 1) := by decide +kernel
theorem dX11_told_67 : decode cX11_told 67 = .ok (.aload_n 0, 1) := by decide +kernel
theorem dX11_told_68 : decode cX11_told 68 = .ok (.getfield 86, 3) := by decide +kernel
theorem dX11_told_71 : decode cX11_told 71 = .ok (.invokevirtual 203, 3) := by decide +kernel
theorem dX11_told_74 : decode cX11_told 74 = .ok (.ireturn, 1) := by decide +kernel
theorem dX11_told_75 : decode cX11_told 75 = .ok (.aload_n 0, 1) := by decide +kernel
theorem dX11_told_76 : decode cX11_told 76 = .ok (.getfield 86, 3) := by decide +kernel
theorem dX11_told_79 : decode cX11_told 79 = .ok (.invokevirtual 207, 3) := by decide +kernel
theorem dX11_told_82 : decode cX11_told 82 = .ok (.ireturn, 1) := by decide +kernel
theorem dX11_told_83 : decode cX11_told 83 = .ok (.aload_n 0, 1) := by decide +kernel
theorem dX11_told_84 : decode cX11_told 84 = .ok (.invokevirtual 210, 3) := by decide +kernel
theorem dX11_told_87 : decode cX11_told 87 = .ok (.aload_n 0, 1) := by decide +kernel
theorem dX11_told_88 : decode cX11_told 88 = .ok (.getfield 213, 3) := by decide +kernel
theorem dX11_told_91 : decode cX11_told 91 = .ok (.ireturn, 1) := by decide +kernel
theorem dX11_told_92 : decode cX11_told 92 = .ok (.aload_n 0, 1) := by decide +kernel
theorem dX11_told_93 : decode cX11_told 93 = .ok (.iload_n 1, 1) := by decide +kernel
theorem dX11_told_94 : decode cX11_told 94 = .ok (.bipush 10, 2) := by decide +kernel
theorem dX11_told_96 : decode cX11_told 96 = .ok (.isub, 1) := by decide +kernel
theorem dX11_told_97 : decode cX11_told 97 = .ok (.invokevirtual 117, 3) := by decide +kernel
theorem dX11_told_100 : decode cX11_told 100 = .ok (.ifCond .ne 5, 3) := by decide +kernel
theorem dX11_told_103 : decode cX11_told 103 = .ok (.iconst (-1), 1) := by decide +kernel
theorem dX11_told_104 : decode cX11_told 104 = .ok (.ireturn, 1) := by decide +kernel
theorem dX11_told_105 : decode cX11_told 105 = .ok (.aload_n 0, 1) := by decide +kernel
theorem dX11_told_106 : decode cX11_told 106 = .ok (.invokevirtual 210, 3) := by decide +kernel
theorem dX11_told_109 : decode cX11_told 109 = .ok (.aload_n 0, 1) := by decide +kernel
theorem dX11_told_110 : decode cX11_told 110 = .ok (.getfield 34, 3) := by decide +kernel
theorem dX11_told_113 : decode cX11_told 113 = .ok (.iload_n 1, 1) := by decide +kernel
theorem dX11_told_114 : decode cX11_told 114 = .ok (.bipush 10, 2) := by decide +kernel
theorem dX11_told_116 : decode cX11_told 116 = .ok (.isub, 1) := by decide +kernel
theorem dX11_told_117 : decode cX11_told 117 = .ok (.iaload, 1) := by decide +kernel
theorem dX11_told_118 : decode cX11_told 118 = .ok (.ireturn, 1) := by decide +kernel
set_option maxRecDepth 20000 in
theorem ggX11_told_X7_used : GoodIn wsX11_told wsX7_used := goodIn_r _ [12, 13, 14, 136, 137, 138, 139, 140, 141, 142, 143, 144, 145, 146, 147, 148, 149, 150, 151, 152] (by decide +kernel) (by decide +kernel)
set_option maxRecDepth 20000 in
theorem gX11_told_X7_used : GoodIn wsX11_told (wsV RX11 203 RX7 yX7_used wsX7_used) := goodIn_app (goodIn_of _ (by decide +kernel)) ggX11_told_X7_used
set_option maxRecDepth 20000 in
theorem ggX11_told_X7_named : GoodIn wsX11_told wsX7_named := goodIn_r _ [18, 14, 136, 137, 138, 139, 140, 141, 142, 143, 144, 145, 146, 147, 148, 149, 150, 151, 152] (by decide +kernel) (by decide +kernel)
set_option maxRecDepth 20000 in
theorem gX11_told_X7_named : GoodIn wsX11_told (wsV RX11 207 RX7 yX7_named wsX7_named) := goodIn_app (goodIn_of _ (by decide +kernel)) ggX11_told_X7_named
set_option maxRecDepth 20000 in
theorem ggX11_told_X11_findRound : GoodIn wsX11_told wsX11_findRound := goodIn_r _ [23, 1, 24, 25, 26, 27, 28, 29, 30, 31, 6, 32, 33, 34, 22, 35, 36, 37, 38, 39, 40, 41, 3, 42, 43, 44, 45, 46, 47, 48, 49, 50, 51, 52, 53, 54, 55, 56, 57, 58, 59, 60, 61, 62, 63, 64, 65, 66, 67, 68, 69, 70, 71, 72, 73, 74, 75, 76, 77, 78, 79, 80, 81, 82, 83, 84, 85, 86, 87, 88, 89, 90, 91, 92, 93, 94, 8, 9, 10, 11, 12, 13, 14, 15, 16, 17, 18, 95, 96, 97, 98, 99, 7, 100, 101, 102, 103, 104, 105, 106, 107, 108, 109, 110, 111, 112, 117, 118, 119, 120, 121, 122, 123, 124, 125, 126, 127, 128, 129, 130, 131, 132, 133, 134, 135, 136, 137, 138, 139, 140, 141, 142, 143, 144, 145, 146, 147, 148, 149, 150, 151, 152, 153, 154, 155, 156, 157, 158, 159, 160] (by decide +kernel) (by decide +kernel)
set_option maxRecDepth 20000 in
theorem gX11_told_X11_findRound : GoodIn wsX11_told (wsV RX11 210 RX11 yX11_findRound wsX11_findRound) := goodIn_app (goodIn_of _ (by decide +kernel)) ggX11_told_X11_findRound
set_option maxRecDepth 20000 in
theorem ggX11_told_X11_isChild : GoodIn wsX11_told wsX11_isChild := goodIn_r _ [116, 1, 24, 117, 118, 119, 120, 121, 122, 123, 124, 125, 126, 127, 128, 129, 130, 131, 132, 133, 134, 135, 136, 137, 138, 139, 140, 141, 142, 143, 144, 145, 146, 147, 148, 149, 150, 151, 152] (by decide +kernel) (by decide +kernel)
set_option maxRecDepth 20000 in
theorem gX11_told_X11_isChild : GoodIn wsX11_told (wsV RX11 117 RX11 yX11_isChild wsX11_isChild) := goodIn_app (goodIn_of _ (by decide +kernel)) ggX11_told_X11_isChild
def fX11_told (g : c_G) (a1 : Int32) : Option (c_G × Int32) :=
  if a1 = (0 : Int32) then (some (g, (g.1 55 5))) else if a1 = (1 : Int32) then (if c_isV ((g.2.2 55)) = true then some (g, (g.1 (g.2.2 55) 7)) else none) else if a1 = (2 : Int32) then (some (g, (g.1 55 4))) else if a1 = (3 : Int32) then ((fX7_used g 55).bind fun r6 => some (g, r6)) else if a1 = (4 : Int32) then ((fX7_named g 55).bind fun r9 => some (g, r9)) else if a1 = (5 : Int32) then ((fX11_findRound g).bind fun g13 => some (g13, (g13.1 0 14))) else ((fX11_isChild g ((a1 - (10 : Int32)))).bind fun r14 => if r14 = 0 then (some (g, (-1 : Int32))) else ((fX11_findRound g).bind fun g18 => if c_in ((a1 - (10 : Int32))) (6) = true then some (g18, (g18.1 7 ((a1 - (10 : Int32))).toNatClampNeg)) else none))
set_option maxRecDepth 100000 in
set_option maxHeartbeats 4000000 in
theorem kX11_told {l : Launch} {D : va_G} {tc : Nat → ClassId} {ad : Nat → Nat} {A : Nat → Prop} {E : (Nat → Nat) × (Nat → Nat) × Nat} (hD : c_D A ad TC) {a1 : Int32} {g g' : c_G} {r : Int32} (hf : fX11_told g a1 = some (g', r)) : c_Mi l yX11_told wsX11_told (c_rm 43) D tc ad A E TC ([.ref (ad 0), .int a1] : List Value) g g' r := by
  refine c_ofW (bytes := cX11_told) (maxL := 2) (ret := (some .int)) (by decide) rfl (Nat.le_of_ble_eq_true rfl) ?_
  intro p e s m below meth c ls C hP hS hl
  unfold fX11_told at hf
  obtain ⟨hx, hb, hr, hml, hts, hown, hlk, hK, hE⟩ := id C
  have hl : lv_has ls 2 [(0, .ref (ad 0)), (1, .int a1)] := hl
  refine lv_iload_n hx hb dX11_told_0 rfl (lv_at hl 1 rfl) ?_
  by_cases c1 : a1 = (0 : Int32)
  · have hf := c_it c1 hf
    refine lv_tableIn (off := 39) (tgt := 40) hx hb dX11_told_1 (by rw [c1]; decide) (by rw [c1]; decide) (by rw [c1]; rfl) (by decide) ?_
    refine lv_aload_n hx hb dX11_told_40 rfl (lv_at hl 0 rfl) ?_
    refine c_get hx hb hts i_X11_told_X11 hown hK hP 0 tC0 rfl 5 (by decide) (hts _ (List.mem_of_getElem? (i := 1) rfl)) (fun _ h9 => h9) rfl (v := .ref (ad 55)) rfl dX11_told_41 ?_
    refine c_get hx hb hts i_X11_told_X7 hown hK hP 55 tC55 rfl 5 (by decide) (hts _ (List.mem_of_getElem? (i := 2) rfl)) (fun _ h9 => h9) rfl (v := .int (g.1 55 5)) rfl dX11_told_44 ?_
    exact c_iret hx hb hr hlk hP hS rfl (c_inj hf) dX11_told_47
  have hf := c_ie c1 hf
  by_cases c2 : a1 = (1 : Int32)
  · have hf := c_it c2 hf
    refine lv_tableIn (off := 47) (tgt := 48) hx hb dX11_told_1 (by rw [c2]; decide) (by rw [c2]; decide) (by rw [c2]; rfl) (by decide) ?_
    refine lv_aload_n hx hb dX11_told_48 rfl (lv_at hl 0 rfl) ?_
    refine c_get hx hb hts i_X11_told_X11 hown hK hP 0 tC0 rfl 5 (by decide) (hts _ (List.mem_of_getElem? (i := 1) rfl)) (fun _ h9 => h9) rfl (v := .ref (ad 55)) rfl dX11_told_49 ?_
    refine c_get hx hb hts i_X11_told_X7 hown hK hP 55 tC55 rfl 16 (by decide) (hts _ (List.mem_of_getElem? (i := 3) rfl)) (fun _ h9 => h9) rfl (v := .ref (ad (g.2.2 55))) rfl dX11_told_52 ?_
    obtain ⟨hq3, hf⟩ := c_gd hf
    have hq3T := c_isVE hq3
    refine c_get hx hb hts i_X11_told_X10 hown hK hP (g.2.2 55) hq3T.1 rfl 7 (by decide) (hts _ (List.mem_of_getElem? (i := 4) rfl)) (fun _ h9 => h9) rfl (v := .int (g.1 (g.2.2 55) 7)) rfl dX11_told_55 ?_
    exact c_iret hx hb hr hlk hP hS rfl (c_inj hf) dX11_told_58
  have hf := c_ie c2 hf
  by_cases c4 : a1 = (2 : Int32)
  · have hf := c_it c4 hf
    refine lv_tableIn (off := 58) (tgt := 59) hx hb dX11_told_1 (by rw [c4]; decide) (by rw [c4]; decide) (by rw [c4]; rfl) (by decide) ?_
    refine lv_aload_n hx hb dX11_told_59 rfl (lv_at hl 0 rfl) ?_
    refine c_get hx hb hts i_X11_told_X11 hown hK hP 0 tC0 rfl 5 (by decide) (hts _ (List.mem_of_getElem? (i := 1) rfl)) (fun _ h9 => h9) rfl (v := .ref (ad 55)) rfl dX11_told_60 ?_
    refine c_get hx hb hts i_X11_told_X7 hown hK hP 55 tC55 rfl 4 (by decide) (hts _ (List.mem_of_getElem? (i := 5) rfl)) (fun _ h9 => h9) rfl (v := .int (g.1 55 4)) rfl dX11_told_63 ?_
    exact c_iret hx hb hr hlk hP hS rfl (c_inj hf) dX11_told_66
  have hf := c_ie c4 hf
  by_cases c5 : a1 = (3 : Int32)
  · have hf := c_it c5 hf
    refine lv_tableIn (off := 66) (tgt := 67) hx hb dX11_told_1 (by rw [c5]; decide) (by rw [c5]; decide) (by rw [c5]; rfl) (by decide) ?_
    refine lv_aload_n hx hb dX11_told_67 rfl (lv_at hl 0 rfl) ?_
    refine c_get hx hb hts i_X11_told_X11 hown hK hP 0 tC0 rfl 5 (by decide) (hts _ (List.mem_of_getElem? (i := 1) rfl)) (fun _ h9 => h9) rfl (v := .ref (ad 55)) rfl dX11_told_68 ?_
    obtain ⟨r6, hc7, hf⟩ := c_bd hf
    refine c_goi (va_runV (As := []) (rest := []) ⟨hx, hb, hml, hown, hts⟩ (kX7_used hD hc7) (cwV 0 hts gX11_told_X7_used rfl rfl rfl (by decide +kernel) ⟨Nat.le_of_ble_eq_true rfl, Nat.le_of_ble_eq_true rfl⟩) (c_preV hK hP hE hS tC55 rfl) rfl rfl hl.1 rfl (lv_room (Nat.le_of_ble_eq_true rfl)) dX11_told_71 ⟨Nat.zero_le _, Nat.zero_le _⟩) hS (fun H locs hP hS => ?_)
    exact c_iret hx hb hr hlk hP hS rfl (c_inj hf) dX11_told_74
  have hf := c_ie c5 hf
  by_cases c8 : a1 = (4 : Int32)
  · have hf := c_it c8 hf
    refine lv_tableIn (off := 74) (tgt := 75) hx hb dX11_told_1 (by rw [c8]; decide) (by rw [c8]; decide) (by rw [c8]; rfl) (by decide) ?_
    refine lv_aload_n hx hb dX11_told_75 rfl (lv_at hl 0 rfl) ?_
    refine c_get hx hb hts i_X11_told_X11 hown hK hP 0 tC0 rfl 5 (by decide) (hts _ (List.mem_of_getElem? (i := 1) rfl)) (fun _ h9 => h9) rfl (v := .ref (ad 55)) rfl dX11_told_76 ?_
    obtain ⟨r9, hc10, hf⟩ := c_bd hf
    refine c_goi (va_runV (As := []) (rest := []) ⟨hx, hb, hml, hown, hts⟩ (kX7_named hD hc10) (cwV 0 hts gX11_told_X7_named rfl rfl rfl (by decide +kernel) ⟨Nat.le_of_ble_eq_true rfl, Nat.le_of_ble_eq_true rfl⟩) (c_preV hK hP hE hS tC55 rfl) rfl rfl hl.1 rfl (lv_room (Nat.le_of_ble_eq_true rfl)) dX11_told_79 ⟨Nat.zero_le _, Nat.zero_le _⟩) hS (fun H locs hP hS => ?_)
    exact c_iret hx hb hr hlk hP hS rfl (c_inj hf) dX11_told_82
  have hf := c_ie c8 hf
  by_cases c11 : a1 = (5 : Int32)
  · have hf := c_it c11 hf
    refine lv_tableIn (off := 82) (tgt := 83) hx hb dX11_told_1 (by rw [c11]; decide) (by rw [c11]; decide) (by rw [c11]; rfl) (by decide) ?_
    refine lv_aload_n hx hb dX11_told_83 rfl (lv_at hl 0 rfl) ?_
    obtain ⟨g13, hc12, hf⟩ := c_bd hf
    refine c_gov (va_runV (As := []) (rest := []) ⟨hx, hb, hml, hown, hts⟩ (kX11_findRound hD hc12) (cwV 0 hts gX11_told_X11_findRound rfl rfl rfl (by decide +kernel) ⟨Nat.le_of_ble_eq_true rfl, Nat.le_of_ble_eq_true rfl⟩) (c_preV hK hP hE hS tC0 rfl) rfl rfl hl.1 rfl (lv_room (Nat.le_of_ble_eq_true rfl)) dX11_told_84 ⟨Nat.zero_le _, Nat.zero_le _⟩) hS (fun H locs hP hS => ?_)
    refine lv_aload_n hx hb dX11_told_87 rfl (lv_at hl 0 rfl) ?_
    refine c_get hx hb hts i_X11_told_X11 hown hK hP 0 tC0 rfl 14 (by decide) (hts _ (List.mem_of_getElem? (i := 6) rfl)) (fun _ h9 => h9) rfl (v := .int (g13.1 0 14)) rfl dX11_told_88 ?_
    exact c_iret hx hb hr hlk hP hS rfl (c_inj hf) dX11_told_91
  have hf := c_ie c11 hf
  have h9 := c_sw (x := a1) (lo := 0) (n := 5) (by decide) (fun k hj hk => by rcases (show k = 0 ∨ k = 1 ∨ k = 2 ∨ k = 3 ∨ k = 4 ∨ k = 5 by omega) with rfl | rfl | rfl | rfl | rfl | rfl <;> assumption)
  refine lv_tableOut (tgt := 92) hx hb dX11_told_1 (by omega) (by decide) ?_
  refine lv_aload_n hx hb dX11_told_92 rfl (lv_at hl 0 rfl) ?_
  refine lv_iload_n hx hb dX11_told_93 rfl (lv_at hl 1 rfl) ?_
  refine lv_bipush (v := (10 : Int32)) hx hb dX11_told_94 (by decide) ?_
  refine lv_isub hx hb dX11_told_96 ?_
  obtain ⟨r14, hc15, hf⟩ := c_bd hf
  refine c_goi (va_runV (As := [.int (a1 - (10 : Int32))]) (rest := []) ⟨hx, hb, hml, hown, hts⟩ (kX11_isChild hD hc15) (cwV 1 hts gX11_told_X11_isChild rfl rfl rfl (by decide +kernel) ⟨Nat.le_of_ble_eq_true rfl, Nat.le_of_ble_eq_true rfl⟩) (c_preV hK hP hE hS tC0 rfl) rfl rfl hl.1 rfl (lv_room (Nat.le_of_ble_eq_true rfl)) dX11_told_97 ⟨Nat.zero_le _, Nat.zero_le _⟩) hS (fun H locs hP hS => ?_)
  refine lv_if_ne (tgt := 105) hx hb dX11_told_100 (by decide) (fun c16 => ?_) (fun c16 => ?_)
  · have hf := c_ie c16 hf
    refine lv_aload_n hx hb dX11_told_105 rfl (lv_at hl 0 rfl) ?_
    obtain ⟨g18, hc17, hf⟩ := c_bd hf
    refine c_gov (va_runV (As := []) (rest := []) ⟨hx, hb, hml, hown, hts⟩ (kX11_findRound hD hc17) (cwV 0 hts gX11_told_X11_findRound rfl rfl rfl (by decide +kernel) ⟨Nat.le_of_ble_eq_true rfl, Nat.le_of_ble_eq_true rfl⟩) (c_preV hK hP hE hS tC0 rfl) rfl rfl hl.1 rfl (lv_room (Nat.le_of_ble_eq_true rfl)) dX11_told_106 ⟨Nat.zero_le _, Nat.zero_le _⟩) hS (fun H locs hP hS => ?_)
    refine lv_aload_n hx hb dX11_told_109 rfl (lv_at hl 0 rfl) ?_
    refine c_get hx hb hts i_X11_told_X11 hown hK hP 0 tC0 rfl 13 (by decide) (hts _ (List.mem_of_getElem? (i := 7) rfl)) (fun _ h9 => h9) rfl (v := .ref (ad 7)) rfl dX11_told_110 ?_
    refine lv_iload_n hx hb dX11_told_113 rfl (lv_at hl 1 rfl) ?_
    refine lv_bipush (v := (10 : Int32)) hx hb dX11_told_114 (by decide) ?_
    refine lv_isub hx hb dX11_told_116 ?_
    obtain ⟨hi19, hf⟩ := c_gd hf
    refine c_iald (j := ((a1 - (10 : Int32))).toNatClampNeg) hx hb hK hP 7 tC7 rfl (c_inV hi19) dX11_told_117 ?_
    exact c_iret hx hb hr hlk hP hS rfl (c_inj hf) dX11_told_118
  · have hf := c_it c16 hf
    refine lv_iconst (v := (-1 : Int32)) hx hb dX11_told_103 (by decide) ?_
    exact c_iret hx hb hr hlk hP hS rfl (c_inj hf) dX11_told_104
