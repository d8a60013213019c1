theorem i_X12_give_X12 : ∀ w ∈ u_ws RX12 TX12 32, w ∈ wsX12_give := c_inP [128, 129, 130, 131, 132, 133, 134, 135, 136, 137, 138, 139, 140, 141, 142, 143, 144, 145, 146, 147, 148, 149, 150, 151, 152, 153, 154, 155, 156, 157, 158, 159] (by decide +kernel)
theorem dX12_give_0 : decode cX12_give 0 = .ok (.iload_n 1, 1) := by decide +kernel
theorem dX12_give_1 : decode cX12_give 1 = .ok (.aload_n 0, 1) := by decide +kernel
theorem dX12_give_2 : decode cX12_give 2 = .ok (.getfield 15, 3) := by decide +kernel
theorem dX12_give_5 : decode cX12_give 5 = .ok (.bipush 78, 2) := by decide +kernel
theorem dX12_give_7 : decode cX12_give 7 = .ok (.iaload, 1) := by decide +kernel
theorem dX12_give_8 : decode cX12_give 8 = .ok (.if_icmp .ne 91, 3) := by decide +kernel
theorem dX12_give_11 : decode cX12_give 11 = .ok (.aload_n 0, 1) := by decide +kernel
theorem dX12_give_12 : decode cX12_give 12 = .ok (.iconst 0, 1) := by decide +kernel
theorem dX12_give_13 : decode cX12_give 13 = .ok (.invokevirtual 217, 3) := by decide +kernel
theorem dX12_give_16 : decode cX12_give 16 = .ok (.iconst 0, 1) := by decide +kernel
theorem dX12_give_17 : decode cX12_give 17 = .ok (.istore_n 3, 1) := by decide +kernel
theorem dX12_give_18 : decode cX12_give 18 = .ok (.iload_n 3, 1) := by decide +kernel
theorem dX12_give_19 : decode cX12_give 19 = .ok (.iload_n 1, 1) := by decide +kernel
theorem dX12_give_20 : decode cX12_give 20 = .ok (.if_icmp .ge 22, 3) := by decide +kernel
theorem dX12_give_23 : decode cX12_give 23 = .ok (.aload_n 0, 1) := by decide +kernel
theorem dX12_give_24 : decode cX12_give 24 = .ok (.iload_n 3, 1) := by decide +kernel
theorem dX12_give_25 : decode cX12_give 25 = .ok (.iconst 4, 1) := by decide +kernel
theorem dX12_give_26 : decode cX12_give 26 = .ok (.aload_n 0, 1) := by decide +kernel
theorem dX12_give_27 : decode cX12_give 27 = .ok (.getfield 53, 3) := by decide +kernel
theorem dX12_give_30 : decode cX12_give 30 = .ok (.iload_n 3, 1) := by decide +kernel
theorem dX12_give_31 : decode cX12_give 31 = .ok (.iaload, 1) := by decide +kernel
theorem dX12_give_32 : decode cX12_give 32 = .ok (.invokevirtual 97, 3) := by decide +kernel
theorem dX12_give_35 : decode cX12_give 35 = .ok (.pop, 1) := by decide +kernel
theorem dX12_give_36 : decode cX12_give 36 = .ok (.iinc 3 1, 3) := by decide +kernel
theorem dX12_give_39 : decode cX12_give 39 = .ok (.goto (-21), 3) := by decide +kernel
theorem dX12_give_42 : decode cX12_give 42 = .ok (.aload_n 0, 1) := by decide +kernel
theorem dX12_give_43 : decode cX12_give 43 = .ok (.invokevirtual 214, 3) := by decide +kernel
theorem dX12_give_46 : decode cX12_give 46 = .ok (.aload_n 0, 1) := by decide +kernel
theorem dX12_give_47 : decode cX12_give 47 = .ok (.invokevirtual 223, 3) := by decide +kernel
theorem dX12_give_50 : decode cX12_give 50 = .ok (.istore_n 3, 1) := by decide +kernel
theorem dX12_give_51 : decode cX12_give 51 = .ok (.aload_n 0, 1) := by decide +kernel
theorem dX12_give_52 : decode cX12_give 52 = .ok (.iconst 0, 1) := by decide +kernel
theorem dX12_give_53 : decode cX12_give 53 = .ok (.invokevirtual 220, 3) := by decide +kernel
theorem dX12_give_56 : decode cX12_give 56 = .ok (.iload_n 3, 1) := by decide +kernel
theorem dX12_give_57 : decode cX12_give 57 = .ok (.aload_n 0, 1) := by decide +kernel
theorem dX12_give_58 : decode cX12_give 58 = .ok (.getfield 226, 3) := by decide +kernel
theorem dX12_give_61 : decode cX12_give 61 = .ok (.if_icmp .le 37, 3) := by decide +kernel
theorem dX12_give_64 : decode cX12_give 64 = .ok (.aload_n 0, 1) := by decide +kernel
theorem dX12_give_65 : decode cX12_give 65 = .ok (.iload_n 3, 1) := by decide +kernel
theorem dX12_give_66 : decode cX12_give 66 = .ok (.putfield 226, 3) := by decide +kernel
theorem dX12_give_69 : decode cX12_give 69 = .ok (.iconst 0, 1) := by decide +kernel
theorem dX12_give_70 : decode cX12_give 70 = .ok (.istore 4, 2) := by decide +kernel
theorem dX12_give_72 : decode cX12_give 72 = .ok (.iload 4, 2) := by decide +kernel
theorem dX12_give_74 : decode cX12_give 74 = .ok (.iload_n 1, 1) := by decide +kernel
theorem dX12_give_75 : decode cX12_give 75 = .ok (.if_icmp .ge 23, 3) := by decide +kernel
theorem dX12_give_78 : decode cX12_give 78 = .ok (.aload_n 0, 1) := by decide +kernel
theorem dX12_give_79 : decode cX12_give 79 = .ok (.getfield 56, 3) := by decide +kernel
theorem dX12_give_82 : decode cX12_give 82 = .ok (.iload 4, 2) := by decide +kernel
theorem dX12_give_84 : decode cX12_give 84 = .ok (.aload_n 0, 1) := by decide +kernel
theorem dX12_give_85 : decode cX12_give 85 = .ok (.getfield 53, 3) := by decide +kernel
theorem dX12_give_88 : decode cX12_give 88 = .ok (.iload 4, 2) := by decide +kernel
theorem dX12_give_90 : decode cX12_give 90 = .ok (.iaload, 1) := by decide +kernel
theorem dX12_give_91 : decode cX12_give 91 = .ok (.iastore, 1) := by decide +kernel
theorem dX12_give_92 : decode cX12_give 92 = .ok (.iinc 4 1, 3) := by decide +kernel
theorem dX12_give_95 : decode cX12_give 95 = .ok (.goto (-23), 3) := by decide +kernel
theorem dX12_give_98 : decode cX12_give 98 = .ok (.return_, 1) := by decide +kernel
theorem dX12_give_99 : decode cX12_give 99 = .ok (.iconst 0, 1) := by decide +kernel
theorem dX12_give_100 : decode cX12_give 100 = .ok (.istore_n 3, 1) := by decide +kernel
theorem dX12_give_101 : decode cX12_give 101 = .ok (.iload_n 3, 1) := by decide +kernel
theorem dX12_give_102 : decode cX12_give 102 = .ok (.bipush 6, 2) := by decide +kernel
theorem dX12_give_104 : decode cX12_give 104 = .ok (.if_icmp .ge 36, 3) := by decide +kernel
theorem dX12_give_107 : decode cX12_give 107 = .ok (.iload_n 2, 1) := by decide +kernel
theorem dX12_give_108 : decode cX12_give 108 = .ok (.iload_n 3, 1) := by decide +kernel
theorem dX12_give_109 : decode cX12_give 109 = .ok (.ishr, 1) := by decide +kernel
theorem dX12_give_110 : decode cX12_give 110 = .ok (.iconst 1, 1) := by decide +kernel
theorem dX12_give_111 : decode cX12_give 111 = .ok (.iand, 1) := by decide +kernel
theorem dX12_give_112 : decode cX12_give 112 = .ok (.ifCond .ne 22, 3) := by decide +kernel
theorem dX12_give_115 : decode cX12_give 115 = .ok (.aload_n 0, 1) := by decide +kernel
theorem dX12_give_116 : decode cX12_give 116 = .ok (.getfield 53, 3) := by decide +kernel
theorem dX12_give_119 : decode cX12_give 119 = .ok (.iload_n 1, 1) := by decide +kernel
theorem dX12_give_120 : decode cX12_give 120 = .ok (.iload_n 3, 1) := by decide +kernel
theorem dX12_give_121 : decode cX12_give 121 = .ok (.iastore, 1) := by decide +kernel
theorem dX12_give_122 : decode cX12_give 122 = .ok (.aload_n 0, 1) := by decide +kernel
theorem dX12_give_123 : decode cX12_give 123 = .ok (.iload_n 1, 1) := by decide +kernel
theorem dX12_give_124 : decode cX12_give 124 = .ok (.iconst 1, 1) := by decide +kernel
theorem dX12_give_125 : decode cX12_give 125 = .ok (.iadd, 1) := by decide +kernel
theorem dX12_give_126 : decode cX12_give 126 = .ok (.iload_n 2, 1) := by decide +kernel
theorem dX12_give_127 : decode cX12_give 127 = .ok (.iconst 1, 1) := by decide +kernel
theorem dX12_give_128 : decode cX12_give 128 = .ok (.iload_n 3, 1) := by decide +kernel
theorem dX12_give_129 : decode cX12_give 129 = .ok (.ishl, 1) := by decide +kernel
theorem dX12_give_130 : decode cX12_give 130 = .ok (.ior, 1) := by decide +kernel
theorem dX12_give_131 : decode cX12_give 131 = .ok (.invokevirtual 229, 3) := by decide +kernel
theorem dX12_give_134 : decode cX12_give 134 = .ok (.iinc 3 1, 3) := by decide +kernel
theorem dX12_give_137 : decode cX12_give 137 = .ok (.goto (-36), 3) := by decide +kernel
theorem dX12_give_140 : decode cX12_give 140 = .ok (.return_, 1) := by decide +kernel
set_option maxRecDepth 20000 in
theorem ggX12_give_X12_keep : GoodIn wsX12_give wsX12_keep := goodIn_r _ [9, 10, 1, 128, 129, 130, 131, 132, 133, 134, 135, 136, 137, 138, 139, 140, 141, 142, 143, 144, 145, 146, 147, 148, 149, 150, 151, 152, 153, 154, 155, 156, 157, 158, 159] (by decide +kernel) (by decide +kernel)
set_option maxRecDepth 20000 in
theorem gX12_give_X12_keep : GoodIn wsX12_give (wsV RX12 217 RX12 yX12_keep wsX12_keep) := goodIn_app (goodIn_of _ (by decide +kernel)) ggX12_give_X12_keep
set_option maxRecDepth 20000 in
theorem ggX12_give_X12_change : GoodIn wsX12_give wsX12_change := goodIn_r _ [14, 1, 15, 16, 17, 8, 18, 128, 129, 130, 131, 132, 133, 134, 135, 136, 137, 138, 139, 140, 141, 142, 143, 144, 145, 146, 147, 148, 149, 150, 151, 152, 153, 154, 155, 156, 157, 158, 159] (by decide +kernel) (by decide +kernel)
set_option maxRecDepth 20000 in
theorem gX12_give_X12_change : GoodIn wsX12_give (wsV RX12 97 RX12 yX12_change wsX12_change) := goodIn_app (goodIn_of _ (by decide +kernel)) ggX12_give_X12_change
set_option maxRecDepth 20000 in
theorem ggX12_give_X12_sunday : GoodIn wsX12_give wsX12_sunday := goodIn_r _ [22, 1, 15, 16, 17, 8, 18, 23, 24, 25, 26, 27, 28, 29, 30, 31, 32, 33, 34, 35, 36, 37, 38, 39, 40, 41, 42, 43, 44, 45, 46, 47, 48, 49, 50, 51, 52, 53, 54, 55, 56, 57, 58, 59, 60, 61, 62, 63, 64, 65, 66, 67, 68, 69, 70, 71, 72, 73, 74, 75, 76, 77, 78, 79, 80, 81, 82, 83, 84, 85, 86, 87, 88, 89, 90, 91, 92, 93, 94, 95, 96, 97, 98, 99, 100, 101, 102, 103, 104, 105, 106, 107, 108, 109, 110, 111, 112, 113, 114, 115, 116, 11, 12, 13, 14, 128, 129, 130, 131, 132, 133, 134, 135, 136, 137, 138, 139, 140, 141, 142, 143, 144, 145, 146, 147, 148, 149, 150, 151, 152, 153, 154, 155, 156, 157, 158, 159] (by decide +kernel) (by decide +kernel)
set_option maxRecDepth 20000 in
theorem gX12_give_X12_sunday : GoodIn wsX12_give (wsV RX12 214 RX12 yX12_sunday wsX12_sunday) := goodIn_app (goodIn_of _ (by decide +kernel)) ggX12_give_X12_sunday
set_option maxRecDepth 20000 in
theorem ggX12_give_X12_howMany : GoodIn wsX12_give wsX12_howMany := goodIn_r _ [120, 1, 51, 52, 53, 8, 54, 128, 129, 130, 131, 132, 133, 134, 135, 136, 137, 138, 139, 140, 141, 142, 143, 144, 145, 146, 147, 148, 149, 150, 151, 152, 153, 154, 155, 156, 157, 158, 159] (by decide +kernel) (by decide +kernel)
set_option maxRecDepth 20000 in
theorem gX12_give_X12_howMany : GoodIn wsX12_give (wsV RX12 223 RX12 yX12_howMany wsX12_howMany) := goodIn_app (goodIn_of _ (by decide +kernel)) ggX12_give_X12_howMany
set_option maxRecDepth 20000 in
theorem ggX12_give_X12_lay : GoodIn wsX12_give wsX12_lay := goodIn_r _ [124, 1, 10, 128, 129, 130, 131, 132, 133, 134, 135, 136, 137, 138, 139, 140, 141, 142, 143, 144, 145, 146, 147, 148, 149, 150, 151, 152, 153, 154, 155, 156, 157, 158, 159] (by decide +kernel) (by decide +kernel)
set_option maxRecDepth 20000 in
theorem gX12_give_X12_lay : GoodIn wsX12_give (wsV RX12 220 RX12 yX12_lay wsX12_lay) := goodIn_app (goodIn_of _ (by decide +kernel)) ggX12_give_X12_lay
set_option maxRecDepth 20000 in
theorem ggX12_give_X12_give : GoodIn wsX12_give wsX12_give := goodIn_r _ [0, 1, 2, 3, 4, 5, 6, 7, 8, 9, 10, 11, 12, 13, 14, 15, 16, 17, 18, 19, 20, 21, 22, 23, 24, 25, 26, 27, 28, 29, 30, 31, 32, 33, 34, 35, 36, 37, 38, 39, 40, 41, 42, 43, 44, 45, 46, 47, 48, 49, 50, 51, 52, 53, 54, 55, 56, 57, 58, 59, 60, 61, 62, 63, 64, 65, 66, 67, 68, 69, 70, 71, 72, 73, 74, 75, 76, 77, 78, 79, 80, 81, 82, 83, 84, 85, 86, 87, 88, 89, 90, 91, 92, 93, 94, 95, 96, 97, 98, 99, 100, 101, 102, 103, 104, 105, 106, 107, 108, 109, 110, 111, 112, 113, 114, 115, 116, 117, 118, 119, 120, 121, 122, 123, 124, 125, 126, 127, 128, 129, 130, 131, 132, 133, 134, 135, 136, 137, 138, 139, 140, 141, 142, 143, 144, 145, 146, 147, 148, 149, 150, 151, 152, 153, 154, 155, 156, 157, 158, 159] (by decide +kernel) (by decide +kernel)
set_option maxRecDepth 20000 in
theorem gX12_give_X12_give : GoodIn wsX12_give (wsV RX12 229 RX12 yX12_give wsX12_give) := goodIn_app (goodIn_of _ (by decide +kernel)) ggX12_give_X12_give
def fX12_give_134 (F : Nat → c_G → Int32 → Int32 → Option (c_G)) (rec101 : Int32 → Int32 → Int32 → c_G → Option (c_G)) (a1 : Int32) (a2 : Int32) (x1 : Int32) (x2 : Int32) (x3 : Int32) (g : c_G) : Option (c_G) :=
  c_let (x3 + (1 : Int32)) fun v134001 => rec101 x1 x2 v134001 g
set_option maxRecDepth 100000 in
set_option maxHeartbeats 4000000 in
theorem jX12_give_134 {p : Program} {l : Launch} {e : Env} {s : State} {m : MethodId} {below : List Frame} {meth : Method} {c : Code} {D : va_G} {tc : Nat → ClassId} {ad : Nat → Nat} {A : Nat → Prop} {E : (Nat → Nat) × (Nat → Nat) × Nat} {F : Nat → c_G → Int32 → Int32 → Option (c_G)} {dd : Nat} {a1 : Int32} {a2 : Int32} {g' : c_G} (C : c_C p s m meth c D tc A E RX12 wsX12_give cX12_give 5 none ([.ref (ad 0), .int a1, .int a2] : List Value).toArray) (hD : c_D A ad TM) (hF0 : ∀ {g g' : c_G} {a1 : Int32} {a2 : Int32}, F 0 g a1 a2 = some g' → c_Mv l yX12_give wsX12_give (c_rm (52 + dd)) D tc ad A E TM [.ref (ad 0), .int a1, .int a2] g g') {rec101 : Int32 → Int32 → Int32 → c_G → Option (c_G)} (hrec101 : ∀ (x1 : Int32) (x2 : Int32) (x3 : Int32) (g : c_G), rec101 x1 x2 x3 g = some g' → ∀ (H : Heap) (locs : List Loc), va_P D vwCl (c_ws tc ad TM g) H → va_S A s.heap H locs → ∀ ls : Array Slot, lv_has ls 5 [(0, .ref (ad 0)), (1, .int x1), (2, .int x2), (3, .int x3)] → W p l e (c_rm (52 + dd + 1)) s m ([.ref (ad 0), .int a1, .int a2] : List Value).toArray below meth c H locs 0 0 (MQ below (va_Qv (fun (_ : Unit) => True) (fun _ t => va_P D vwCl (c_ws tc ad TM g') t.heap) A) ([.ref (ad 0), .int a1, .int a2] : List Value).toArray s 0 0 A) (F0 m 101 ls [])) : ∀ (x1 : Int32) (x2 : Int32) (x3 : Int32) (g : c_G), fX12_give_134 F rec101 a1 a2 x1 x2 x3 g = some g' → ∀ (H : Heap) (locs : List Loc), va_P D vwCl (c_ws tc ad TM g) H → va_S A s.heap H locs → ∀ ls : Array Slot, lv_has ls 5 [(0, .ref (ad 0)), (1, .int x1), (2, .int x2), (3, .int x3)] → W p l e (c_rm (52 + dd + 1)) s m ([.ref (ad 0), .int a1, .int a2] : List Value).toArray below meth c H locs 0 0 (MQ below (va_Qv (fun (_ : Unit) => True) (fun _ t => va_P D vwCl (c_ws tc ad TM g') t.heap) A) ([.ref (ad 0), .int a1, .int a2] : List Value).toArray s 0 0 A) (F0 m 134 ls []) := by
  obtain ⟨hx, hb, hr, hml, hts, hown, hlk, hK, hE⟩ := id C
  intro x1 x2 x3 g hf H locs hP hS ls hl
  unfold fX12_give_134 at hf
  obtain ⟨v134001, ev134001, hf⟩ := c_letE hf
  refine lv_iinc (v := v134001) (lv' := [(3, .int v134001), (0, .ref (ad 0)), (1, .int x1), (2, .int x2)]) hx hb dX12_give_134 hl (k := 3) rfl (by rw [ev134001]; rfl) (by decide) rfl (fun ls hl => ?_)
  refine lv_goto (tgt := 101) hx hb dX12_give_137 (by decide) ?_
  exact hrec101 x1 x2 v134001 g hf _ _ hP hS _ (lv_sub hl [1, 2, 3, 0] rfl)
def fX12_give_101 (F : Nat → c_G → Int32 → Int32 → Option (c_G))  (a1 : Int32) (a2 : Int32) : Nat → Int32 → Int32 → Int32 → c_G → Option (c_G)
  | 0, _, _, _, _ => none
  | n + 1, x1, x2, x3, g => if (6 : Int32) ≤ x3 then (some g) else (if ((x2 >>> (x3 &&& 31)) &&& (1 : Int32)) = 0 then (if c_in (x1) (6) = true then c_let (c_si g 13 (x1).toNatClampNeg x3) fun g101004 => (F 0 g101004 ((x1 + (1 : Int32))) ((x2 ||| ((1 : Int32) <<< (x3 &&& 31))))).bind fun g101006 => fX12_give_134 F (fX12_give_101 F a1 a2 n) a1 a2 x1 x2 x3 g101006 else none) else (fX12_give_134 F (fX12_give_101 F a1 a2 n) a1 a2 x1 x2 x3 g))
set_option maxRecDepth 100000 in
set_option maxHeartbeats 4000000 in
theorem jX12_give_101 {p : Program} {l : Launch} {e : Env} {s : State} {m : MethodId} {below : List Frame} {meth : Method} {c : Code} {D : va_G} {tc : Nat → ClassId} {ad : Nat → Nat} {A : Nat → Prop} {E : (Nat → Nat) × (Nat → Nat) × Nat} {F : Nat → c_G → Int32 → Int32 → Option (c_G)} {dd : Nat} {a1 : Int32} {a2 : Int32} {g' : c_G} (C : c_C p s m meth c D tc A E RX12 wsX12_give cX12_give 5 none ([.ref (ad 0), .int a1, .int a2] : List Value).toArray) (hD : c_D A ad TM) (hF0 : ∀ {g g' : c_G} {a1 : Int32} {a2 : Int32}, F 0 g a1 a2 = some g' → c_Mv l yX12_give wsX12_give (c_rm (52 + dd)) D tc ad A E TM [.ref (ad 0), .int a1, .int a2] g g')  : ∀ (n : Nat) (x1 : Int32) (x2 : Int32) (x3 : Int32) (g : c_G), fX12_give_101 F a1 a2 n x1 x2 x3 g = some g' → ∀ (H : Heap) (locs : List Loc), va_P D vwCl (c_ws tc ad TM g) H → va_S A s.heap H locs → ∀ ls : Array Slot, lv_has ls 5 [(0, .ref (ad 0)), (1, .int x1), (2, .int x2), (3, .int x3)] → W p l e (c_rm (52 + dd + 1)) s m ([.ref (ad 0), .int a1, .int a2] : List Value).toArray below meth c H locs 0 0 (MQ below (va_Qv (fun (_ : Unit) => True) (fun _ t => va_P D vwCl (c_ws tc ad TM g') t.heap) A) ([.ref (ad 0), .int a1, .int a2] : List Value).toArray s 0 0 A) (F0 m 101 ls []) := by
  obtain ⟨hx, hb, hr, hml, hts, hown, hlk, hK, hE⟩ := id C
  intro n
  induction n with
  | zero =>
    intro x1 x2 x3 g hf
    cases hf
  | succ n ih =>
    intro x1 x2 x3 g hf H locs hP hS ls hl
    unfold fX12_give_101 at hf
    refine lv_iload_n hx hb dX12_give_101 rfl (lv_at hl 3 rfl) ?_
    refine lv_bipush (v := (6 : Int32)) hx hb dX12_give_102 (by decide) ?_
    refine lv_icmp_ge (tgt := 140) hx hb dX12_give_104 (by decide) (fun c101001 => ?_) (fun c101001 => ?_)
    · have hf := c_it c101001 hf
      exact c_vret hx hb hr hlk hP hS (Option.some.inj hf) dX12_give_140
    · have hf := c_ie c101001 hf
      refine lv_iload_n hx hb dX12_give_107 rfl (lv_at hl 2 rfl) ?_
      refine lv_iload_n hx hb dX12_give_108 rfl (lv_at hl 3 rfl) ?_
      refine lv_ishr hx hb dX12_give_109 ?_
      refine lv_iconst (v := (1 : Int32)) hx hb dX12_give_110 (by decide) ?_
      refine lv_iand hx hb dX12_give_111 ?_
      refine lv_if_ne (tgt := 134) hx hb dX12_give_112 (by decide) (fun c101002 => ?_) (fun c101002 => ?_)
      · have hf := c_ie c101002 hf
        exact jX12_give_134 C hD hF0 ih x1 x2 x3 g hf _ _ hP hS _ (lv_sub hl [0, 1, 2, 3] rfl)
      · have hf := c_it c101002 hf
        refine lv_aload_n hx hb dX12_give_115 rfl (lv_at hl 0 rfl) ?_
        refine c_get hx hb hts i_X12_give_X12 hown hK hP 0 tM0 rfl 21 (by decide) (hts _ (List.mem_of_getElem? (i := 2) rfl)) (fun _ h9 => h9) rfl (v := .ref (ad 13)) rfl dX12_give_116 ?_
        refine lv_iload_n hx hb dX12_give_119 rfl (lv_at hl 1 rfl) ?_
        refine lv_iload_n hx hb dX12_give_120 rfl (lv_at hl 3 rfl) ?_
        obtain ⟨hi101003, hf⟩ := c_gd hf
        obtain ⟨g101004, eg101004, hf⟩ := c_letE hf
        refine c_iast (j := (x1).toNatClampNeg) hx hb hK hP hD hS 13 tM13 rfl (c_inV hi101003) eg101004 dX12_give_121 (fun H locs hP hS => ?_)
        refine lv_aload_n hx hb dX12_give_122 rfl (lv_at hl 0 rfl) ?_
        refine lv_iload_n hx hb dX12_give_123 rfl (lv_at hl 1 rfl) ?_
        refine lv_iconst (v := (1 : Int32)) hx hb dX12_give_124 (by decide) ?_
        refine lv_iadd hx hb dX12_give_125 ?_
        refine lv_iload_n hx hb dX12_give_126 rfl (lv_at hl 2 rfl) ?_
        refine lv_iconst (v := (1 : Int32)) hx hb dX12_give_127 (by decide) ?_
        refine lv_iload_n hx hb dX12_give_128 rfl (lv_at hl 3 rfl) ?_
        refine lv_ishl hx hb dX12_give_129 ?_
        refine lv_ior hx hb dX12_give_130 ?_
        obtain ⟨g101006, hc101005, hf⟩ := c_bd hf
        refine c_gov (va_runV (As := [.int (x1 + (1 : Int32)), .int (x2 ||| ((1 : Int32) <<< (x3 &&& 31)))]) (rest := []) ⟨hx, hb, hml, hown, hts⟩ (hF0 hc101005) (cwV 2 hts gX12_give_X12_give rfl rfl rfl (by decide +kernel) ⟨by simp only [c_rm]; omega, by simp only [c_rm]; omega⟩) (c_preV hK hP hE hS tM0 rfl) rfl rfl hl.1 rfl (lv_room (Nat.le_of_ble_eq_true rfl)) dX12_give_131 ⟨Nat.zero_le _, Nat.zero_le _⟩) hS (fun H locs hP hS => ?_)
        exact jX12_give_134 C hD hF0 ih x1 x2 x3 g101006 hf _ _ hP hS _ (lv_sub hl [0, 1, 2, 3] rfl)
def fX12_give_72 (F : Nat → c_G → Int32 → Int32 → Option (c_G))  (a1 : Int32) (a2 : Int32) : Nat → Int32 → Int32 → c_G → Option (c_G)
  | 0, _, _, _ => none
  | n + 1, x1, x4, g => if x1 ≤ x4 then (some g) else (if c_in (x4) (6) = true then c_let (c_si g 14 (x4).toNatClampNeg (g.1 13 (x4).toNatClampNeg)) fun g72003 => c_let (x4 + (1 : Int32)) fun v72004 => (fX12_give_72 F a1 a2 n) x1 v72004 g72003 else none)
set_option maxRecDepth 100000 in
set_option maxHeartbeats 4000000 in
theorem jX12_give_72 {p : Program} {l : Launch} {e : Env} {s : State} {m : MethodId} {below : List Frame} {meth : Method} {c : Code} {D : va_G} {tc : Nat → ClassId} {ad : Nat → Nat} {A : Nat → Prop} {E : (Nat → Nat) × (Nat → Nat) × Nat} {F : Nat → c_G → Int32 → Int32 → Option (c_G)} {dd : Nat} {a1 : Int32} {a2 : Int32} {g' : c_G} (C : c_C p s m meth c D tc A E RX12 wsX12_give cX12_give 5 none ([.ref (ad 0), .int a1, .int a2] : List Value).toArray) (hD : c_D A ad TM) (hF0 : ∀ {g g' : c_G} {a1 : Int32} {a2 : Int32}, F 0 g a1 a2 = some g' → c_Mv l yX12_give wsX12_give (c_rm (52 + dd)) D tc ad A E TM [.ref (ad 0), .int a1, .int a2] g g')  : ∀ (n : Nat) (x1 : Int32) (x4 : Int32) (g : c_G), fX12_give_72 F a1 a2 n x1 x4 g = some g' → ∀ (H : Heap) (locs : List Loc), va_P D vwCl (c_ws tc ad TM g) H → va_S A s.heap H locs → ∀ ls : Array Slot, lv_has ls 5 [(0, .ref (ad 0)), (1, .int x1), (4, .int x4)] → W p l e (c_rm (52 + dd + 1)) s m ([.ref (ad 0), .int a1, .int a2] : List Value).toArray below meth c H locs 0 0 (MQ below (va_Qv (fun (_ : Unit) => True) (fun _ t => va_P D vwCl (c_ws tc ad TM g') t.heap) A) ([.ref (ad 0), .int a1, .int a2] : List Value).toArray s 0 0 A) (F0 m 72 ls []) := by
  obtain ⟨hx, hb, hr, hml, hts, hown, hlk, hK, hE⟩ := id C
  intro n
  induction n with
  | zero =>
    intro x1 x4 g hf
    cases hf
  | succ n ih =>
    intro x1 x4 g hf H locs hP hS ls hl
    unfold fX12_give_72 at hf
    refine lv_iload hx hb dX12_give_72 (lv_at hl 2 rfl) ?_
    refine lv_iload_n hx hb dX12_give_74 rfl (lv_at hl 1 rfl) ?_
    refine lv_icmp_ge (tgt := 98) hx hb dX12_give_75 (by decide) (fun c72001 => ?_) (fun c72001 => ?_)
    · have hf := c_it c72001 hf
      exact c_vret hx hb hr hlk hP hS (Option.some.inj hf) dX12_give_98
    · have hf := c_ie c72001 hf
      refine lv_aload_n hx hb dX12_give_78 rfl (lv_at hl 0 rfl) ?_
      refine c_get hx hb hts i_X12_give_X12 hown hK hP 0 tM0 rfl 22 (by decide) (hts _ (List.mem_of_getElem? (i := 4) rfl)) (fun _ h9 => h9) rfl (v := .ref (ad 14)) rfl dX12_give_79 ?_
      refine lv_iload hx hb dX12_give_82 (lv_at hl 2 rfl) ?_
      refine lv_aload_n hx hb dX12_give_84 rfl (lv_at hl 0 rfl) ?_
      refine c_get hx hb hts i_X12_give_X12 hown hK hP 0 tM0 rfl 21 (by decide) (hts _ (List.mem_of_getElem? (i := 2) rfl)) (fun _ h9 => h9) rfl (v := .ref (ad 13)) rfl dX12_give_85 ?_
      refine lv_iload hx hb dX12_give_88 (lv_at hl 2 rfl) ?_
      obtain ⟨hi72002, hf⟩ := c_gd hf
      refine c_iald (j := (x4).toNatClampNeg) hx hb hK hP 13 tM13 rfl (c_inV hi72002) dX12_give_90 ?_
      obtain ⟨g72003, eg72003, hf⟩ := c_letE hf
      refine c_iast (j := (x4).toNatClampNeg) hx hb hK hP hD hS 14 tM14 rfl (c_inV hi72002) eg72003 dX12_give_91 (fun H locs hP hS => ?_)
      obtain ⟨v72004, ev72004, hf⟩ := c_letE hf
      refine lv_iinc (v := v72004) (lv' := [(4, .int v72004), (0, .ref (ad 0)), (1, .int x1)]) hx hb dX12_give_92 hl (k := 2) rfl (by rw [ev72004]; rfl) (by decide) rfl (fun ls hl => ?_)
      refine lv_goto (tgt := 72) hx hb dX12_give_95 (by decide) ?_
      exact ih x1 v72004 g72003 hf _ _ hP hS _ (lv_sub hl [1, 2, 0] rfl)
def fX12_give_18 (F : Nat → c_G → Int32 → Int32 → Option (c_G))  (a1 : Int32) (a2 : Int32) : Nat → Int32 → Int32 → c_G → Option (c_G)
  | 0, _, _, _ => none
  | n + 1, x1, x3, g => if x1 ≤ x3 then ((fX12_sunday g).bind fun g18003 => (fX12_howMany g18003).bind fun r18004 => (fX12_lay g18003 ((0 : Int32))).bind fun g18007 => if r18004 ≤ (g18007.1 0 23) then (some g18007) else (c_let (c_si g18007 0 23 r18004) fun g18009 => fX12_give_72 F a1 a2 c_F x1 ((0 : Int32)) g18009)) else (if c_in (x3) (6) = true then c_b2 (fX12_change g x3 ((4 : Int32)) ((g.1 13 (x3).toNatClampNeg))) fun g18012 r18013 => c_let (x3 + (1 : Int32)) fun v18014 => (fX12_give_18 F a1 a2 n) x1 v18014 g18012 else none)
set_option maxRecDepth 100000 in
set_option maxHeartbeats 4000000 in
theorem jX12_give_18 {p : Program} {l : Launch} {e : Env} {s : State} {m : MethodId} {below : List Frame} {meth : Method} {c : Code} {D : va_G} {tc : Nat → ClassId} {ad : Nat → Nat} {A : Nat → Prop} {E : (Nat → Nat) × (Nat → Nat) × Nat} {F : Nat → c_G → Int32 → Int32 → Option (c_G)} {dd : Nat} {a1 : Int32} {a2 : Int32} {g' : c_G} (C : c_C p s m meth c D tc A E RX12 wsX12_give cX12_give 5 none ([.ref (ad 0), .int a1, .int a2] : List Value).toArray) (hD : c_D A ad TM) (hF0 : ∀ {g g' : c_G} {a1 : Int32} {a2 : Int32}, F 0 g a1 a2 = some g' → c_Mv l yX12_give wsX12_give (c_rm (52 + dd)) D tc ad A E TM [.ref (ad 0), .int a1, .int a2] g g')  : ∀ (n : Nat) (x1 : Int32) (x3 : Int32) (g : c_G), fX12_give_18 F a1 a2 n x1 x3 g = some g' → ∀ (H : Heap) (locs : List Loc), va_P D vwCl (c_ws tc ad TM g) H → va_S A s.heap H locs → ∀ ls : Array Slot, lv_has ls 5 [(0, .ref (ad 0)), (1, .int x1), (3, .int x3)] → W p l e (c_rm (52 + dd + 1)) s m ([.ref (ad 0), .int a1, .int a2] : List Value).toArray below meth c H locs 0 0 (MQ below (va_Qv (fun (_ : Unit) => True) (fun _ t => va_P D vwCl (c_ws tc ad TM g') t.heap) A) ([.ref (ad 0), .int a1, .int a2] : List Value).toArray s 0 0 A) (F0 m 18 ls []) := by
  obtain ⟨hx, hb, hr, hml, hts, hown, hlk, hK, hE⟩ := id C
  intro n
  induction n with
  | zero =>
    intro x1 x3 g hf
    cases hf
  | succ n ih =>
    intro x1 x3 g hf H locs hP hS ls hl
    unfold fX12_give_18 at hf
    refine lv_iload_n hx hb dX12_give_18 rfl (lv_at hl 2 rfl) ?_
    refine lv_iload_n hx hb dX12_give_19 rfl (lv_at hl 1 rfl) ?_
    refine lv_icmp_ge (tgt := 42) hx hb dX12_give_20 (by decide) (fun c18001 => ?_) (fun c18001 => ?_)
    · have hf := c_it c18001 hf
      refine lv_aload_n hx hb dX12_give_42 rfl (lv_at hl 0 rfl) ?_
      obtain ⟨g18003, hc18002, hf⟩ := c_bd hf
      refine c_gov (va_runV (As := []) (rest := []) ⟨hx, hb, hml, hown, hts⟩ (kX12_sunday hD hc18002) (cwV 0 hts gX12_give_X12_sunday rfl rfl rfl (by decide +kernel) ⟨by simp only [c_rm]; omega, by simp only [c_rm]; omega⟩) (c_preV hK hP hE hS tM0 rfl) rfl rfl hl.1 rfl (lv_room (Nat.le_of_ble_eq_true rfl)) dX12_give_43 ⟨Nat.zero_le _, Nat.zero_le _⟩) hS (fun H locs hP hS => ?_)
      refine lv_aload_n hx hb dX12_give_46 rfl (lv_at hl 0 rfl) ?_
      obtain ⟨r18004, hc18005, hf⟩ := c_bd hf
      refine c_goi (va_runV (As := []) (rest := []) ⟨hx, hb, hml, hown, hts⟩ (kX12_howMany hD hc18005) (cwV 0 hts gX12_give_X12_howMany rfl rfl rfl (by decide +kernel) ⟨by simp only [c_rm]; omega, by simp only [c_rm]; omega⟩) (c_preV hK hP hE hS tM0 rfl) rfl rfl hl.1 rfl (lv_room (Nat.le_of_ble_eq_true rfl)) dX12_give_47 ⟨Nat.zero_le _, Nat.zero_le _⟩) hS (fun H locs hP hS => ?_)
      refine lv_istore_n (lv' := [(3, .int r18004), (0, .ref (ad 0)), (1, .int x1)]) hx hb dX12_give_50 rfl hl (by decide) rfl (fun ls hl => ?_)
      refine lv_aload_n hx hb dX12_give_51 rfl (lv_at hl 1 rfl) ?_
      refine lv_iconst (v := (0 : Int32)) hx hb dX12_give_52 (by decide) ?_
      obtain ⟨g18007, hc18006, hf⟩ := c_bd hf
      refine c_gov (va_runV (As := [.int (0 : Int32)]) (rest := []) ⟨hx, hb, hml, hown, hts⟩ (kX12_lay hD hc18006) (cwV 1 hts gX12_give_X12_lay rfl rfl rfl (by decide +kernel) ⟨by simp only [c_rm]; omega, by simp only [c_rm]; omega⟩) (c_preV hK hP hE hS tM0 rfl) rfl rfl hl.1 rfl (lv_room (Nat.le_of_ble_eq_true rfl)) dX12_give_53 ⟨Nat.zero_le _, Nat.zero_le _⟩) hS (fun H locs hP hS => ?_)
      refine lv_iload_n hx hb dX12_give_56 rfl (lv_at hl 0 rfl) ?_
      refine lv_aload_n hx hb dX12_give_57 rfl (lv_at hl 1 rfl) ?_
      refine c_get hx hb hts i_X12_give_X12 hown hK hP 0 tM0 rfl 23 (by decide) (hts _ (List.mem_of_getElem? (i := 3) rfl)) (fun _ h9 => h9) rfl (v := .int (g18007.1 0 23)) rfl dX12_give_58 ?_
      refine lv_icmp_le (tgt := 98) hx hb dX12_give_61 (by decide) (fun c18008 => ?_) (fun c18008 => ?_)
      · have hf := c_it c18008 hf
        exact c_vret hx hb hr hlk hP hS (Option.some.inj hf) dX12_give_98
      · have hf := c_ie c18008 hf
        refine lv_aload_n hx hb dX12_give_64 rfl (lv_at hl 1 rfl) ?_
        refine lv_iload_n hx hb dX12_give_65 rfl (lv_at hl 0 rfl) ?_
        obtain ⟨g18009, eg18009, hf⟩ := c_letE hf
        refine c_put hx hb hts i_X12_give_X12 tyX12 tyX12_ok nmX12 hown hK hP hD hS 0 tM0 rfl 23 (by decide) (hts _ (List.mem_of_getElem? (i := 3) rfl)) (fun _ h9 => h9) rfl (ty := .int) (by decide +kernel) rfl rfl rfl eg18009 dX12_give_66 (fun H locs hP hS => ?_)
        refine lv_iconst (v := (0 : Int32)) hx hb dX12_give_69 (by decide) ?_
        refine lv_istore (lv' := [(4, .int (0 : Int32)), (3, .int r18004), (0, .ref (ad 0)), (1, .int x1)]) hx hb dX12_give_70 hl (by decide) rfl (fun ls hl => ?_)
        exact jX12_give_72 C hD hF0 c_F x1 ((0 : Int32)) g18009 hf _ _ hP hS _ (lv_sub hl [2, 3, 0] rfl)
    · have hf := c_ie c18001 hf
      refine lv_aload_n hx hb dX12_give_23 rfl (lv_at hl 0 rfl) ?_
      refine lv_iload_n hx hb dX12_give_24 rfl (lv_at hl 2 rfl) ?_
      refine lv_iconst (v := (4 : Int32)) hx hb dX12_give_25 (by decide) ?_
      refine lv_aload_n hx hb dX12_give_26 rfl (lv_at hl 0 rfl) ?_
      refine c_get hx hb hts i_X12_give_X12 hown hK hP 0 tM0 rfl 21 (by decide) (hts _ (List.mem_of_getElem? (i := 2) rfl)) (fun _ h9 => h9) rfl (v := .ref (ad 13)) rfl dX12_give_27 ?_
      refine lv_iload_n hx hb dX12_give_30 rfl (lv_at hl 2 rfl) ?_
      obtain ⟨hi18010, hf⟩ := c_gd hf
      refine c_iald (j := (x3).toNatClampNeg) hx hb hK hP 13 tM13 rfl (c_inV hi18010) dX12_give_31 ?_
      obtain ⟨g18012, r18013, hc18011, hf⟩ := c_b2E hf
      refine c_goi (va_runV (As := [.int x3, .int (4 : Int32), .int (g.1 13 (x3).toNatClampNeg)]) (rest := []) ⟨hx, hb, hml, hown, hts⟩ (kX12_change hD hc18011) (cwV 3 hts gX12_give_X12_change rfl rfl rfl (by decide +kernel) ⟨by simp only [c_rm]; omega, by simp only [c_rm]; omega⟩) (c_preV hK hP hE hS tM0 rfl) rfl rfl hl.1 rfl (lv_room (Nat.le_of_ble_eq_true rfl)) dX12_give_32 ⟨Nat.zero_le _, Nat.zero_le _⟩) hS (fun H locs hP hS => ?_)
      refine lv_pop hx hb dX12_give_35 rfl ?_
      obtain ⟨v18014, ev18014, hf⟩ := c_letE hf
      refine lv_iinc (v := v18014) (lv' := [(3, .int v18014), (0, .ref (ad 0)), (1, .int x1)]) hx hb dX12_give_36 hl (k := 2) rfl (by rw [ev18014]; rfl) (by decide) rfl (fun ls hl => ?_)
      refine lv_goto (tgt := 18) hx hb dX12_give_39 (by decide) ?_
      exact ih x1 v18014 g18012 hf _ _ hP hS _ (lv_sub hl [1, 2, 0] rfl)
def fX12_give (F : Nat → c_G → Int32 → Int32 → Option (c_G)) (g : c_G) (a1 : Int32) (a2 : Int32) : Option (c_G) :=
  if a1 = (g.1 1 78) then ((fX12_keep g ((0 : Int32))).bind fun g3 => fX12_give_18 F a1 a2 c_F a1 ((0 : Int32)) g3) else (fX12_give_101 F a1 a2 c_F a1 a2 ((0 : Int32)) g)
set_option maxRecDepth 100000 in
set_option maxHeartbeats 4000000 in
theorem kX12_give {l : Launch} {D : va_G} {tc : Nat → ClassId} {ad : Nat → Nat} {A : Nat → Prop} {E : (Nat → Nat) × (Nat → Nat) × Nat} {F : Nat → c_G → Int32 → Int32 → Option (c_G)} {dd : Nat} (hF0 : ∀ {g g' : c_G} {a1 : Int32} {a2 : Int32}, F 0 g a1 a2 = some g' → c_Mv l yX12_give wsX12_give (c_rm (52 + dd)) D tc ad A E TM [.ref (ad 0), .int a1, .int a2] g g') (hD : c_D A ad TM) {a1 : Int32} {a2 : Int32} {g g' : c_G} (hf : fX12_give F g a1 a2 = some g') : c_Mv l yX12_give wsX12_give (c_rm (52 + dd + 1)) D tc ad A E TM ([.ref (ad 0), .int a1, .int a2] : List Value) g g' := by
  refine c_ofW (bytes := cX12_give) (maxL := 5) (ret := none) (by decide) rfl (Nat.le_of_ble_eq_true rfl) ?_
  intro p e s m below meth c ls C hP hS hl
  unfold fX12_give at hf
  obtain ⟨hx, hb, hr, hml, hts, hown, hlk, hK, hE⟩ := id C
  have hl : lv_has ls 5 [(0, .ref (ad 0)), (1, .int a1), (2, .int a2)] := hl
  refine lv_iload_n hx hb dX12_give_0 rfl (lv_at hl 1 rfl) ?_
  refine lv_aload_n hx hb dX12_give_1 rfl (lv_at hl 0 rfl) ?_
  refine c_get hx hb hts i_X12_give_X12 hown hK hP 0 tM0 rfl 0 (by decide) (hts _ (List.mem_of_getElem? (i := 1) rfl)) (fun _ h9 => h9) rfl (v := .ref (ad 1)) rfl dX12_give_2 ?_
  refine lv_bipush (v := (78 : Int32)) hx hb dX12_give_5 (by decide) ?_
  refine c_iald (j := 78) hx hb hK hP 1 tM1 (by decide) (c_inV (by decide)) dX12_give_7 ?_
  refine lv_icmp_ne (tgt := 99) hx hb dX12_give_8 (by decide) (fun c1 => ?_) (fun c1 => ?_)
  · have hf := c_ie c1 hf
    refine lv_iconst (v := (0 : Int32)) hx hb dX12_give_99 (by decide) ?_
    refine lv_istore_n (lv' := [(3, .int (0 : Int32)), (0, .ref (ad 0)), (1, .int a1), (2, .int a2)]) hx hb dX12_give_100 rfl hl (by decide) rfl (fun ls hl => ?_)
    exact jX12_give_101 C hD hF0 c_F a1 a2 ((0 : Int32)) g hf _ _ hP hS _ (lv_sub hl [1, 2, 3, 0] rfl)
  · have hf := c_it c1 hf
    refine lv_aload_n hx hb dX12_give_11 rfl (lv_at hl 0 rfl) ?_
    refine lv_iconst (v := (0 : Int32)) hx hb dX12_give_12 (by decide) ?_
    obtain ⟨g3, hc2, hf⟩ := c_bd hf
    refine c_gov (va_runV (As := [.int (0 : Int32)]) (rest := []) ⟨hx, hb, hml, hown, hts⟩ (kX12_keep hD hc2) (cwV 1 hts gX12_give_X12_keep rfl rfl rfl (by decide +kernel) ⟨by simp only [c_rm]; omega, by simp only [c_rm]; omega⟩) (c_preV hK hP hE hS tM0 rfl) rfl rfl hl.1 rfl (lv_room (Nat.le_of_ble_eq_true rfl)) dX12_give_13 ⟨Nat.zero_le _, Nat.zero_le _⟩) hS (fun H locs hP hS => ?_)
    refine lv_iconst (v := (0 : Int32)) hx hb dX12_give_16 (by decide) ?_
    refine lv_istore_n (lv' := [(3, .int (0 : Int32)), (0, .ref (ad 0)), (1, .int a1), (2, .int a2)]) hx hb dX12_give_17 rfl hl (by decide) rfl (fun ls hl => ?_)
    exact jX12_give_18 C hD hF0 c_F a1 ((0 : Int32)) g3 hf _ _ hP hS _ (lv_sub hl [1, 2, 0] rfl)
def fG4 : Nat → Nat → c_G → Int32 → Int32 → Option (c_G)
  | 0, _, _, _, _ => none
  | n + 1, t, g, a1, a2 => if t = 0 then fX12_give (fG4 n) g a1 a2 else none
set_option maxRecDepth 100000 in
set_option maxHeartbeats 4000000 in
theorem kG4_all {l : Launch} {D : va_G} {tc : Nat → ClassId} {ad : Nat → Nat} {A : Nat → Prop} {E : (Nat → Nat) × (Nat → Nat) × Nat} (hD : c_D A ad TM) : ∀ n : Nat, (∀ {g g' : c_G} {a1 : Int32} {a2 : Int32}, fG4 n 0 g a1 a2 = some g' → c_Mv l yX12_give wsX12_give (c_rm (52 + n)) D tc ad A E TM [.ref (ad 0), .int a1, .int a2] g g') := by
  intro n
  induction n with
  | zero =>
    exact @fun _ _ _ _ hf => (by cases hf)
  | succ n ih =>
    exact @fun _ _ _ _ hf => kX12_give (ih) hD (by have h9 := hf; unfold fG4 at h9; exact c_it rfl h9)
theorem kG4_0 {l : Launch} {D : va_G} {tc : Nat → ClassId} {ad : Nat → Nat} {A : Nat → Prop} {E : (Nat → Nat) × (Nat → Nat) × Nat} (hD : c_D A ad TM) : ∀ {g g' : c_G} {a1 : Int32} {a2 : Int32}, fG4 40 0 g a1 a2 = some g' → c_Mv l yX12_give wsX12_give (c_rm (52 + 40)) D tc ad A E TM [.ref (ad 0), .int a1, .int a2] g g' := (kG4_all hD 40)
theorem i_X12_round_X12 : ∀ w ∈ u_ws RX12 TX12 32, w ∈ wsX12_round := c_inP [129, 130, 131, 132, 133, 134, 135, 136, 137, 138, 139, 140, 141, 142, 143, 144, 145, 146, 147, 148, 149, 150, 151, 152, 153, 154, 155, 156, 157, 158, 159, 160] (by decide +kernel)
theorem dX12_round_0 : decode cX12_round 0 = .ok (.aload_n 0, 1) := by decide +kernel
theorem dX12_round_1 : decode cX12_round 1 = .ok (.iconst (-1), 1) := by decide +kernel
theorem dX12_round_2 : decode cX12_round 2 = .ok (.putfield 226, 3) := by decide +kernel
theorem dX12_round_5 : decode cX12_round 5 = .ok (.aload_n 0, 1) := by decide +kernel
theorem dX12_round_6 : decode cX12_round 6 = .ok (.iconst 0, 1) := by decide +kernel
theorem dX12_round_7 : decode cX12_round 7 = .ok (.iconst 0, 1) := by decide +kernel
theorem dX12_round_8 : decode cX12_round 8 = .ok (.invokevirtual 229, 3) := by decide +kernel
theorem dX12_round_11 : decode cX12_round 11 = .ok (.aload_n 0, 1) := by decide +kernel
theorem dX12_round_12 : decode cX12_round 12 = .ok (.getfield 226, 3) := by decide +kernel
theorem dX12_round_15 : decode cX12_round 15 = .ok (.ireturn, 1) := by decide +kernel
set_option maxRecDepth 20000 in
theorem ggX12_round_X12_give : GoodIn wsX12_round wsX12_give := goodIn_r _ [6, 7, 8, 1, 9, 10, 11, 12, 5, 13, 14, 15, 16, 17, 18, 19, 20, 21, 22, 23, 24, 25, 26, 27, 28, 29, 30, 31, 32, 33, 34, 35, 36, 37, 38, 39, 40, 41, 42, 43, 44, 45, 46, 47, 48, 49, 50, 51, 52, 53, 54, 55, 56, 57, 58, 59, 60, 61, 62, 63, 64, 65, 66, 67, 68, 69, 70, 71, 72, 73, 74, 75, 76, 77, 78, 79, 80, 81, 82, 83, 84, 85, 86, 87, 88, 89, 90, 91, 92, 93, 94, 95, 96, 97, 98, 99, 100, 101, 102, 103, 104, 105, 106, 107, 108, 109, 110, 111, 112, 113, 114, 115, 116, 117, 118, 119, 120, 121, 122, 123, 124, 125, 126, 127, 128, 2, 3, 4, 129, 130, 131, 132, 133, 134, 135, 136, 137, 138, 139, 140, 141, 142, 143, 144, 145, 146, 147, 148, 149, 150, 151, 152, 153, 154, 155, 156, 157, 158, 159, 160] (by decide +kernel) (by decide +kernel)
set_option maxRecDepth 20000 in
theorem gX12_round_X12_give : GoodIn wsX12_round (wsV RX12 229 RX12 yX12_give wsX12_give) := goodIn_app (goodIn_of _ (by decide +kernel)) ggX12_round_X12_give
def fX12_round (g : c_G)  : Option (c_G × Int32) :=
  c_let (c_si g 0 23 (-1 : Int32)) fun g1 => (fG4 40 0 g1 ((0 : Int32)) ((0 : Int32))).bind fun g3 => some (g3, (g3.1 0 23))
set_option maxRecDepth 100000 in
set_option maxHeartbeats 4000000 in
theorem kX12_round {l : Launch} {D : va_G} {tc : Nat → ClassId} {ad : Nat → Nat} {A : Nat → Prop} {E : (Nat → Nat) × (Nat → Nat) × Nat} (hD : c_D A ad TM)  {g g' : c_G} {r : Int32} (hf : fX12_round g  = some (g', r)) : c_Mi l yX12_round wsX12_round (c_rm 93) D tc ad A E TM ([.ref (ad 0)] : List Value) g g' r := by
  refine c_ofW (bytes := cX12_round) (maxL := 1) (ret := (some .int)) (by decide) rfl (Nat.le_of_ble_eq_true rfl) ?_
  intro p e s m below meth c ls C hP hS hl
  unfold fX12_round at hf
  obtain ⟨hx, hb, hr, hml, hts, hown, hlk, hK, hE⟩ := id C
  have hl : lv_has ls 1 [(0, .ref (ad 0))] := hl
  refine lv_aload_n hx hb dX12_round_0 rfl (lv_at hl 0 rfl) ?_
  refine lv_iconst (v := (-1 : Int32)) hx hb dX12_round_1 (by decide) ?_
  obtain ⟨g1, eg1, hf⟩ := c_letE hf
  refine c_put hx hb hts i_X12_round_X12 tyX12 tyX12_ok nmX12 hown hK hP hD hS 0 tM0 rfl 23 (by decide) (hts _ (List.mem_of_getElem? (i := 1) rfl)) (fun _ h9 => h9) rfl (ty := .int) (by decide +kernel) rfl rfl rfl eg1 dX12_round_2 (fun H locs hP hS => ?_)
  refine lv_aload_n hx hb dX12_round_5 rfl (lv_at hl 0 rfl) ?_
  refine lv_iconst (v := (0 : Int32)) hx hb dX12_round_6 (by decide) ?_
  refine lv_iconst (v := (0 : Int32)) hx hb dX12_round_7 (by decide) ?_
  obtain ⟨g3, hc2, hf⟩ := c_bd hf
  refine c_gov (va_runV (As := [.int (0 : Int32), .int (0 : Int32)]) (rest := []) ⟨hx, hb, hml, hown, hts⟩ (kG4_0 hD hc2) (cwV 2 hts gX12_round_X12_give rfl rfl rfl (by decide +kernel) ⟨Nat.le_of_ble_eq_true rfl, Nat.le_of_ble_eq_true rfl⟩) (c_preV hK hP hE hS tM0 rfl) rfl rfl hl.1 rfl (lv_room (Nat.le_of_ble_eq_true rfl)) dX12_round_8 ⟨Nat.zero_le _, Nat.zero_le _⟩) hS (fun H locs hP hS => ?_)
  refine lv_aload_n hx hb dX12_round_11 rfl (lv_at hl 0 rfl) ?_
  refine c_get hx hb hts i_X12_round_X12 hown hK hP 0 tM0 rfl 23 (by decide) (hts _ (List.mem_of_getElem? (i := 1) rfl)) (fun _ h9 => h9) rfl (v := .int (g3.1 0 23)) rfl dX12_round_12 ?_
  exact c_iret hx hb hr hlk hP hS rfl (c_inj hf) dX12_round_15
theorem i_X12_told_X12 : ∀ w ∈ u_ws RX12 TX12 32, w ∈ wsX12_told := c_inP [140, 141, 142, 143, 144, 145, 146, 147, 148, 149, 150, 151, 152, 153, 154, 155, 156, 157, 158, 159, 160, 161, 162, 163, 164, 165, 166, 167, 168, 169, 170, 171] (by decide +kernel)
theorem dX12_told_0 : decode cX12_told 0 = .ok (.iload_n 1, 1) := by decide +kernel
theorem dX12_told_1 : decode cX12_told 1 = .ok (.tableswitch 75 0 5 #[39, 47, 52, 60, 65, 70], 39) := by decide +kernel
theorem dX12_told_40 : decode cX12_told 40 = .ok (.aload_n 0, 1) := by decide +kernel
theorem dX12_told_41 : decode cX12_told 41 = .ok (.getfield 15, 3) := by decide +kernel
theorem dX12_told_44 : decode cX12_told 44 = .ok (.bipush 80, 2) := by decide +kernel
theorem dX12_told_46 : decode cX12_told 46 = .ok (.iaload, 1) := by decide +kernel
theorem dX12_told_47 : decode cX12_told 47 = .ok (.ireturn, 1) := by decide +kernel
theorem dX12_told_48 : decode cX12_told 48 = .ok (.aload_n 0, 1) := by decide +kernel
theorem dX12_told_49 : decode cX12_told 49 = .ok (.invokevirtual 211, 3) := by decide +kernel
theorem dX12_told_52 : decode cX12_told 52 = .ok (.ireturn, 1) := by decide +kernel
theorem dX12_told_53 : decode cX12_told 53 = .ok (.aload_n 0, 1) := by decide +kernel
theorem dX12_told_54 : decode cX12_told 54 = .ok (.getfield 15, 3) := by decide +kernel
theorem dX12_told_57 : decode cX12_told 57 = .ok (.bipush 79, 2) := by decide +kernel
theorem dX12_told_59 : decode cX12_told 59 = .ok (.iaload, 1) := by decide +kernel
theorem dX12_told_60 : decode cX12_told 60 = .ok (.ireturn, 1) := by decide +kernel
theorem dX12_told_61 : decode cX12_told 61 = .ok (.aload_n 0, 1) := by decide +kernel
theorem dX12_told_62 : decode cX12_told 62 = .ok (.invokevirtual 205, 3) := by decide +kernel
theorem dX12_told_65 : decode cX12_told 65 = .ok (.ireturn, 1) := by decide +kernel
theorem dX12_told_66 : decode cX12_told 66 = .ok (.aload_n 0, 1) := by decide +kernel
theorem dX12_told_67 : decode cX12_told 67 = .ok (.invokevirtual 223, 3) := by decide +kernel
theorem dX12_told_70 : decode cX12_told 70 = .ok (.ireturn, 1) := by decide +kernel
theorem dX12_told_71 : decode cX12_told 71 = .ok (.aload_n 0, 1) := by decide +kernel
theorem dX12_told_72 : decode cX12_told 72 = .ok (.invokevirtual 232, 3) := by decide +kernel
theorem dX12_told_75 : decode cX12_told 75 = .ok (.ireturn, 1) := by decide +kernel
theorem dX12_told_76 : decode cX12_told 76 = .ok (.aload_n 0, 1) := by decide +kernel
theorem dX12_told_77 : decode cX12_told 77 = .ok (.iload_n 1, 1) := by decide +kernel
theorem dX12_told_78 : decode cX12_told 78 = .ok (.bipush 10, 2) := by decide +kernel
theorem dX12_told_80 : decode cX12_told 80 = .ok (.isub, 1) := by decide +kernel
theorem dX12_told_81 : decode cX12_told 81 = .ok (.invokevirtual 101, 3) := by decide +kernel
theorem dX12_told_84 : decode cX12_told 84 = .ok (.ifCond .ne 5, 3) := by decide +kernel
theorem dX12_told_87 : decode cX12_told 87 = .ok (.iconst (-1), 1) := by decide +kernel
theorem dX12_told_88 : decode cX12_told 88 = .ok (.ireturn, 1) := by decide +kernel
theorem dX12_told_89 : decode cX12_told 89 = .ok (.aload_n 0, 1) := by decide +kernel
theorem dX12_told_90 : decode cX12_told 90 = .ok (.invokevirtual 232, 3) := by decide +kernel
theorem dX12_told_93 : decode cX12_told 93 = .ok (.pop, 1) := by decide +kernel
theorem dX12_told_94 : decode cX12_told 94 = .ok (.aload_n 0, 1) := by decide +kernel
theorem dX12_told_95 : decode cX12_told 95 = .ok (.getfield 56, 3) := by decide +kernel
theorem dX12_told_98 : decode cX12_told 98 = .ok (.iload_n 1, 1) := by decide +kernel
theorem dX12_told_99 : decode cX12_told 99 = .ok (.bipush 10, 2) := by decide +kernel
theorem dX12_told_101 : decode cX12_told 101 = .ok (.isub, 1) := by decide +kernel
theorem dX12_told_102 : decode cX12_told 102 = .ok (.iaload, 1) := by decide +kernel
theorem dX12_told_103 : decode cX12_told 103 = .ok (.ireturn, 1) := by decide +kernel
set_option maxRecDepth 20000 in
theorem ggX12_told_X12_learnNow : GoodIn wsX12_told wsX12_learnNow := goodIn_r _ [7, 8, 9, 10, 11, 6, 12, 13, 1, 14, 15, 16, 17, 18, 19, 20, 21, 22, 23, 24, 25, 26, 27, 28, 29, 30, 31, 32, 33, 34, 35, 36, 37, 38, 39, 40, 41, 42, 43, 44, 45, 46, 47, 48, 49, 50, 51, 52, 53, 54, 55, 56, 57, 58, 59, 60, 61, 62, 63, 64, 65, 66, 67, 68, 69, 70, 71, 72, 140, 141, 142, 143, 144, 145, 146, 147, 148, 149, 150, 151, 152, 153, 154, 155, 156, 157, 158, 159, 160, 161, 162, 163, 164, 165, 166, 167, 168, 169, 170, 171] (by decide +kernel) (by decide +kernel)
set_option maxRecDepth 20000 in
theorem gX12_told_X12_learnNow : GoodIn wsX12_told (wsV RX12 211 RX12 yX12_learnNow wsX12_learnNow) := goodIn_app (goodIn_of _ (by decide +kernel)) ggX12_told_X12_learnNow
set_option maxRecDepth 20000 in
theorem ggX12_told_X12_used : GoodIn wsX12_told wsX12_used := goodIn_r _ [76, 1, 23, 24, 25, 6, 26, 140, 141, 142, 143, 144, 145, 146, 147, 148, 149, 150, 151, 152, 153, 154, 155, 156, 157, 158, 159, 160, 161, 162, 163, 164, 165, 166, 167, 168, 169, 170, 171] (by decide +kernel) (by decide +kernel)
set_option maxRecDepth 20000 in
theorem gX12_told_X12_used : GoodIn wsX12_told (wsV RX12 205 RX12 yX12_used wsX12_used) := goodIn_app (goodIn_of _ (by decide +kernel)) ggX12_told_X12_used
set_option maxRecDepth 20000 in
theorem ggX12_told_X12_howMany : GoodIn wsX12_told wsX12_howMany := goodIn_r _ [80, 1, 23, 24, 25, 6, 26, 140, 141, 142, 143, 144, 145, 146, 147, 148, 149, 150, 151, 152, 153, 154, 155, 156, 157, 158, 159, 160, 161, 162, 163, 164, 165, 166, 167, 168, 169, 170, 171] (by decide +kernel) (by decide +kernel)
set_option maxRecDepth 20000 in
theorem gX12_told_X12_howMany : GoodIn wsX12_told (wsV RX12 223 RX12 yX12_howMany wsX12_howMany) := goodIn_app (goodIn_of _ (by decide +kernel)) ggX12_told_X12_howMany
set_option maxRecDepth 20000 in
theorem ggX12_told_X12_round : GoodIn wsX12_told wsX12_round := goodIn_r _ [84, 85, 86, 87, 88, 6, 89, 1, 90, 2, 91, 92, 93, 94, 95, 96, 97, 98, 99, 19, 20, 21, 22, 100, 101, 102, 103, 104, 105, 106, 107, 108, 109, 110, 111, 112, 113, 114, 115, 116, 117, 118, 119, 120, 14, 9, 10, 11, 12, 13, 8, 15, 16, 17, 18, 23, 24, 25, 26, 27, 28, 29, 30, 31, 32, 33, 34, 35, 36, 37, 38, 39, 40, 41, 42, 43, 44, 45, 46, 47, 48, 49, 50, 51, 52, 53, 54, 55, 56, 57, 58, 59, 60, 61, 62, 63, 64, 65, 66, 67, 68, 69, 70, 71, 72, 73, 74, 75, 76, 121, 122, 123, 124, 125, 126, 127, 128, 3, 4, 5, 7, 77, 78, 79, 80, 129, 130, 131, 132, 140, 141, 142, 143, 144, 145, 146, 147, 148, 149, 150, 151, 152, 153, 154, 155, 156, 157, 158, 159, 160, 161, 162, 163, 164, 165, 166, 167, 168, 169, 170, 171] (by decide +kernel) (by decide +kernel)
set_option maxRecDepth 20000 in
theorem gX12_told_X12_round : GoodIn wsX12_told (wsV RX12 232 RX12 yX12_round wsX12_round) := goodIn_app (goodIn_of _ (by decide +kernel)) ggX12_told_X12_round
set_option maxRecDepth 20000 in
theorem ggX12_told_X12_isChild : GoodIn wsX12_told wsX12_isChild := goodIn_r _ [136, 1, 137, 138, 6, 139, 140, 141, 142, 143, 144, 145, 146, 147, 148, 149, 150, 151, 152, 153, 154, 155, 156, 157, 158, 159, 160, 161, 162, 163, 164, 165, 166, 167, 168, 169, 170, 171] (by decide +kernel) (by decide +kernel)
set_option maxRecDepth 20000 in
theorem gX12_told_X12_isChild : GoodIn wsX12_told (wsV RX12 101 RX12 yX12_isChild wsX12_isChild) := goodIn_app (goodIn_of _ (by decide +kernel)) ggX12_told_X12_isChild
def fX12_told (g : c_G) (a1 : Int32) : Option (c_G × Int32) :=
  if a1 = (0 : Int32) then (some (g, (g.1 1 80))) else if a1 = (1 : Int32) then (c_b2 (fX12_learnNow g) fun g4 r5 => some (g4, r5)) else if a1 = (2 : Int32) then (some (g, (g.1 1 79))) else if a1 = (3 : Int32) then ((fX12_used g).bind fun r8 => some (g, r8)) else if a1 = (4 : Int32) then ((fX12_howMany g).bind fun r11 => some (g, r11)) else if a1 = (5 : Int32) then (c_b2 (fX12_round g) fun g15 r16 => some (g15, r16)) else ((fX12_isChild g ((a1 - (10 : Int32)))).bind fun r17 => if r17 = 0 then (some (g, (-1 : Int32))) else (c_b2 (fX12_round g) fun g21 r22 => if c_in ((a1 - (10 : Int32))) (6) = true then some (g21, (g21.1 14 ((a1 - (10 : Int32))).toNatClampNeg)) else none))
set_option maxRecDepth 100000 in
set_option maxHeartbeats 4000000 in
theorem kX12_told {l : Launch} {D : va_G} {tc : Nat → ClassId} {ad : Nat → Nat} {A : Nat → Prop} {E : (Nat → Nat) × (Nat → Nat) × Nat} (hD : c_D A ad TM) {a1 : Int32} {g g' : c_G} {r : Int32} (hf : fX12_told g a1 = some (g', r)) : c_Mi l yX12_told wsX12_told (c_rm 94) D tc ad A E TM ([.ref (ad 0), .int a1] : List Value) g g' r := by
  refine c_ofW (bytes := cX12_told) (maxL := 2) (ret := (some .int)) (by decide) rfl (Nat.le_of_ble_eq_true rfl) ?_
  intro p e s m below meth c ls C hP hS hl
  unfold fX12_told at hf
  obtain ⟨hx, hb, hr, hml, hts, hown, hlk, hK, hE⟩ := id C
  have hl : lv_has ls 2 [(0, .ref (ad 0)), (1, .int a1)] := hl
  refine lv_iload_n hx hb dX12_told_0 rfl (lv_at hl 1 rfl) ?_
  by_cases c1 : a1 = (0 : Int32)
  · have hf := c_it c1 hf
    refine lv_tableIn (off := 39) (tgt := 40) hx hb dX12_told_1 (by rw [c1]; decide) (by rw [c1]; decide) (by rw [c1]; rfl) (by decide) ?_
    refine lv_aload_n hx hb dX12_told_40 rfl (lv_at hl 0 rfl) ?_
    refine c_get hx hb hts i_X12_told_X12 hown hK hP 0 tM0 rfl 0 (by decide) (hts _ (List.mem_of_getElem? (i := 1) rfl)) (fun _ h9 => h9) rfl (v := .ref (ad 1)) rfl dX12_told_41 ?_
    refine lv_bipush (v := (80 : Int32)) hx hb dX12_told_44 (by decide) ?_
    refine c_iald (j := 80) hx hb hK hP 1 tM1 (by decide) (c_inV (by decide)) dX12_told_46 ?_
    exact c_iret hx hb hr hlk hP hS rfl (c_inj hf) dX12_told_47
  have hf := c_ie c1 hf
  by_cases c2 : a1 = (1 : Int32)
  · have hf := c_it c2 hf
    refine lv_tableIn (off := 47) (tgt := 48) hx hb dX12_told_1 (by rw [c2]; decide) (by rw [c2]; decide) (by rw [c2]; rfl) (by decide) ?_
    refine lv_aload_n hx hb dX12_told_48 rfl (lv_at hl 0 rfl) ?_
    obtain ⟨g4, r5, hc3, hf⟩ := c_b2E hf
    refine c_goi (va_runV (As := []) (rest := []) ⟨hx, hb, hml, hown, hts⟩ (kX12_learnNow hD hc3) (cwV 0 hts gX12_told_X12_learnNow rfl rfl rfl (by decide +kernel) ⟨Nat.le_of_ble_eq_true rfl, Nat.le_of_ble_eq_true rfl⟩) (c_preV hK hP hE hS tM0 rfl) rfl rfl hl.1 rfl (lv_room (Nat.le_of_ble_eq_true rfl)) dX12_told_49 ⟨Nat.zero_le _, Nat.zero_le _⟩) hS (fun H locs hP hS => ?_)
    exact c_iret hx hb hr hlk hP hS rfl (c_inj hf) dX12_told_52
  have hf := c_ie c2 hf
  by_cases c6 : a1 = (2 : Int32)
  · have hf := c_it c6 hf
    refine lv_tableIn (off := 52) (tgt := 53) hx hb dX12_told_1 (by rw [c6]; decide) (by rw [c6]; decide) (by rw [c6]; rfl) (by decide) ?_
    refine lv_aload_n hx hb dX12_told_53 rfl (lv_at hl 0 rfl) ?_
    refine c_get hx hb hts i_X12_told_X12 hown hK hP 0 tM0 rfl 0 (by decide) (hts _ (List.mem_of_getElem? (i := 1) rfl)) (fun _ h9 => h9) rfl (v := .ref (ad 1)) rfl dX12_told_54 ?_
    refine lv_bipush (v := (79 : Int32)) hx hb dX12_told_57 (by decide) ?_
    refine c_iald (j := 79) hx hb hK hP 1 tM1 (by decide) (c_inV (by decide)) dX12_told_59 ?_
    exact c_iret hx hb hr hlk hP hS rfl (c_inj hf) dX12_told_60
  have hf := c_ie c6 hf
  by_cases c7 : a1 = (3 : Int32)
  · have hf := c_it c7 hf
    refine lv_tableIn (off := 60) (tgt := 61) hx hb dX12_told_1 (by rw [c7]; decide) (by rw [c7]; decide) (by rw [c7]; rfl) (by decide) ?_
    refine lv_aload_n hx hb dX12_told_61 rfl (lv_at hl 0 rfl) ?_
    obtain ⟨r8, hc9, hf⟩ := c_bd hf
    refine c_goi (va_runV (As := []) (rest := []) ⟨hx, hb, hml, hown, hts⟩ (kX12_used hD hc9) (cwV 0 hts gX12_told_X12_used rfl rfl rfl (by decide +kernel) ⟨Nat.le_of_ble_eq_true rfl, Nat.le_of_ble_eq_true rfl⟩) (c_preV hK hP hE hS tM0 rfl) rfl rfl hl.1 rfl (lv_room (Nat.le_of_ble_eq_true rfl)) dX12_told_62 ⟨Nat.zero_le _, Nat.zero_le _⟩) hS (fun H locs hP hS => ?_)
    exact c_iret hx hb hr hlk hP hS rfl (c_inj hf) dX12_told_65
  have hf := c_ie c7 hf
  by_cases c10 : a1 = (4 : Int32)
  · have hf := c_it c10 hf
    refine lv_tableIn (off := 65) (tgt := 66) hx hb dX12_told_1 (by rw [c10]; decide) (by rw [c10]; decide) (by rw [c10]; rfl) (by decide) ?_
    refine lv_aload_n hx hb dX12_told_66 rfl (lv_at hl 0 rfl) ?_
    obtain ⟨r11, hc12, hf⟩ := c_bd hf
    refine c_goi (va_runV (As := []) (rest := []) ⟨hx, hb, hml, hown, hts⟩ (kX12_howMany hD hc12) (cwV 0 hts gX12_told_X12_howMany rfl rfl rfl (by decide +kernel) ⟨Nat.le_of_ble_eq_true rfl, Nat.le_of_ble_eq_true rfl⟩) (c_preV hK hP hE hS tM0 rfl) rfl rfl hl.1 rfl (lv_room (Nat.le_of_ble_eq_true rfl)) dX12_told_67 ⟨Nat.zero_le _, Nat.zero_le _⟩) hS (fun H locs hP hS => ?_)
    exact c_iret hx hb hr hlk hP hS rfl (c_inj hf) dX12_told_70
  have hf := c_ie c10 hf
  by_cases c13 : a1 = (5 : Int32)
  · have hf := c_it c13 hf
    refine lv_tableIn (off := 70) (tgt := 71) hx hb dX12_told_1 (by rw [c13]; decide) (by rw [c13]; decide) (by rw [c13]; rfl) (by decide) ?_
    refine lv_aload_n hx hb dX12_told_71 rfl (lv_at hl 0 rfl) ?_
    obtain ⟨g15, r16, hc14, hf⟩ := c_b2E hf
    refine c_goi (va_runV (As := []) (rest := []) ⟨hx, hb, hml, hown, hts⟩ (kX12_round hD hc14) (cwV 0 hts gX12_told_X12_round rfl rfl rfl (by decide +kernel) ⟨Nat.le_of_ble_eq_true rfl, Nat.le_of_ble_eq_true rfl⟩) (c_preV hK hP hE hS tM0 rfl) rfl rfl hl.1 rfl (lv_room (Nat.le_of_ble_eq_true rfl)) dX12_told_72 ⟨Nat.zero_le _, Nat.zero_le _⟩) hS (fun H locs hP hS => ?_)
    exact c_iret hx hb hr hlk hP hS rfl (c_inj hf) dX12_told_75
  have hf := c_ie c13 hf
  have h9 := c_sw (x := a1) (lo := 0) (n := 5) (by decide) (fun k hj hk => by rcases (show k = 0 ∨ k = 1 ∨ k = 2 ∨ k = 3 ∨ k = 4 ∨ k = 5 by omega) with rfl | rfl | rfl | rfl | rfl | rfl <;> assumption)
  refine lv_tableOut (tgt := 76) hx hb dX12_told_1 (by omega) (by decide) ?_
  refine lv_aload_n hx hb dX12_told_76 rfl (lv_at hl 0 rfl) ?_
  refine lv_iload_n hx hb dX12_told_77 rfl (lv_at hl 1 rfl) ?_
  refine lv_bipush (v := (10 : Int32)) hx hb dX12_told_78 (by decide) ?_
  refine lv_isub hx hb dX12_told_80 ?_
  obtain ⟨r17, hc18, hf⟩ := c_bd hf
  refine c_goi (va_runV (As := [.int (a1 - (10 : Int32))]) (rest := []) ⟨hx, hb, hml, hown, hts⟩ (kX12_isChild hD hc18) (cwV 1 hts gX12_told_X12_isChild rfl rfl rfl (by decide +kernel) ⟨Nat.le_of_ble_eq_true rfl, Nat.le_of_ble_eq_true rfl⟩) (c_preV hK hP hE hS tM0 rfl) rfl rfl hl.1 rfl (lv_room (Nat.le_of_ble_eq_true rfl)) dX12_told_81 ⟨Nat.zero_le _, Nat.zero_le _⟩) hS (fun H locs hP hS => ?_)
  refine lv_if_ne (tgt := 89) hx hb dX12_told_84 (by decide) (fun c19 => ?_) (fun c19 => ?_)
  · have hf := c_ie c19 hf
    refine lv_aload_n hx hb dX12_told_89 rfl (lv_at hl 0 rfl) ?_
    obtain ⟨g21, r22, hc20, hf⟩ := c_b2E hf
    refine c_goi (va_runV (As := []) (rest := []) ⟨hx, hb, hml, hown, hts⟩ (kX12_round hD hc20) (cwV 0 hts gX12_told_X12_round rfl rfl rfl (by decide +kernel) ⟨Nat.le_of_ble_eq_true rfl, Nat.le_of_ble_eq_true rfl⟩) (c_preV hK hP hE hS tM0 rfl) rfl rfl hl.1 rfl (lv_room (Nat.le_of_ble_eq_true rfl)) dX12_told_90 ⟨Nat.zero_le _, Nat.zero_le _⟩) hS (fun H locs hP hS => ?_)
    refine lv_pop hx hb dX12_told_93 rfl ?_
    refine lv_aload_n hx hb dX12_told_94 rfl (lv_at hl 0 rfl) ?_
    refine c_get hx hb hts i_X12_told_X12 hown hK hP 0 tM0 rfl 22 (by decide) (hts _ (List.mem_of_getElem? (i := 2) rfl)) (fun _ h9 => h9) rfl (v := .ref (ad 14)) rfl dX12_told_95 ?_
    refine lv_iload_n hx hb dX12_told_98 rfl (lv_at hl 1 rfl) ?_
    refine lv_bipush (v := (10 : Int32)) hx hb dX12_told_99 (by decide) ?_
    refine lv_isub hx hb dX12_told_101 ?_
    obtain ⟨hi23, hf⟩ := c_gd hf
    refine c_iald (j := ((a1 - (10 : Int32))).toNatClampNeg) hx hb hK hP 14 tM14 rfl (c_inV hi23) dX12_told_102 ?_
    exact c_iret hx hb hr hlk hP hS rfl (c_inj hf) dX12_told_103
  · have hf := c_it c19 hf
    refine lv_iconst (v := (-1 : Int32)) hx hb dX12_told_87 (by decide) ?_
    exact c_iret hx hb hr hlk hP hS rfl (c_inj hf) dX12_told_88
theorem i_X12_pass_X12 : ∀ w ∈ u_ws RX12 TX12 32, w ∈ wsX12_pass := c_inP [116, 117, 118, 119, 120, 121, 122, 123, 124, 125, 126, 127, 128, 129, 130, 131, 132, 133, 134, 135, 136, 137, 138, 139, 140, 141, 142, 143, 144, 145, 146, 147] (by decide +kernel)
theorem dX12_pass_0 : decode cX12_pass 0 = .ok (.iload_n 1, 1) := by decide +kernel
theorem dX12_pass_1 : decode cX12_pass 1 = .ok (.iconst 0, 1) := by decide +kernel
theorem dX12_pass_2 : decode cX12_pass 2 = .ok (.bipush 60, 2) := by decide +kernel
theorem dX12_pass_4 : decode cX12_pass 4 = .ok (.invokestatic 85, 3) := by decide +kernel
theorem dX12_pass_7 : decode cX12_pass 7 = .ok (.ifCond .ne 6, 3) := by decide +kernel
theorem dX12_pass_10 : decode cX12_pass 10 = .ok (.bipush (-2), 2) := by decide +kernel
theorem dX12_pass_12 : decode cX12_pass 12 = .ok (.ireturn, 1) := by decide +kernel
theorem dX12_pass_13 : decode cX12_pass 13 = .ok (.aload_n 0, 1) := by decide +kernel
theorem dX12_pass_14 : decode cX12_pass 14 = .ok (.getfield 15, 3) := by decide +kernel
theorem dX12_pass_17 : decode cX12_pass 17 = .ok (.bipush 80, 2) := by decide +kernel
theorem dX12_pass_19 : decode cX12_pass 19 = .ok (.iaload, 1) := by decide +kernel
theorem dX12_pass_20 : decode cX12_pass 20 = .ok (.iload_n 1, 1) := by decide +kernel
theorem dX12_pass_21 : decode cX12_pass 21 = .ok (.iadd, 1) := by decide +kernel
theorem dX12_pass_22 : decode cX12_pass 22 = .ok (.sipush 9999, 3) := by decide +kernel
theorem dX12_pass_25 : decode cX12_pass 25 = .ok (.if_icmp .le 6, 3) := by decide +kernel
theorem dX12_pass_28 : decode cX12_pass 28 = .ok (.bipush (-3), 2) := by decide +kernel
theorem dX12_pass_30 : decode cX12_pass 30 = .ok (.ireturn, 1) := by decide +kernel
theorem dX12_pass_31 : decode cX12_pass 31 = .ok (.aload_n 0, 1) := by decide +kernel
theorem dX12_pass_32 : decode cX12_pass 32 = .ok (.iload_n 1, 1) := by decide +kernel
theorem dX12_pass_33 : decode cX12_pass 33 = .ok (.invokevirtual 235, 3) := by decide +kernel
theorem dX12_pass_36 : decode cX12_pass 36 = .ok (.aload_n 0, 1) := by decide +kernel
theorem dX12_pass_37 : decode cX12_pass 37 = .ok (.getfield 15, 3) := by decide +kernel
theorem dX12_pass_40 : decode cX12_pass 40 = .ok (.bipush 80, 2) := by decide +kernel
theorem dX12_pass_42 : decode cX12_pass 42 = .ok (.iaload, 1) := by decide +kernel
theorem dX12_pass_43 : decode cX12_pass 43 = .ok (.ireturn, 1) := by decide +kernel
set_option maxRecDepth 20000 in
theorem ggX12_pass_X12_isIn : GoodIn wsX12_pass wsX12_isIn := goodIn_r _ [5] (by decide +kernel) (by decide +kernel)
set_option maxRecDepth 20000 in
theorem gX12_pass_X12_isIn : GoodIn wsX12_pass (va_wsS RX12 85 yX12_isIn wsX12_isIn) := goodIn_app (goodIn_of _ (by decide +kernel)) ggX12_pass_X12_isIn
set_option maxRecDepth 20000 in
theorem ggX12_pass_X12_sundays : GoodIn wsX12_pass wsX12_sundays := goodIn_r _ [9, 10, 11, 12, 4, 13, 1, 14, 15, 16, 17, 18, 19, 20, 21, 22, 23, 24, 25, 26, 27, 28, 29, 30, 31, 32, 33, 34, 35, 36, 37, 38, 39, 40, 41, 42, 43, 44, 45, 46, 47, 48, 49, 50, 51, 52, 53, 54, 55, 56, 57, 58, 59, 60, 61, 62, 63, 64, 65, 66, 67, 68, 69, 70, 71, 72, 73, 74, 75, 76, 77, 78, 79, 80, 81, 82, 83, 84, 85, 86, 87, 88, 89, 90, 91, 92, 93, 94, 95, 96, 97, 98, 99, 100, 101, 102, 103, 104, 105, 106, 107, 108, 109, 110, 111, 112, 113, 114, 115, 116, 117, 118, 119, 120, 121, 122, 123, 124, 125, 126, 127, 128, 129, 130, 131, 132, 133, 134, 135, 136, 137, 138, 139, 140, 141, 142, 143, 144, 145, 146, 147] (by decide +kernel) (by decide +kernel)
set_option maxRecDepth 20000 in
theorem gX12_pass_X12_sundays : GoodIn wsX12_pass (wsV RX12 235 RX12 yX12_sundays wsX12_sundays) := goodIn_app (goodIn_of _ (by decide +kernel)) ggX12_pass_X12_sundays
def fX12_pass (g : c_G) (a1 : Int32) : Option (c_G × Int32) :=
  if (fX12_isIn a1 ((0 : Int32)) ((60 : Int32))) = 0 then (some (g, (-2 : Int32))) else (if ((g.1 1 80) + a1) ≤ (9999 : Int32) then ((fX12_sundays g a1).bind fun g4 => some (g4, (g4.1 1 80))) else (some (g, (-3 : Int32))))
set_option maxRecDepth 100000 in
set_option maxHeartbeats 4000000 in
theorem kX12_pass {l : Launch} {D : va_G} {tc : Nat → ClassId} {ad : Nat → Nat} {A : Nat → Prop} {E : (Nat → Nat) × (Nat → Nat) × Nat} (hD : c_D A ad TM) {a1 : Int32} {g g' : c_G} {r : Int32} (hf : fX12_pass g a1 = some (g', r)) : c_Mi l yX12_pass wsX12_pass (c_rm 53) D tc ad A E TM ([.ref (ad 0), .int a1] : List Value) g g' r := by
  refine c_ofW (bytes := cX12_pass) (maxL := 2) (ret := (some .int)) (by decide) rfl (Nat.le_of_ble_eq_true rfl) ?_
  intro p e s m below meth c ls C hP hS hl
  unfold fX12_pass at hf
  obtain ⟨hx, hb, hr, hml, hts, hown, hlk, hK, hE⟩ := id C
  have hl : lv_has ls 2 [(0, .ref (ad 0)), (1, .int a1)] := hl
  refine lv_iload_n hx hb dX12_pass_0 rfl (lv_at hl 1 rfl) ?_
  refine lv_iconst (v := (0 : Int32)) hx hb dX12_pass_1 (by decide) ?_
  refine lv_bipush (v := (60 : Int32)) hx hb dX12_pass_2 (by decide) ?_
  refine c_goi (va_runS (As := [.int a1, .int (0 : Int32), .int (60 : Int32)]) (rest := []) ⟨hx, hb, hml, hown, hts⟩ (kX12_isIn (T := TM) (g := g) rfl) (va_cwS 3 hts gX12_pass_X12_isIn rfl rfl rfl (by decide +kernel) ⟨Nat.le_of_ble_eq_true rfl, Nat.le_of_ble_eq_true rfl⟩) (c_preS hK hP hE hS) rfl rfl hl.1 rfl (lv_room (Nat.le_of_ble_eq_true rfl)) dX12_pass_4 ⟨Nat.zero_le _, Nat.zero_le _⟩) hS (fun H locs hP hS => ?_)
  refine lv_if_ne (tgt := 13) hx hb dX12_pass_7 (by decide) (fun c1 => ?_) (fun c1 => ?_)
  · have hf := c_ie c1 hf
    refine lv_aload_n hx hb dX12_pass_13 rfl (lv_at hl 0 rfl) ?_
    refine c_get hx hb hts i_X12_pass_X12 hown hK hP 0 tM0 rfl 0 (by decide) (hts _ (List.mem_of_getElem? (i := 1) rfl)) (fun _ h9 => h9) rfl (v := .ref (ad 1)) rfl dX12_pass_14 ?_
    refine lv_bipush (v := (80 : Int32)) hx hb dX12_pass_17 (by decide) ?_
    refine c_iald (j := 80) hx hb hK hP 1 tM1 (by decide) (c_inV (by decide)) dX12_pass_19 ?_
    refine lv_iload_n hx hb dX12_pass_20 rfl (lv_at hl 1 rfl) ?_
    refine lv_iadd hx hb dX12_pass_21 ?_
    refine lv_sipush (v := (9999 : Int32)) hx hb dX12_pass_22 (by decide) ?_
    refine lv_icmp_le (tgt := 31) hx hb dX12_pass_25 (by decide) (fun c2 => ?_) (fun c2 => ?_)
    · have hf := c_it c2 hf
      refine lv_aload_n hx hb dX12_pass_31 rfl (lv_at hl 0 rfl) ?_
      refine lv_iload_n hx hb dX12_pass_32 rfl (lv_at hl 1 rfl) ?_
      obtain ⟨g4, hc3, hf⟩ := c_bd hf
      refine c_gov (va_runV (As := [.int a1]) (rest := []) ⟨hx, hb, hml, hown, hts⟩ (kX12_sundays hD hc3) (cwV 1 hts gX12_pass_X12_sundays rfl rfl rfl (by decide +kernel) ⟨Nat.le_of_ble_eq_true rfl, Nat.le_of_ble_eq_true rfl⟩) (c_preV hK hP hE hS tM0 rfl) rfl rfl hl.1 rfl (lv_room (Nat.le_of_ble_eq_true rfl)) dX12_pass_33 ⟨Nat.zero_le _, Nat.zero_le _⟩) hS (fun H locs hP hS => ?_)
      refine lv_aload_n hx hb dX12_pass_36 rfl (lv_at hl 0 rfl) ?_
      refine c_get hx hb hts i_X12_pass_X12 hown hK hP 0 tM0 rfl 0 (by decide) (hts _ (List.mem_of_getElem? (i := 1) rfl)) (fun _ h9 => h9) rfl (v := .ref (ad 1)) rfl dX12_pass_37 ?_
      refine lv_bipush (v := (80 : Int32)) hx hb dX12_pass_40 (by decide) ?_
      refine c_iald (j := 80) hx hb hK hP 1 tM1 (by decide) (c_inV (by decide)) dX12_pass_42 ?_
      exact c_iret hx hb hr hlk hP hS rfl (c_inj hf) dX12_pass_43
    · have hf := c_ie c2 hf
      refine lv_bipush (v := (-3 : Int32)) hx hb dX12_pass_28 (by decide) ?_
      exact c_iret hx hb hr hlk hP hS rfl (c_inj hf) dX12_pass_30
  · have hf := c_it c1 hf
    refine lv_bipush (v := (-2 : Int32)) hx hb dX12_pass_10 (by decide) ?_
    exact c_iret hx hb hr hlk hP hS rfl (c_inj hf) dX12_pass_12
theorem i_X12_on_X12 : ∀ w ∈ u_ws RX12 TX12 32, w ∈ wsX12_on := c_inP [139, 140, 141, 142, 143, 144, 145, 146, 147, 148, 149, 150, 151, 152, 153, 154, 155, 156, 157, 158, 159, 160, 161, 162, 163, 164, 165, 166, 167, 168, 169, 170] (by decide +kernel)
theorem dX12_on_0 : decode cX12_on 0 = .ok (.iload_n 2, 1) := by decide +kernel
theorem dX12_on_1 : decode cX12_on 1 = .ok (.ifCond .eq 26, 3) := by decide +kernel
theorem dX12_on_4 : decode cX12_on 4 = .ok (.iload_n 2, 1) := by decide +kernel
theorem dX12_on_5 : decode cX12_on 5 = .ok (.bipush 10, 2) := by decide +kernel
theorem dX12_on_7 : decode cX12_on 7 = .ok (.isub, 1) := by decide +kernel
theorem dX12_on_8 : decode cX12_on 8 = .ok (.invokestatic 112, 3) := by decide +kernel
theorem dX12_on_11 : decode cX12_on 11 = .ok (.ifCond .ne 16, 3) := by decide +kernel
theorem dX12_on_14 : decode cX12_on 14 = .ok (.aload_n 0, 1) := by decide +kernel
theorem dX12_on_15 : decode cX12_on 15 = .ok (.iload_n 2, 1) := by decide +kernel
theorem dX12_on_16 : decode cX12_on 16 = .ok (.bipush 20, 2) := by decide +kernel
theorem dX12_on_18 : decode cX12_on 18 = .ok (.isub, 1) := by decide +kernel
theorem dX12_on_19 : decode cX12_on 19 = .ok (.invokevirtual 101, 3) := by decide +kernel
theorem dX12_on_22 : decode cX12_on 22 = .ok (.ifCond .ne 5, 3) := by decide +kernel
theorem dX12_on_25 : decode cX12_on 25 = .ok (.iconst (-1), 1) := by decide +kernel
theorem dX12_on_26 : decode cX12_on 26 = .ok (.ireturn, 1) := by decide +kernel
theorem dX12_on_27 : decode cX12_on 27 = .ok (.iload_n 1, 1) := by decide +kernel
theorem dX12_on_28 : decode cX12_on 28 = .ok (.iconst 0, 1) := by decide +kernel
theorem dX12_on_29 : decode cX12_on 29 = .ok (.bipush 60, 2) := by decide +kernel
theorem dX12_on_31 : decode cX12_on 31 = .ok (.invokestatic 85, 3) := by decide +kernel
theorem dX12_on_34 : decode cX12_on 34 = .ok (.ifCond .ne 6, 3) := by decide +kernel
theorem dX12_on_37 : decode cX12_on 37 = .ok (.bipush (-2), 2) := by decide +kernel
theorem dX12_on_39 : decode cX12_on 39 = .ok (.ireturn, 1) := by decide +kernel
theorem dX12_on_40 : decode cX12_on 40 = .ok (.aload_n 0, 1) := by decide +kernel
theorem dX12_on_41 : decode cX12_on 41 = .ok (.iconst 0, 1) := by decide +kernel
theorem dX12_on_42 : decode cX12_on 42 = .ok (.invokevirtual 217, 3) := by decide +kernel
theorem dX12_on_45 : decode cX12_on 45 = .ok (.aload_n 0, 1) := by decide +kernel
theorem dX12_on_46 : decode cX12_on 46 = .ok (.iload_n 1, 1) := by decide +kernel
theorem dX12_on_47 : decode cX12_on 47 = .ok (.invokevirtual 235, 3) := by decide +kernel
theorem dX12_on_50 : decode cX12_on 50 = .ok (.iload_n 2, 1) := by decide +kernel
theorem dX12_on_51 : decode cX12_on 51 = .ok (.ifCond .ne 10, 3) := by decide +kernel
theorem dX12_on_54 : decode cX12_on 54 = .ok (.aload_n 0, 1) := by decide +kernel
theorem dX12_on_55 : decode cX12_on 55 = .ok (.invokevirtual 223, 3) := by decide +kernel
theorem dX12_on_58 : decode cX12_on 58 = .ok (.goto 37, 3) := by decide +kernel
theorem dX12_on_61 : decode cX12_on 61 = .ok (.iload_n 2, 1) := by decide +kernel
theorem dX12_on_62 : decode cX12_on 62 = .ok (.bipush 20, 2) := by decide +kernel
theorem dX12_on_64 : decode cX12_on 64 = .ok (.if_icmp .ge 22, 3) := by decide +kernel
theorem dX12_on_67 : decode cX12_on 67 = .ok (.aload_n 0, 1) := by decide +kernel
theorem dX12_on_68 : decode cX12_on 68 = .ok (.aload_n 0, 1) := by decide +kernel
theorem dX12_on_69 : decode cX12_on 69 = .ok (.getfield 15, 3) := by decide +kernel
theorem dX12_on_72 : decode cX12_on 72 = .ok (.iload_n 2, 1) := by decide +kernel
theorem dX12_on_73 : decode cX12_on 73 = .ok (.bipush 10, 2) := by decide +kernel
theorem dX12_on_75 : decode cX12_on 75 = .ok (.isub, 1) := by decide +kernel
theorem dX12_on_76 : decode cX12_on 76 = .ok (.iconst 1, 1) := by decide +kernel
theorem dX12_on_77 : decode cX12_on 77 = .ok (.invokevirtual 118, 3) := by decide +kernel
theorem dX12_on_80 : decode cX12_on 80 = .ok (.invokestatic 104, 3) := by decide +kernel
theorem dX12_on_83 : decode cX12_on 83 = .ok (.goto 12, 3) := by decide +kernel
theorem dX12_on_86 : decode cX12_on 86 = .ok (.aload_n 0, 1) := by decide +kernel
theorem dX12_on_87 : decode cX12_on 87 = .ok (.iload_n 2, 1) := by decide +kernel
theorem dX12_on_88 : decode cX12_on 88 = .ok (.bipush 20, 2) := by decide +kernel
theorem dX12_on_90 : decode cX12_on 90 = .ok (.isub, 1) := by decide +kernel
theorem dX12_on_91 : decode cX12_on 91 = .ok (.iconst 2, 1) := by decide +kernel
theorem dX12_on_92 : decode cX12_on 92 = .ok (.invokevirtual 89, 3) := by decide +kernel
theorem dX12_on_95 : decode cX12_on 95 = .ok (.istore_n 3, 1) := by decide +kernel
theorem dX12_on_96 : decode cX12_on 96 = .ok (.aload_n 0, 1) := by decide +kernel
theorem dX12_on_97 : decode cX12_on 97 = .ok (.iconst 0, 1) := by decide +kernel
theorem dX12_on_98 : decode cX12_on 98 = .ok (.invokevirtual 220, 3) := by decide +kernel
theorem dX12_on_101 : decode cX12_on 101 = .ok (.iload_n 3, 1) := by decide +kernel
theorem dX12_on_102 : decode cX12_on 102 = .ok (.ireturn, 1) := by decide +kernel
set_option maxRecDepth 20000 in
theorem ggX12_on_X12_isElder : GoodIn wsX12_on wsX12_isElder := goodIn_r _ [5, 6, 7, 4, 8] (by decide +kernel) (by decide +kernel)
set_option maxRecDepth 20000 in
theorem gX12_on_X12_isElder : GoodIn wsX12_on (va_wsS RX12 112 yX12_isElder wsX12_isElder) := goodIn_app (goodIn_of _ (by decide +kernel)) ggX12_on_X12_isElder
set_option maxRecDepth 20000 in
theorem ggX12_on_X12_isChild : GoodIn wsX12_on wsX12_isChild := goodIn_r _ [12, 1, 6, 7, 4, 8, 139, 140, 141, 142, 143, 144, 145, 146, 147, 148, 149, 150, 151, 152, 153, 154, 155, 156, 157, 158, 159, 160, 161, 162, 163, 164, 165, 166, 167, 168, 169, 170] (by decide +kernel) (by decide +kernel)
set_option maxRecDepth 20000 in
theorem gX12_on_X12_isChild : GoodIn wsX12_on (wsV RX12 101 RX12 yX12_isChild wsX12_isChild) := goodIn_app (goodIn_of _ (by decide +kernel)) ggX12_on_X12_isChild
set_option maxRecDepth 20000 in
theorem ggX12_on_X12_isIn : GoodIn wsX12_on wsX12_isIn := goodIn_r _ [8] (by decide +kernel) (by decide +kernel)
set_option maxRecDepth 20000 in
theorem gX12_on_X12_isIn : GoodIn wsX12_on (va_wsS RX12 85 yX12_isIn wsX12_isIn) := goodIn_app (goodIn_of _ (by decide +kernel)) ggX12_on_X12_isIn
set_option maxRecDepth 20000 in
theorem ggX12_on_X12_keep : GoodIn wsX12_on wsX12_keep := goodIn_r _ [16, 17, 1, 139, 140, 141, 142, 143, 144, 145, 146, 147, 148, 149, 150, 151, 152, 153, 154, 155, 156, 157, 158, 159, 160, 161, 162, 163, 164, 165, 166, 167, 168, 169, 170] (by decide +kernel) (by decide +kernel)
set_option maxRecDepth 20000 in
theorem gX12_on_X12_keep : GoodIn wsX12_on (wsV RX12 217 RX12 yX12_keep wsX12_keep) := goodIn_app (goodIn_of _ (by decide +kernel)) ggX12_on_X12_keep
set_option maxRecDepth 20000 in
theorem ggX12_on_X12_sundays : GoodIn wsX12_on wsX12_sundays := goodIn_r _ [21, 22, 23, 24, 4, 25, 1, 26, 27, 28, 29, 30, 31, 32, 33, 34, 35, 36, 37, 38, 39, 40, 41, 42, 43, 44, 45, 46, 47, 48, 49, 50, 51, 52, 53, 54, 55, 56, 57, 58, 59, 60, 61, 62, 63, 64, 65, 66, 67, 68, 69, 70, 71, 72, 73, 74, 75, 76, 77, 78, 79, 80, 81, 82, 83, 84, 85, 86, 87, 88, 89, 90, 91, 92, 93, 94, 95, 96, 97, 98, 99, 100, 101, 102, 103, 104, 105, 106, 107, 108, 109, 110, 111, 112, 113, 114, 115, 116, 117, 118, 119, 120, 121, 122, 123, 124, 125, 126, 127, 139, 140, 141, 142, 143, 144, 145, 146, 147, 148, 149, 150, 151, 152, 153, 154, 155, 156, 157, 158, 159, 160, 161, 162, 163, 164, 165, 166, 167, 168, 169, 170] (by decide +kernel) (by decide +kernel)
set_option maxRecDepth 20000 in
theorem gX12_on_X12_sundays : GoodIn wsX12_on (wsV RX12 235 RX12 yX12_sundays wsX12_sundays) := goodIn_app (goodIn_of _ (by decide +kernel)) ggX12_on_X12_sundays
set_option maxRecDepth 20000 in
theorem ggX12_on_X12_howMany : GoodIn wsX12_on wsX12_howMany := goodIn_r _ [131, 1, 58, 59, 60, 4, 61, 139, 140, 141, 142, 143, 144, 145, 146, 147, 148, 149, 150, 151, 152, 153, 154, 155, 156, 157, 158, 159, 160, 161, 162, 163, 164, 165, 166, 167, 168, 169, 170] (by decide +kernel) (by decide +kernel)
set_option maxRecDepth 20000 in
theorem gX12_on_X12_howMany : GoodIn wsX12_on (wsV RX12 223 RX12 yX12_howMany wsX12_howMany) := goodIn_app (goodIn_of _ (by decide +kernel)) ggX12_on_X12_howMany
set_option maxRecDepth 20000 in
theorem ggX12_on_X12_of : GoodIn wsX12_on wsX12_of := goodIn_r _ [61] (by decide +kernel) (by decide +kernel)
set_option maxRecDepth 20000 in
theorem gX12_on_X12_of : GoodIn wsX12_on (wsV RX12 118 RX12 yX12_of wsX12_of) := goodIn_app (goodIn_of _ (by decide +kernel)) ggX12_on_X12_of
set_option maxRecDepth 20000 in
theorem ggX12_on_X12_orNever : GoodIn wsX12_on wsX12_orNever := goodIn_r _ [134] (by decide +kernel) (by decide +kernel)
set_option maxRecDepth 20000 in
theorem gX12_on_X12_orNever : GoodIn wsX12_on (va_wsS RX12 104 yX12_orNever wsX12_orNever) := goodIn_app (goodIn_of _ (by decide +kernel)) ggX12_on_X12_orNever
set_option maxRecDepth 20000 in
theorem ggX12_on_X12_one : GoodIn wsX12_on wsX12_one := goodIn_r _ [29, 1, 139, 140, 141, 142, 143, 144, 145, 146, 147, 148, 149, 150, 151, 152, 153, 154, 155, 156, 157, 158, 159, 160, 161, 162, 163, 164, 165, 166, 167, 168, 169, 170] (by decide +kernel) (by decide +kernel)
set_option maxRecDepth 20000 in
theorem gX12_on_X12_one : GoodIn wsX12_on (wsV RX12 89 RX12 yX12_one wsX12_one) := goodIn_app (goodIn_of _ (by decide +kernel)) ggX12_on_X12_one
set_option maxRecDepth 20000 in
theorem ggX12_on_X12_lay : GoodIn wsX12_on wsX12_lay := goodIn_r _ [138, 1, 17, 139, 140, 141, 142, 143, 144, 145, 146, 147, 148, 149, 150, 151, 152, 153, 154, 155, 156, 157, 158, 159, 160, 161, 162, 163, 164, 165, 166, 167, 168, 169, 170] (by decide +kernel) (by decide +kernel)
set_option maxRecDepth 20000 in
theorem gX12_on_X12_lay : GoodIn wsX12_on (wsV RX12 220 RX12 yX12_lay wsX12_lay) := goodIn_app (goodIn_of _ (by decide +kernel)) ggX12_on_X12_lay
def fX12_on_95  (a1 : Int32) (a2 : Int32) (y0 : Int32) (g : c_G) : Option (c_G × Int32) :=
  (fX12_lay g ((0 : Int32))).bind fun g95002 => some (g95002, y0)
set_option maxRecDepth 100000 in
set_option maxHeartbeats 4000000 in
theorem jX12_on_95 {p : Program} {l : Launch} {e : Env} {s : State} {m : MethodId} {below : List Frame} {meth : Method} {c : Code} {D : va_G} {tc : Nat → ClassId} {ad : Nat → Nat} {A : Nat → Prop} {E : (Nat → Nat) × (Nat → Nat) × Nat} {a1 : Int32} {a2 : Int32} {g' : c_G} {r : Int32} (C : c_C p s m meth c D tc A E RX12 wsX12_on cX12_on 4 (some .int) ([.ref (ad 0), .int a1, .int a2] : List Value).toArray) (hD : c_D A ad TM)  : ∀ (y0 : Int32) (g : c_G), fX12_on_95 a1 a2 y0 g = some (g', r) → ∀ (H : Heap) (locs : List Loc), va_P D vwCl (c_ws tc ad TM g) H → va_S A s.heap H locs → ∀ ls : Array Slot, lv_has ls 4 [(0, .ref (ad 0))] → W p l e (c_rm 53) s m ([.ref (ad 0), .int a1, .int a2] : List Value).toArray below meth c H locs 0 0 (MQ below (va_Qi (fun (x : Int32) (_ : Unit) => x = r) (fun _ t => va_P D vwCl (c_ws tc ad TM g') t.heap) A) ([.ref (ad 0), .int a1, .int a2] : List Value).toArray s 0 0 A) (F0 m 95 ls [.int y0]) := by
  obtain ⟨hx, hb, hr, hml, hts, hown, hlk, hK, hE⟩ := id C
  intro y0 g hf H locs hP hS ls hl
  unfold fX12_on_95 at hf
  refine lv_istore_n (lv' := [(3, .int y0), (0, .ref (ad 0))]) hx hb dX12_on_95 rfl hl (by decide) rfl (fun ls hl => ?_)
  refine lv_aload_n hx hb dX12_on_96 rfl (lv_at hl 1 rfl) ?_
  refine lv_iconst (v := (0 : Int32)) hx hb dX12_on_97 (by decide) ?_
  obtain ⟨g95002, hc95001, hf⟩ := c_bd hf
  refine c_gov (va_runV (As := [.int (0 : Int32)]) (rest := []) ⟨hx, hb, hml, hown, hts⟩ (kX12_lay hD hc95001) (cwV 1 hts gX12_on_X12_lay rfl rfl rfl (by decide +kernel) ⟨Nat.le_of_ble_eq_true rfl, Nat.le_of_ble_eq_true rfl⟩) (c_preV hK hP hE hS tM0 rfl) rfl rfl hl.1 rfl (lv_room (Nat.le_of_ble_eq_true rfl)) dX12_on_98 ⟨Nat.zero_le _, Nat.zero_le _⟩) hS (fun H locs hP hS => ?_)
  refine lv_iload_n hx hb dX12_on_101 rfl (lv_at hl 0 rfl) ?_
  exact c_iret hx hb hr hlk hP hS rfl (c_inj hf) dX12_on_102
def fX12_on_27  (a1 : Int32) (a2 : Int32) (x1 : Int32) (x2 : Int32) (g : c_G) : Option (c_G × Int32) :=
  if (fX12_isIn x1 ((0 : Int32)) ((60 : Int32))) = 0 then (some (g, (-2 : Int32))) else ((fX12_keep g ((0 : Int32))).bind fun g27003 => (fX12_sundays g27003 x1).bind fun g27005 => if x2 = 0 then ((fX12_howMany g27005).bind fun r27012 => fX12_on_95 a1 a2 r27012 g27005) else (if (20 : Int32) ≤ x2 then ((fX12_one g27005 ((x2 - (20 : Int32))) ((2 : Int32))).bind fun r27008 => fX12_on_95 a1 a2 r27008 g27005) else ((fX12_of g27005 ((x2 - (10 : Int32))) ((1 : Int32))).bind fun r27010 => fX12_on_95 a1 a2 ((fX12_orNever r27010)) g27005)))
set_option maxRecDepth 100000 in
set_option maxHeartbeats 4000000 in
theorem jX12_on_27 {p : Program} {l : Launch} {e : Env} {s : State} {m : MethodId} {below : List Frame} {meth : Method} {c : Code} {D : va_G} {tc : Nat → ClassId} {ad : Nat → Nat} {A : Nat → Prop} {E : (Nat → Nat) × (Nat → Nat) × Nat} {a1 : Int32} {a2 : Int32} {g' : c_G} {r : Int32} (C : c_C p s m meth c D tc A E RX12 wsX12_on cX12_on 4 (some .int) ([.ref (ad 0), .int a1, .int a2] : List Value).toArray) (hD : c_D A ad TM)  : ∀ (x1 : Int32) (x2 : Int32) (g : c_G), fX12_on_27 a1 a2 x1 x2 g = some (g', r) → ∀ (H : Heap) (locs : List Loc), va_P D vwCl (c_ws tc ad TM g) H → va_S A s.heap H locs → ∀ ls : Array Slot, lv_has ls 4 [(0, .ref (ad 0)), (1, .int x1), (2, .int x2)] → W p l e (c_rm 53) s m ([.ref (ad 0), .int a1, .int a2] : List Value).toArray below meth c H locs 0 0 (MQ below (va_Qi (fun (x : Int32) (_ : Unit) => x = r) (fun _ t => va_P D vwCl (c_ws tc ad TM g') t.heap) A) ([.ref (ad 0), .int a1, .int a2] : List Value).toArray s 0 0 A) (F0 m 27 ls []) := by
  obtain ⟨hx, hb, hr, hml, hts, hown, hlk, hK, hE⟩ := id C
  intro x1 x2 g hf H locs hP hS ls hl
  unfold fX12_on_27 at hf
  refine lv_iload_n hx hb dX12_on_27 rfl (lv_at hl 1 rfl) ?_
  refine lv_iconst (v := (0 : Int32)) hx hb dX12_on_28 (by decide) ?_
  refine lv_bipush (v := (60 : Int32)) hx hb dX12_on_29 (by decide) ?_
  refine c_goi (va_runS (As := [.int x1, .int (0 : Int32), .int (60 : Int32)]) (rest := []) ⟨hx, hb, hml, hown, hts⟩ (kX12_isIn (T := TM) (g := g) rfl) (va_cwS 3 hts gX12_on_X12_isIn rfl rfl rfl (by decide +kernel) ⟨Nat.le_of_ble_eq_true rfl, Nat.le_of_ble_eq_true rfl⟩) (c_preS hK hP hE hS) rfl rfl hl.1 rfl (lv_room (Nat.le_of_ble_eq_true rfl)) dX12_on_31 ⟨Nat.zero_le _, Nat.zero_le _⟩) hS (fun H locs hP hS => ?_)
  refine lv_if_ne (tgt := 40) hx hb dX12_on_34 (by decide) (fun c27001 => ?_) (fun c27001 => ?_)
  · have hf := c_ie c27001 hf
    refine lv_aload_n hx hb dX12_on_40 rfl (lv_at hl 0 rfl) ?_
    refine lv_iconst (v := (0 : Int32)) hx hb dX12_on_41 (by decide) ?_
    obtain ⟨g27003, hc27002, hf⟩ := c_bd hf
    refine c_gov (va_runV (As := [.int (0 : Int32)]) (rest := []) ⟨hx, hb, hml, hown, hts⟩ (kX12_keep hD hc27002) (cwV 1 hts gX12_on_X12_keep rfl rfl rfl (by decide +kernel) ⟨Nat.le_of_ble_eq_true rfl, Nat.le_of_ble_eq_true rfl⟩) (c_preV hK hP hE hS tM0 rfl) rfl rfl hl.1 rfl (lv_room (Nat.le_of_ble_eq_true rfl)) dX12_on_42 ⟨Nat.zero_le _, Nat.zero_le _⟩) hS (fun H locs hP hS => ?_)
    refine lv_aload_n hx hb dX12_on_45 rfl (lv_at hl 0 rfl) ?_
    refine lv_iload_n hx hb dX12_on_46 rfl (lv_at hl 1 rfl) ?_
    obtain ⟨g27005, hc27004, hf⟩ := c_bd hf
    refine c_gov (va_runV (As := [.int x1]) (rest := []) ⟨hx, hb, hml, hown, hts⟩ (kX12_sundays hD hc27004) (cwV 1 hts gX12_on_X12_sundays rfl rfl rfl (by decide +kernel) ⟨Nat.le_of_ble_eq_true rfl, Nat.le_of_ble_eq_true rfl⟩) (c_preV hK hP hE hS tM0 rfl) rfl rfl hl.1 rfl (lv_room (Nat.le_of_ble_eq_true rfl)) dX12_on_47 ⟨Nat.zero_le _, Nat.zero_le _⟩) hS (fun H locs hP hS => ?_)
    refine lv_iload_n hx hb dX12_on_50 rfl (lv_at hl 2 rfl) ?_
    refine lv_if_ne (tgt := 61) hx hb dX12_on_51 (by decide) (fun c27006 => ?_) (fun c27006 => ?_)
    · have hf := c_ie c27006 hf
      refine lv_iload_n hx hb dX12_on_61 rfl (lv_at hl 2 rfl) ?_
      refine lv_bipush (v := (20 : Int32)) hx hb dX12_on_62 (by decide) ?_
      refine lv_icmp_ge (tgt := 86) hx hb dX12_on_64 (by decide) (fun c27007 => ?_) (fun c27007 => ?_)
      · have hf := c_it c27007 hf
        refine lv_aload_n hx hb dX12_on_86 rfl (lv_at hl 0 rfl) ?_
        refine lv_iload_n hx hb dX12_on_87 rfl (lv_at hl 2 rfl) ?_
        refine lv_bipush (v := (20 : Int32)) hx hb dX12_on_88 (by decide) ?_
        refine lv_isub hx hb dX12_on_90 ?_
        refine lv_iconst (v := (2 : Int32)) hx hb dX12_on_91 (by decide) ?_
        obtain ⟨r27008, hc27009, hf⟩ := c_bd hf
        refine c_goi (va_runV (As := [.int (x2 - (20 : Int32)), .int (2 : Int32)]) (rest := []) ⟨hx, hb, hml, hown, hts⟩ (kX12_one hD hc27009) (cwV 2 hts gX12_on_X12_one rfl rfl rfl (by decide +kernel) ⟨Nat.le_of_ble_eq_true rfl, Nat.le_of_ble_eq_true rfl⟩) (c_preV hK hP hE hS tM0 rfl) rfl rfl hl.1 rfl (lv_room (Nat.le_of_ble_eq_true rfl)) dX12_on_92 ⟨Nat.zero_le _, Nat.zero_le _⟩) hS (fun H locs hP hS => ?_)
        exact jX12_on_95 C hD r27008 g27005 hf _ _ hP hS _ (lv_sub hl [0] rfl)
      · have hf := c_ie c27007 hf
        refine lv_aload_n hx hb dX12_on_67 rfl (lv_at hl 0 rfl) ?_
        refine lv_aload_n hx hb dX12_on_68 rfl (lv_at hl 0 rfl) ?_
        refine c_get hx hb hts i_X12_on_X12 hown hK hP 0 tM0 rfl 0 (by decide) (hts _ (List.mem_of_getElem? (i := 1) rfl)) (fun _ h9 => h9) rfl (v := .ref (ad 1)) rfl dX12_on_69 ?_
        refine lv_iload_n hx hb dX12_on_72 rfl (lv_at hl 2 rfl) ?_
        refine lv_bipush (v := (10 : Int32)) hx hb dX12_on_73 (by decide) ?_
        refine lv_isub hx hb dX12_on_75 ?_
        refine lv_iconst (v := (1 : Int32)) hx hb dX12_on_76 (by decide) ?_
        obtain ⟨r27010, hc27011, hf⟩ := c_bd hf
        refine c_goi (va_runV (As := [.ref (ad 1), .int (x2 - (10 : Int32)), .int (1 : Int32)]) (rest := []) ⟨hx, hb, hml, hown, hts⟩ (kX12_of hD hc27011) (cwV 3 hts gX12_on_X12_of rfl rfl rfl (by decide +kernel) ⟨Nat.le_of_ble_eq_true rfl, Nat.le_of_ble_eq_true rfl⟩) (c_preV hK hP hE hS tM0 rfl) rfl rfl hl.1 rfl (lv_room (Nat.le_of_ble_eq_true rfl)) dX12_on_77 ⟨Nat.zero_le _, Nat.zero_le _⟩) hS (fun H locs hP hS => ?_)
        refine c_goi (va_runS (As := [.int r27010]) (rest := []) ⟨hx, hb, hml, hown, hts⟩ (kX12_orNever (T := TM) (g := g27005) rfl) (va_cwS 1 hts gX12_on_X12_orNever rfl rfl rfl (by decide +kernel) ⟨Nat.le_of_ble_eq_true rfl, Nat.le_of_ble_eq_true rfl⟩) (c_preS hK hP hE hS) rfl rfl hl.1 rfl (lv_room (Nat.le_of_ble_eq_true rfl)) dX12_on_80 ⟨Nat.zero_le _, Nat.zero_le _⟩) hS (fun H locs hP hS => ?_)
        refine lv_goto (tgt := 95) hx hb dX12_on_83 (by decide) ?_
        exact jX12_on_95 C hD ((fX12_orNever r27010)) g27005 hf _ _ hP hS _ (lv_sub hl [0] rfl)
    · have hf := c_it c27006 hf
      refine lv_aload_n hx hb dX12_on_54 rfl (lv_at hl 0 rfl) ?_
      obtain ⟨r27012, hc27013, hf⟩ := c_bd hf
      refine c_goi (va_runV (As := []) (rest := []) ⟨hx, hb, hml, hown, hts⟩ (kX12_howMany hD hc27013) (cwV 0 hts gX12_on_X12_howMany rfl rfl rfl (by decide +kernel) ⟨Nat.le_of_ble_eq_true rfl, Nat.le_of_ble_eq_true rfl⟩) (c_preV hK hP hE hS tM0 rfl) rfl rfl hl.1 rfl (lv_room (Nat.le_of_ble_eq_true rfl)) dX12_on_55 ⟨Nat.zero_le _, Nat.zero_le _⟩) hS (fun H locs hP hS => ?_)
      refine lv_goto (tgt := 95) hx hb dX12_on_58 (by decide) ?_
      exact jX12_on_95 C hD r27012 g27005 hf _ _ hP hS _ (lv_sub hl [0] rfl)
  · have hf := c_it c27001 hf
    refine lv_bipush (v := (-2 : Int32)) hx hb dX12_on_37 (by decide) ?_
    exact c_iret hx hb hr hlk hP hS rfl (c_inj hf) dX12_on_39
def fX12_on (g : c_G) (a1 : Int32) (a2 : Int32) : Option (c_G × Int32) :=
  if a2 = 0 then (fX12_on_27 a1 a2 a1 a2 g) else (if (fX12_isElder ((a2 - (10 : Int32)))) = 0 then ((fX12_isChild g ((a2 - (20 : Int32)))).bind fun r3 => if r3 = 0 then (some (g, (-1 : Int32))) else (fX12_on_27 a1 a2 a1 a2 g)) else (fX12_on_27 a1 a2 a1 a2 g))
set_option maxRecDepth 100000 in
set_option maxHeartbeats 4000000 in
theorem kX12_on {l : Launch} {D : va_G} {tc : Nat → ClassId} {ad : Nat → Nat} {A : Nat → Prop} {E : (Nat → Nat) × (Nat → Nat) × Nat} (hD : c_D A ad TM) {a1 : Int32} {a2 : Int32} {g g' : c_G} {r : Int32} (hf : fX12_on g a1 a2 = some (g', r)) : c_Mi l yX12_on wsX12_on (c_rm 53) D tc ad A E TM ([.ref (ad 0), .int a1, .int a2] : List Value) g g' r := by
  refine c_ofW (bytes := cX12_on) (maxL := 4) (ret := (some .int)) (by decide) rfl (Nat.le_of_ble_eq_true rfl) ?_
  intro p e s m below meth c ls C hP hS hl
  unfold fX12_on at hf
  obtain ⟨hx, hb, hr, hml, hts, hown, hlk, hK, hE⟩ := id C
  have hl : lv_has ls 4 [(0, .ref (ad 0)), (1, .int a1), (2, .int a2)] := hl
  refine lv_iload_n hx hb dX12_on_0 rfl (lv_at hl 2 rfl) ?_
  refine lv_if_eq (tgt := 27) hx hb dX12_on_1 (by decide) (fun c1 => ?_) (fun c1 => ?_)
  · have hf := c_it c1 hf
    exact jX12_on_27 C hD a1 a2 g hf _ _ hP hS _ (lv_sub hl [0, 1, 2] rfl)
  · have hf := c_ie c1 hf
    refine lv_iload_n hx hb dX12_on_4 rfl (lv_at hl 2 rfl) ?_
    refine lv_bipush (v := (10 : Int32)) hx hb dX12_on_5 (by decide) ?_
    refine lv_isub hx hb dX12_on_7 ?_
    refine c_goi (va_runS (As := [.int (a2 - (10 : Int32))]) (rest := []) ⟨hx, hb, hml, hown, hts⟩ (kX12_isElder (T := TM) (g := g) rfl) (va_cwS 1 hts gX12_on_X12_isElder rfl rfl rfl (by decide +kernel) ⟨Nat.le_of_ble_eq_true rfl, Nat.le_of_ble_eq_true rfl⟩) (c_preS hK hP hE hS) rfl rfl hl.1 rfl (lv_room (Nat.le_of_ble_eq_true rfl)) dX12_on_8 ⟨Nat.zero_le _, Nat.zero_le _⟩) hS (fun H locs hP hS => ?_)
    refine lv_if_ne (tgt := 27) hx hb dX12_on_11 (by decide) (fun c2 => ?_) (fun c2 => ?_)
    · have hf := c_ie c2 hf
      exact jX12_on_27 C hD a1 a2 g hf _ _ hP hS _ (lv_sub hl [0, 1, 2] rfl)
    · have hf := c_it c2 hf
      refine lv_aload_n hx hb dX12_on_14 rfl (lv_at hl 0 rfl) ?_
      refine lv_iload_n hx hb dX12_on_15 rfl (lv_at hl 2 rfl) ?_
      refine lv_bipush (v := (20 : Int32)) hx hb dX12_on_16 (by decide) ?_
      refine lv_isub hx hb dX12_on_18 ?_
      obtain ⟨r3, hc4, hf⟩ := c_bd hf
      refine c_goi (va_runV (As := [.int (a2 - (20 : Int32))]) (rest := []) ⟨hx, hb, hml, hown, hts⟩ (kX12_isChild hD hc4) (cwV 1 hts gX12_on_X12_isChild rfl rfl rfl (by decide +kernel) ⟨Nat.le_of_ble_eq_true rfl, Nat.le_of_ble_eq_true rfl⟩) (c_preV hK hP hE hS tM0 rfl) rfl rfl hl.1 rfl (lv_room (Nat.le_of_ble_eq_true rfl)) dX12_on_19 ⟨Nat.zero_le _, Nat.zero_le _⟩) hS (fun H locs hP hS => ?_)
      refine lv_if_ne (tgt := 27) hx hb dX12_on_22 (by decide) (fun c5 => ?_) (fun c5 => ?_)
      · have hf := c_ie c5 hf
        exact jX12_on_27 C hD a1 a2 g hf _ _ hP hS _ (lv_sub hl [0, 1, 2] rfl)
      · have hf := c_it c5 hf
        refine lv_iconst (v := (-1 : Int32)) hx hb dX12_on_25 (by decide) ?_
        exact c_iret hx hb hr hlk hP hS rfl (c_inj hf) dX12_on_26
theorem dX12_teach_0 : decode cX12_teach 0 = .ok (.aload_n 0, 1) := by decide +kernel
theorem dX12_teach_1 : decode cX12_teach 1 = .ok (.iload_n 1, 1) := by decide +kernel
theorem dX12_teach_2 : decode cX12_teach 2 = .ok (.invokevirtual 101, 3) := by decide +kernel
theorem dX12_teach_5 : decode cX12_teach 5 = .ok (.ifCond .eq 17, 3) := by decide +kernel
theorem dX12_teach_8 : decode cX12_teach 8 = .ok (.iload_n 2, 1) := by decide +kernel
theorem dX12_teach_9 : decode cX12_teach 9 = .ok (.invokestatic 112, 3) := by decide +kernel
theorem dX12_teach_12 : decode cX12_teach 12 = .ok (.ifCond .eq 10, 3) := by decide +kernel
theorem dX12_teach_15 : decode cX12_teach 15 = .ok (.iload_n 3, 1) := by decide +kernel
theorem dX12_teach_16 : decode cX12_teach 16 = .ok (.invokestatic 125, 3) := by decide +kernel
theorem dX12_teach_19 : decode cX12_teach 19 = .ok (.ifCond .ne 5, 3) := by decide +kernel
theorem dX12_teach_22 : decode cX12_teach 22 = .ok (.iconst (-1), 1) := by decide +kernel
theorem dX12_teach_23 : decode cX12_teach 23 = .ok (.ireturn, 1) := by decide +kernel
theorem dX12_teach_24 : decode cX12_teach 24 = .ok (.aload_n 0, 1) := by decide +kernel
theorem dX12_teach_25 : decode cX12_teach 25 = .ok (.iload_n 1, 1) := by decide +kernel
theorem dX12_teach_26 : decode cX12_teach 26 = .ok (.iload_n 2, 1) := by decide +kernel
theorem dX12_teach_27 : decode cX12_teach 27 = .ok (.invokevirtual 201, 3) := by decide +kernel
theorem dX12_teach_30 : decode cX12_teach 30 = .ok (.aload_n 0, 1) := by decide +kernel
theorem dX12_teach_31 : decode cX12_teach 31 = .ok (.invokevirtual 205, 3) := by decide +kernel
theorem dX12_teach_34 : decode cX12_teach 34 = .ok (.istore 4, 2) := by decide +kernel
theorem dX12_teach_36 : decode cX12_teach 36 = .ok (.aload_n 0, 1) := by decide +kernel
theorem dX12_teach_37 : decode cX12_teach 37 = .ok (.iload_n 1, 1) := by decide +kernel
theorem dX12_teach_38 : decode cX12_teach 38 = .ok (.iconst 2, 1) := by decide +kernel
theorem dX12_teach_39 : decode cX12_teach 39 = .ok (.invokevirtual 89, 3) := by decide +kernel
theorem dX12_teach_42 : decode cX12_teach 42 = .ok (.istore 5, 2) := by decide +kernel
theorem dX12_teach_44 : decode cX12_teach 44 = .ok (.bipush (-5), 2) := by decide +kernel
theorem dX12_teach_46 : decode cX12_teach 46 = .ok (.istore 6, 2) := by decide +kernel
theorem dX12_teach_48 : decode cX12_teach 48 = .ok (.iconst 0, 1) := by decide +kernel
theorem dX12_teach_49 : decode cX12_teach 49 = .ok (.istore 7, 2) := by decide +kernel
theorem dX12_teach_51 : decode cX12_teach 51 = .ok (.iload 7, 2) := by decide +kernel
theorem dX12_teach_53 : decode cX12_teach 53 = .ok (.sipush 4096, 3) := by decide +kernel
theorem dX12_teach_56 : decode cX12_teach 56 = .ok (.if_icmp .ge 62, 3) := by decide +kernel
theorem dX12_teach_59 : decode cX12_teach 59 = .ok (.iload 7, 2) := by decide +kernel
theorem dX12_teach_61 : decode cX12_teach 61 = .ok (.iload 5, 2) := by decide +kernel
theorem dX12_teach_63 : decode cX12_teach 63 = .ok (.iand, 1) := by decide +kernel
theorem dX12_teach_64 : decode cX12_teach 64 = .ok (.ifCond .ne 48, 3) := by decide +kernel
theorem dX12_teach_67 : decode cX12_teach 67 = .ok (.iload 6, 2) := by decide +kernel
theorem dX12_teach_69 : decode cX12_teach 69 = .ok (.bipush (-5), 2) := by decide +kernel
theorem dX12_teach_71 : decode cX12_teach 71 = .ok (.if_icmp .eq 16, 3) := by decide +kernel
theorem dX12_teach_74 : decode cX12_teach 74 = .ok (.iload 7, 2) := by decide +kernel
theorem dX12_teach_76 : decode cX12_teach 76 = .ok (.invokestatic 238, 3) := by decide +kernel
theorem dX12_teach_79 : decode cX12_teach 79 = .ok (.iload 6, 2) := by decide +kernel
theorem dX12_teach_81 : decode cX12_teach 81 = .ok (.invokestatic 238, 3) := by decide +kernel
theorem dX12_teach_84 : decode cX12_teach 84 = .ok (.if_icmp .ge 28, 3) := by decide +kernel
theorem dX12_teach_87 : decode cX12_teach 87 = .ok (.aload_n 0, 1) := by decide +kernel
theorem dX12_teach_88 : decode cX12_teach 88 = .ok (.iload_n 2, 1) := by decide +kernel
theorem dX12_teach_89 : decode cX12_teach 89 = .ok (.iload 5, 2) := by decide +kernel
theorem dX12_teach_91 : decode cX12_teach 91 = .ok (.iload 7, 2) := by decide +kernel
theorem dX12_teach_93 : decode cX12_teach 93 = .ok (.ior, 1) := by decide +kernel
theorem dX12_teach_94 : decode cX12_teach 94 = .ok (.iload 4, 2) := by decide +kernel
theorem dX12_teach_96 : decode cX12_teach 96 = .ok (.invokevirtual 208, 3) := by decide +kernel
theorem dX12_teach_99 : decode cX12_teach 99 = .ok (.iload_n 3, 1) := by decide +kernel
theorem dX12_teach_100 : decode cX12_teach 100 = .ok (.if_icmp .ne 8, 3) := by decide +kernel
theorem dX12_teach_103 : decode cX12_teach 103 = .ok (.iload 7, 2) := by decide +kernel
theorem dX12_teach_105 : decode cX12_teach 105 = .ok (.goto 5, 3) := by decide +kernel
theorem dX12_teach_108 : decode cX12_teach 108 = .ok (.iload 6, 2) := by decide +kernel
theorem dX12_teach_110 : decode cX12_teach 110 = .ok (.istore 6, 2) := by decide +kernel
theorem dX12_teach_112 : decode cX12_teach 112 = .ok (.iinc 7 1, 3) := by decide +kernel
theorem dX12_teach_115 : decode cX12_teach 115 = .ok (.goto (-64), 3) := by decide +kernel
theorem dX12_teach_118 : decode cX12_teach 118 = .ok (.iload 6, 2) := by decide +kernel
theorem dX12_teach_120 : decode cX12_teach 120 = .ok (.ireturn, 1) := by decide +kernel
set_option maxRecDepth 20000 in
theorem ggX12_teach_X12_isChild : GoodIn wsX12_teach wsX12_isChild := goodIn_r _ [5, 6, 7, 8, 4, 9, 105, 106, 107, 108, 109, 110, 111, 112, 113, 114, 115, 116, 117, 118, 119, 120, 121, 122, 123, 124, 125, 126, 127, 128, 129, 130, 131, 132, 133, 134, 135, 136] (by decide +kernel) (by decide +kernel)
set_option maxRecDepth 20000 in
theorem gX12_teach_X12_isChild : GoodIn wsX12_teach (wsV RX12 101 RX12 yX12_isChild wsX12_isChild) := goodIn_app (goodIn_of _ (by decide +kernel)) ggX12_teach_X12_isChild
set_option maxRecDepth 20000 in
theorem ggX12_teach_X12_isElder : GoodIn wsX12_teach wsX12_isElder := goodIn_r _ [12, 7, 8, 4, 9] (by decide +kernel) (by decide +kernel)
set_option maxRecDepth 20000 in
theorem gX12_teach_X12_isElder : GoodIn wsX12_teach (va_wsS RX12 112 yX12_isElder wsX12_isElder) := goodIn_app (goodIn_of _ (by decide +kernel)) ggX12_teach_X12_isElder
set_option maxRecDepth 20000 in
theorem ggX12_teach_X12_isWord : GoodIn wsX12_teach wsX12_isWord := goodIn_r _ [15, 7, 8, 4, 9] (by decide +kernel) (by decide +kernel)
set_option maxRecDepth 20000 in
theorem gX12_teach_X12_isWord : GoodIn wsX12_teach (va_wsS RX12 125 yX12_isWord wsX12_isWord) := goodIn_app (goodIn_of _ (by decide +kernel)) ggX12_teach_X12_isWord
set_option maxRecDepth 20000 in
theorem ggX12_teach_X12_tell : GoodIn wsX12_teach wsX12_tell := goodIn_r _ [19, 20, 21, 22, 23, 4, 24, 25, 6, 26, 27, 28, 29, 30, 31, 32, 33, 34, 35, 36, 37, 38, 39, 40, 41, 42, 43, 44, 45, 46, 47, 48, 49, 50, 51, 52, 53, 54, 55, 56, 57, 58, 59, 60, 61, 62, 63, 64, 65, 66, 67, 68, 69, 70, 71, 72, 73, 74, 75, 76, 77, 78, 79, 80, 81, 82, 83, 84, 85, 86, 87, 88, 89, 105, 106, 107, 108, 109, 110, 111, 112, 113, 114, 115, 116, 117, 118, 119, 120, 121, 122, 123, 124, 125, 126, 127, 128, 129, 130, 131, 132, 133, 134, 135, 136] (by decide +kernel) (by decide +kernel)
set_option maxRecDepth 20000 in
theorem gX12_teach_X12_tell : GoodIn wsX12_teach (wsV RX12 201 RX12 yX12_tell wsX12_tell) := goodIn_app (goodIn_of _ (by decide +kernel)) ggX12_teach_X12_tell
set_option maxRecDepth 20000 in
theorem ggX12_teach_X12_used : GoodIn wsX12_teach wsX12_used := goodIn_r _ [93, 6, 40, 41, 42, 4, 43, 105, 106, 107, 108, 109, 110, 111, 112, 113, 114, 115, 116, 117, 118, 119, 120, 121, 122, 123, 124, 125, 126, 127, 128, 129, 130, 131, 132, 133, 134, 135, 136] (by decide +kernel) (by decide +kernel)
set_option maxRecDepth 20000 in
theorem gX12_teach_X12_used : GoodIn wsX12_teach (wsV RX12 205 RX12 yX12_used wsX12_used) := goodIn_app (goodIn_of _ (by decide +kernel)) ggX12_teach_X12_used
set_option maxRecDepth 20000 in
theorem ggX12_teach_X12_one : GoodIn wsX12_teach wsX12_one := goodIn_r _ [39, 6, 105, 106, 107, 108, 109, 110, 111, 112, 113, 114, 115, 116, 117, 118, 119, 120, 121, 122, 123, 124, 125, 126, 127, 128, 129, 130, 131, 132, 133, 134, 135, 136] (by decide +kernel) (by decide +kernel)
set_option maxRecDepth 20000 in
theorem gX12_teach_X12_one : GoodIn wsX12_teach (wsV RX12 89 RX12 yX12_one wsX12_one) := goodIn_app (goodIn_of _ (by decide +kernel)) ggX12_teach_X12_one
set_option maxRecDepth 20000 in
theorem ggX12_teach_X12_many : GoodIn wsX12_teach wsX12_many := goodIn_r _ [96] (by decide +kernel) (by decide +kernel)
set_option maxRecDepth 20000 in
theorem gX12_teach_X12_many : GoodIn wsX12_teach (va_wsS RX12 238 yX12_many wsX12_many) := goodIn_app (goodIn_of _ (by decide +kernel)) ggX12_teach_X12_many
set_option maxRecDepth 20000 in
theorem ggX12_teach_X12_saysBy : GoodIn wsX12_teach wsX12_saysBy := goodIn_r _ [100, 20, 101, 102, 103, 4, 104, 6, 40, 41, 42, 43, 105, 106, 107, 108, 109, 110, 111, 112, 113, 114, 115, 116, 117, 118, 119, 120, 121, 122, 123, 124, 125, 126, 127, 128, 129, 130, 131, 132, 133, 134, 135, 136] (by decide +kernel) (by decide +kernel)
set_option maxRecDepth 20000 in
theorem gX12_teach_X12_saysBy : GoodIn wsX12_teach (wsV RX12 208 RX12 yX12_saysBy wsX12_saysBy) := goodIn_app (goodIn_of _ (by decide +kernel)) ggX12_teach_X12_saysBy
def fX12_teach_112 (rec51 : Int32 → Int32 → Int32 → Int32 → Int32 → Int32 → c_G → Option (c_G × Int32)) (a1 : Int32) (a2 : Int32) (a3 : Int32) (x2 : Int32) (x3 : Int32) (x4 : Int32) (x5 : Int32) (x6 : Int32) (x7 : Int32) (g : c_G) : Option (c_G × Int32) :=
  c_let (x7 + (1 : Int32)) fun v112001 => rec51 x2 x3 x4 x5 x6 v112001 g
set_option maxRecDepth 100000 in
set_option maxHeartbeats 4000000 in
theorem jX12_teach_112 {p : Program} {l : Launch} {e : Env} {s : State} {m : MethodId} {below : List Frame} {meth : Method} {c : Code} {D : va_G} {tc : Nat → ClassId} {ad : Nat → Nat} {A : Nat → Prop} {E : (Nat → Nat) × (Nat → Nat) × Nat} {a1 : Int32} {a2 : Int32} {a3 : Int32} {g' : c_G} {r : Int32} (C : c_C p s m meth c D tc A E RX12 wsX12_teach cX12_teach 8 (some .int) ([.ref (ad 0), .int a1, .int a2, .int a3] : List Value).toArray) (hD : c_D A ad TM) {rec51 : Int32 → Int32 → Int32 → Int32 → Int32 → Int32 → c_G → Option (c_G × Int32)} (hrec51 : ∀ (x2 : Int32) (x3 : Int32) (x4 : Int32) (x5 : Int32) (x6 : Int32) (x7 : Int32) (g : c_G), rec51 x2 x3 x4 x5 x6 x7 g = some (g', r) → ∀ (H : Heap) (locs : List Loc), va_P D vwCl (c_ws tc ad TM g) H → va_S A s.heap H locs → ∀ ls : Array Slot, lv_has ls 8 [(0, .ref (ad 0)), (2, .int x2), (3, .int x3), (4, .int x4), (5, .int x5), (6, .int x6), (7, .int x7)] → W p l e (c_rm 49) s m ([.ref (ad 0), .int a1, .int a2, .int a3] : List Value).toArray below meth c H locs 0 0 (MQ below (va_Qi (fun (x : Int32) (_ : Unit) => x = r) (fun _ t => va_P D vwCl (c_ws tc ad TM g') t.heap) A) ([.ref (ad 0), .int a1, .int a2, .int a3] : List Value).toArray s 0 0 A) (F0 m 51 ls [])) : ∀ (x2 : Int32) (x3 : Int32) (x4 : Int32) (x5 : Int32) (x6 : Int32) (x7 : Int32) (g : c_G), fX12_teach_112 rec51 a1 a2 a3 x2 x3 x4 x5 x6 x7 g = some (g', r) → ∀ (H : Heap) (locs : List Loc), va_P D vwCl (c_ws tc ad TM g) H → va_S A s.heap H locs → ∀ ls : Array Slot, lv_has ls 8 [(0, .ref (ad 0)), (2, .int x2), (3, .int x3), (4, .int x4), (5, .int x5), (6, .int x6), (7, .int x7)] → W p l e (c_rm 49) s m ([.ref (ad 0), .int a1, .int a2, .int a3] : List Value).toArray below meth c H locs 0 0 (MQ below (va_Qi (fun (x : Int32) (_ : Unit) => x = r) (fun _ t => va_P D vwCl (c_ws tc ad TM g') t.heap) A) ([.ref (ad 0), .int a1, .int a2, .int a3] : List Value).toArray s 0 0 A) (F0 m 112 ls []) := by
  obtain ⟨hx, hb, hr, hml, hts, hown, hlk, hK, hE⟩ := id C
  intro x2 x3 x4 x5 x6 x7 g hf H locs hP hS ls hl
  unfold fX12_teach_112 at hf
  obtain ⟨v112001, ev112001, hf⟩ := c_letE hf
  refine lv_iinc (v := v112001) (lv' := [(7, .int v112001), (0, .ref (ad 0)), (2, .int x2), (3, .int x3), (4, .int x4), (5, .int x5), (6, .int x6)]) hx hb dX12_teach_112 hl (k := 6) rfl (by rw [ev112001]; rfl) (by decide) rfl (fun ls hl => ?_)
  refine lv_goto (tgt := 51) hx hb dX12_teach_115 (by decide) ?_
  exact hrec51 x2 x3 x4 x5 x6 v112001 g hf _ _ hP hS _ (lv_sub hl [1, 2, 3, 4, 5, 6, 0] rfl)
def fX12_teach_110 (rec51 : Int32 → Int32 → Int32 → Int32 → Int32 → Int32 → c_G → Option (c_G × Int32)) (a1 : Int32) (a2 : Int32) (a3 : Int32) (x2 : Int32) (x3 : Int32) (x4 : Int32) (x5 : Int32) (x7 : Int32) (y0 : Int32) (g : c_G) : Option (c_G × Int32) :=
  fX12_teach_112 rec51 a1 a2 a3 x2 x3 x4 x5 y0 x7 g
set_option maxRecDepth 100000 in
set_option maxHeartbeats 4000000 in
theorem jX12_teach_110 {p : Program} {l : Launch} {e : Env} {s : State} {m : MethodId} {below : List Frame} {meth : Method} {c : Code} {D : va_G} {tc : Nat → ClassId} {ad : Nat → Nat} {A : Nat → Prop} {E : (Nat → Nat) × (Nat → Nat) × Nat} {a1 : Int32} {a2 : Int32} {a3 : Int32} {g' : c_G} {r : Int32} (C : c_C p s m meth c D tc A E RX12 wsX12_teach cX12_teach 8 (some .int) ([.ref (ad 0), .int a1, .int a2, .int a3] : List Value).toArray) (hD : c_D A ad TM) {rec51 : Int32 → Int32 → Int32 → Int32 → Int32 → Int32 → c_G → Option (c_G × Int32)} (hrec51 : ∀ (x2 : Int32) (x3 : Int32) (x4 : Int32) (x5 : Int32) (x6 : Int32) (x7 : Int32) (g : c_G), rec51 x2 x3 x4 x5 x6 x7 g = some (g', r) → ∀ (H : Heap) (locs : List Loc), va_P D vwCl (c_ws tc ad TM g) H → va_S A s.heap H locs → ∀ ls : Array Slot, lv_has ls 8 [(0, .ref (ad 0)), (2, .int x2), (3, .int x3), (4, .int x4), (5, .int x5), (6, .int x6), (7, .int x7)] → W p l e (c_rm 49) s m ([.ref (ad 0), .int a1, .int a2, .int a3] : List Value).toArray below meth c H locs 0 0 (MQ below (va_Qi (fun (x : Int32) (_ : Unit) => x = r) (fun _ t => va_P D vwCl (c_ws tc ad TM g') t.heap) A) ([.ref (ad 0), .int a1, .int a2, .int a3] : List Value).toArray s 0 0 A) (F0 m 51 ls [])) : ∀ (x2 : Int32) (x3 : Int32) (x4 : Int32) (x5 : Int32) (x7 : Int32) (y0 : Int32) (g : c_G), fX12_teach_110 rec51 a1 a2 a3 x2 x3 x4 x5 x7 y0 g = some (g', r) → ∀ (H : Heap) (locs : List Loc), va_P D vwCl (c_ws tc ad TM g) H → va_S A s.heap H locs → ∀ ls : Array Slot, lv_has ls 8 [(0, .ref (ad 0)), (2, .int x2), (3, .int x3), (4, .int x4), (5, .int x5), (7, .int x7)] → W p l e (c_rm 49) s m ([.ref (ad 0), .int a1, .int a2, .int a3] : List Value).toArray below meth c H locs 0 0 (MQ below (va_Qi (fun (x : Int32) (_ : Unit) => x = r) (fun _ t => va_P D vwCl (c_ws tc ad TM g') t.heap) A) ([.ref (ad 0), .int a1, .int a2, .int a3] : List Value).toArray s 0 0 A) (F0 m 110 ls [.int y0]) := by
  obtain ⟨hx, hb, hr, hml, hts, hown, hlk, hK, hE⟩ := id C
  intro x2 x3 x4 x5 x7 y0 g hf H locs hP hS ls hl
  unfold fX12_teach_110 at hf
  refine lv_istore (lv' := [(6, .int y0), (0, .ref (ad 0)), (2, .int x2), (3, .int x3), (4, .int x4), (5, .int x5), (7, .int x7)]) hx hb dX12_teach_110 hl (by decide) rfl (fun ls hl => ?_)
  exact jX12_teach_112 C hD hrec51 x2 x3 x4 x5 y0 x7 g hf _ _ hP hS _ (lv_sub hl [1, 2, 3, 4, 5, 0, 6] rfl)
def fX12_teach_87 (rec51 : Int32 → Int32 → Int32 → Int32 → Int32 → Int32 → c_G → Option (c_G × Int32)) (a1 : Int32) (a2 : Int32) (a3 : Int32) (x2 : Int32) (x3 : Int32) (x4 : Int32) (x5 : Int32) (x6 : Int32) (x7 : Int32) (g : c_G) : Option (c_G × Int32) :=
  (fX12_saysBy g x2 ((x5 ||| x7)) x4).bind fun r87001 => if r87001 = x3 then (fX12_teach_110 rec51 a1 a2 a3 x2 x3 x4 x5 x7 x7 g) else (fX12_teach_110 rec51 a1 a2 a3 x2 x3 x4 x5 x7 x6 g)
set_option maxRecDepth 100000 in
set_option maxHeartbeats 4000000 in
theorem jX12_teach_87 {p : Program} {l : Launch} {e : Env} {s : State} {m : MethodId} {below : List Frame} {meth : Method} {c : Code} {D : va_G} {tc : Nat → ClassId} {ad : Nat → Nat} {A : Nat → Prop} {E : (Nat → Nat) × (Nat → Nat) × Nat} {a1 : Int32} {a2 : Int32} {a3 : Int32} {g' : c_G} {r : Int32} (C : c_C p s m meth c D tc A E RX12 wsX12_teach cX12_teach 8 (some .int) ([.ref (ad 0), .int a1, .int a2, .int a3] : List Value).toArray) (hD : c_D A ad TM) {rec51 : Int32 → Int32 → Int32 → Int32 → Int32 → Int32 → c_G → Option (c_G × Int32)} (hrec51 : ∀ (x2 : Int32) (x3 : Int32) (x4 : Int32) (x5 : Int32) (x6 : Int32) (x7 : Int32) (g : c_G), rec51 x2 x3 x4 x5 x6 x7 g = some (g', r) → ∀ (H : Heap) (locs : List Loc), va_P D vwCl (c_ws tc ad TM g) H → va_S A s.heap H locs → ∀ ls : Array Slot, lv_has ls 8 [(0, .ref (ad 0)), (2, .int x2), (3, .int x3), (4, .int x4), (5, .int x5), (6, .int x6), (7, .int x7)] → W p l e (c_rm 49) s m ([.ref (ad 0), .int a1, .int a2, .int a3] : List Value).toArray below meth c H locs 0 0 (MQ below (va_Qi (fun (x : Int32) (_ : Unit) => x = r) (fun _ t => va_P D vwCl (c_ws tc ad TM g') t.heap) A) ([.ref (ad 0), .int a1, .int a2, .int a3] : List Value).toArray s 0 0 A) (F0 m 51 ls [])) : ∀ (x2 : Int32) (x3 : Int32) (x4 : Int32) (x5 : Int32) (x6 : Int32) (x7 : Int32) (g : c_G), fX12_teach_87 rec51 a1 a2 a3 x2 x3 x4 x5 x6 x7 g = some (g', r) → ∀ (H : Heap) (locs : List Loc), va_P D vwCl (c_ws tc ad TM g) H → va_S A s.heap H locs → ∀ ls : Array Slot, lv_has ls 8 [(0, .ref (ad 0)), (2, .int x2), (3, .int x3), (4, .int x4), (5, .int x5), (6, .int x6), (7, .int x7)] → W p l e (c_rm 49) s m ([.ref (ad 0), .int a1, .int a2, .int a3] : List Value).toArray below meth c H locs 0 0 (MQ below (va_Qi (fun (x : Int32) (_ : Unit) => x = r) (fun _ t => va_P D vwCl (c_ws tc ad TM g') t.heap) A) ([.ref (ad 0), .int a1, .int a2, .int a3] : List Value).toArray s 0 0 A) (F0 m 87 ls []) := by
  obtain ⟨hx, hb, hr, hml, hts, hown, hlk, hK, hE⟩ := id C
  intro x2 x3 x4 x5 x6 x7 g hf H locs hP hS ls hl
  unfold fX12_teach_87 at hf
  refine lv_aload_n hx hb dX12_teach_87 rfl (lv_at hl 0 rfl) ?_
  refine lv_iload_n hx hb dX12_teach_88 rfl (lv_at hl 1 rfl) ?_
  refine lv_iload hx hb dX12_teach_89 (lv_at hl 4 rfl) ?_
  refine lv_iload hx hb dX12_teach_91 (lv_at hl 6 rfl) ?_
  refine lv_ior hx hb dX12_teach_93 ?_
  refine lv_iload hx hb dX12_teach_94 (lv_at hl 3 rfl) ?_
  obtain ⟨r87001, hc87002, hf⟩ := c_bd hf
  refine c_goi (va_runV (As := [.int x2, .int (x5 ||| x7), .int x4]) (rest := []) ⟨hx, hb, hml, hown, hts⟩ (kX12_saysBy hD hc87002) (cwV 3 hts gX12_teach_X12_saysBy rfl rfl rfl (by decide +kernel) ⟨Nat.le_of_ble_eq_true rfl, Nat.le_of_ble_eq_true rfl⟩) (c_preV hK hP hE hS tM0 rfl) rfl rfl hl.1 rfl (lv_room (Nat.le_of_ble_eq_true rfl)) dX12_teach_96 ⟨Nat.zero_le _, Nat.zero_le _⟩) hS (fun H locs hP hS => ?_)
  refine lv_iload_n hx hb dX12_teach_99 rfl (lv_at hl 2 rfl) ?_
  refine lv_icmp_ne (tgt := 108) hx hb dX12_teach_100 (by decide) (fun c87003 => ?_) (fun c87003 => ?_)
  · have hf := c_ie c87003 hf
    refine lv_iload hx hb dX12_teach_108 (lv_at hl 5 rfl) ?_
    exact jX12_teach_110 C hD hrec51 x2 x3 x4 x5 x7 x6 g hf _ _ hP hS _ (lv_sub hl [0, 1, 2, 3, 4, 6] rfl)
  · have hf := c_it c87003 hf
    refine lv_iload hx hb dX12_teach_103 (lv_at hl 6 rfl) ?_
    refine lv_goto (tgt := 110) hx hb dX12_teach_105 (by decide) ?_
    exact jX12_teach_110 C hD hrec51 x2 x3 x4 x5 x7 x7 g hf _ _ hP hS _ (lv_sub hl [0, 1, 2, 3, 4, 6] rfl)
def fX12_teach_51  (a1 : Int32) (a2 : Int32) (a3 : Int32) : Nat → Int32 → Int32 → Int32 → Int32 → Int32 → Int32 → c_G → Option (c_G × Int32)
  | 0, _, _, _, _, _, _, _ => none
  | n + 1, x2, x3, x4, x5, x6, x7, g => if (4096 : Int32) ≤ x7 then (some (g, x6)) else (if (x7 &&& x5) = 0 then (if x6 = (-5 : Int32) then (fX12_teach_87 (fX12_teach_51 a1 a2 a3 n) a1 a2 a3 x2 x3 x4 x5 x6 x7 g) else ((fX12_many g x7).bind fun r51004 => (fX12_many g x6).bind fun r51006 => if r51006 ≤ r51004 then (fX12_teach_112 (fX12_teach_51 a1 a2 a3 n) a1 a2 a3 x2 x3 x4 x5 x6 x7 g) else (fX12_teach_87 (fX12_teach_51 a1 a2 a3 n) a1 a2 a3 x2 x3 x4 x5 x6 x7 g))) else (fX12_teach_112 (fX12_teach_51 a1 a2 a3 n) a1 a2 a3 x2 x3 x4 x5 x6 x7 g))
set_option maxRecDepth 100000 in
set_option maxHeartbeats 4000000 in
theorem jX12_teach_51 {p : Program} {l : Launch} {e : Env} {s : State} {m : MethodId} {below : List Frame} {meth : Method} {c : Code} {D : va_G} {tc : Nat → ClassId} {ad : Nat → Nat} {A : Nat → Prop} {E : (Nat → Nat) × (Nat → Nat) × Nat} {a1 : Int32} {a2 : Int32} {a3 : Int32} {g' : c_G} {r : Int32} (C : c_C p s m meth c D tc A E RX12 wsX12_teach cX12_teach 8 (some .int) ([.ref (ad 0), .int a1, .int a2, .int a3] : List Value).toArray) (hD : c_D A ad TM)  : ∀ (n : Nat) (x2 : Int32) (x3 : Int32) (x4 : Int32) (x5 : Int32) (x6 : Int32) (x7 : Int32) (g : c_G), fX12_teach_51 a1 a2 a3 n x2 x3 x4 x5 x6 x7 g = some (g', r) → ∀ (H : Heap) (locs : List Loc), va_P D vwCl (c_ws tc ad TM g) H → va_S A s.heap H locs → ∀ ls : Array Slot, lv_has ls 8 [(0, .ref (ad 0)), (2, .int x2), (3, .int x3), (4, .int x4), (5, .int x5), (6, .int x6), (7, .int x7)] → W p l e (c_rm 49) s m ([.ref (ad 0), .int a1, .int a2, .int a3] : List Value).toArray below meth c H locs 0 0 (MQ below (va_Qi (fun (x : Int32) (_ : Unit) => x = r) (fun _ t => va_P D vwCl (c_ws tc ad TM g') t.heap) A) ([.ref (ad 0), .int a1, .int a2, .int a3] : List Value).toArray s 0 0 A) (F0 m 51 ls []) := by
  obtain ⟨hx, hb, hr, hml, hts, hown, hlk, hK, hE⟩ := id C
  intro n
  induction n with
  | zero =>
    intro x2 x3 x4 x5 x6 x7 g hf
    cases hf
  | succ n ih =>
    intro x2 x3 x4 x5 x6 x7 g hf H locs hP hS ls hl
    unfold fX12_teach_51 at hf
    refine lv_iload hx hb dX12_teach_51 (lv_at hl 6 rfl) ?_
    refine lv_sipush (v := (4096 : Int32)) hx hb dX12_teach_53 (by decide) ?_
    refine lv_icmp_ge (tgt := 118) hx hb dX12_teach_56 (by decide) (fun c51001 => ?_) (fun c51001 => ?_)
    · have hf := c_it c51001 hf
      refine lv_iload hx hb dX12_teach_118 (lv_at hl 5 rfl) ?_
      exact c_iret hx hb hr hlk hP hS rfl (c_inj hf) dX12_teach_120
    · have hf := c_ie c51001 hf
      refine lv_iload hx hb dX12_teach_59 (lv_at hl 6 rfl) ?_
      refine lv_iload hx hb dX12_teach_61 (lv_at hl 4 rfl) ?_
      refine lv_iand hx hb dX12_teach_63 ?_
      refine lv_if_ne (tgt := 112) hx hb dX12_teach_64 (by decide) (fun c51002 => ?_) (fun c51002 => ?_)
      · have hf := c_ie c51002 hf
        exact jX12_teach_112 C hD ih x2 x3 x4 x5 x6 x7 g hf _ _ hP hS _ (lv_sub hl [0, 1, 2, 3, 4, 5, 6] rfl)
      · have hf := c_it c51002 hf
        refine lv_iload hx hb dX12_teach_67 (lv_at hl 5 rfl) ?_
        refine lv_bipush (v := (-5 : Int32)) hx hb dX12_teach_69 (by decide) ?_
        refine lv_icmp_eq (tgt := 87) hx hb dX12_teach_71 (by decide) (fun c51003 => ?_) (fun c51003 => ?_)
        · have hf := c_it c51003 hf
          exact jX12_teach_87 C hD ih x2 x3 x4 x5 x6 x7 g hf _ _ hP hS _ (lv_sub hl [0, 1, 2, 3, 4, 5, 6] rfl)
        · have hf := c_ie c51003 hf
          refine lv_iload hx hb dX12_teach_74 (lv_at hl 6 rfl) ?_
          obtain ⟨r51004, hc51005, hf⟩ := c_bd hf
          refine c_goi (va_runS (As := [.int x7]) (rest := []) ⟨hx, hb, hml, hown, hts⟩ (kX12_many hD hc51005) (va_cwS 1 hts gX12_teach_X12_many rfl rfl rfl (by decide +kernel) ⟨Nat.le_of_ble_eq_true rfl, Nat.le_of_ble_eq_true rfl⟩) (c_preS hK hP hE hS) rfl rfl hl.1 rfl (lv_room (Nat.le_of_ble_eq_true rfl)) dX12_teach_76 ⟨Nat.zero_le _, Nat.zero_le _⟩) hS (fun H locs hP hS => ?_)
          refine lv_iload hx hb dX12_teach_79 (lv_at hl 5 rfl) ?_
          obtain ⟨r51006, hc51007, hf⟩ := c_bd hf
          refine c_goi (va_runS (As := [.int x6]) (rest := [.int r51004]) ⟨hx, hb, hml, hown, hts⟩ (kX12_many hD hc51007) (va_cwS 1 hts gX12_teach_X12_many rfl rfl rfl (by decide +kernel) ⟨Nat.le_of_ble_eq_true rfl, Nat.le_of_ble_eq_true rfl⟩) (c_preS hK hP hE hS) rfl rfl hl.1 rfl (lv_room (Nat.le_of_ble_eq_true rfl)) dX12_teach_81 ⟨Nat.zero_le _, Nat.zero_le _⟩) hS (fun H locs hP hS => ?_)
          refine lv_icmp_ge (tgt := 112) hx hb dX12_teach_84 (by decide) (fun c51008 => ?_) (fun c51008 => ?_)
          · have hf := c_it c51008 hf
            exact jX12_teach_112 C hD ih x2 x3 x4 x5 x6 x7 g hf _ _ hP hS _ (lv_sub hl [0, 1, 2, 3, 4, 5, 6] rfl)
          · have hf := c_ie c51008 hf
            exact jX12_teach_87 C hD ih x2 x3 x4 x5 x6 x7 g hf _ _ hP hS _ (lv_sub hl [0, 1, 2, 3, 4, 5, 6] rfl)
def fX12_teach (g : c_G) (a1 : Int32) (a2 : Int32) (a3 : Int32) : Option (c_G × Int32) :=
  (fX12_isChild g a1).bind fun r1 => if r1 = 0 then (some (g, (-1 : Int32))) else (if (fX12_isElder a2) = 0 then (some (g, (-1 : Int32))) else (if (fX12_isWord a3) = 0 then (some (g, (-1 : Int32))) else ((fX12_tell g a1 a2).bind fun g7 => (fX12_used g7).bind fun r8 => (fX12_one g7 a1 ((2 : Int32))).bind fun r10 => fX12_teach_51 a1 a2 a3 c_F a2 a3 r8 r10 ((-5 : Int32)) ((0 : Int32)) g7)))
set_option maxRecDepth 100000 in
set_option maxHeartbeats 4000000 in
theorem kX12_teach {l : Launch} {D : va_G} {tc : Nat → ClassId} {ad : Nat → Nat} {A : Nat → Prop} {E : (Nat → Nat) × (Nat → Nat) × Nat} (hD : c_D A ad TM) {a1 : Int32} {a2 : Int32} {a3 : Int32} {g g' : c_G} {r : Int32} (hf : fX12_teach g a1 a2 a3 = some (g', r)) : c_Mi l yX12_teach wsX12_teach (c_rm 49) D tc ad A E TM ([.ref (ad 0), .int a1, .int a2, .int a3] : List Value) g g' r := by
  refine c_ofW (bytes := cX12_teach) (maxL := 8) (ret := (some .int)) (by decide) rfl (Nat.le_of_ble_eq_true rfl) ?_
  intro p e s m below meth c ls C hP hS hl
  unfold fX12_teach at hf
  obtain ⟨hx, hb, hr, hml, hts, hown, hlk, hK, hE⟩ := id C
  have hl : lv_has ls 8 [(0, .ref (ad 0)), (1, .int a1), (2, .int a2), (3, .int a3)] := hl
  refine lv_aload_n hx hb dX12_teach_0 rfl (lv_at hl 0 rfl) ?_
  refine lv_iload_n hx hb dX12_teach_1 rfl (lv_at hl 1 rfl) ?_
  obtain ⟨r1, hc2, hf⟩ := c_bd hf
  refine c_goi (va_runV (As := [.int a1]) (rest := []) ⟨hx, hb, hml, hown, hts⟩ (kX12_isChild hD hc2) (cwV 1 hts gX12_teach_X12_isChild rfl rfl rfl (by decide +kernel) ⟨Nat.le_of_ble_eq_true rfl, Nat.le_of_ble_eq_true rfl⟩) (c_preV hK hP hE hS tM0 rfl) rfl rfl hl.1 rfl (lv_room (Nat.le_of_ble_eq_true rfl)) dX12_teach_2 ⟨Nat.zero_le _, Nat.zero_le _⟩) hS (fun H locs hP hS => ?_)
  refine lv_if_eq (tgt := 22) hx hb dX12_teach_5 (by decide) (fun c3 => ?_) (fun c3 => ?_)
  · have hf := c_it c3 hf
    refine lv_iconst (v := (-1 : Int32)) hx hb dX12_teach_22 (by decide) ?_
    exact c_iret hx hb hr hlk hP hS rfl (c_inj hf) dX12_teach_23
  · have hf := c_ie c3 hf
    refine lv_iload_n hx hb dX12_teach_8 rfl (lv_at hl 2 rfl) ?_
    refine c_goi (va_runS (As := [.int a2]) (rest := []) ⟨hx, hb, hml, hown, hts⟩ (kX12_isElder (T := TM) (g := g) rfl) (va_cwS 1 hts gX12_teach_X12_isElder rfl rfl rfl (by decide +kernel) ⟨Nat.le_of_ble_eq_true rfl, Nat.le_of_ble_eq_true rfl⟩) (c_preS hK hP hE hS) rfl rfl hl.1 rfl (lv_room (Nat.le_of_ble_eq_true rfl)) dX12_teach_9 ⟨Nat.zero_le _, Nat.zero_le _⟩) hS (fun H locs hP hS => ?_)
    refine lv_if_eq (tgt := 22) hx hb dX12_teach_12 (by decide) (fun c4 => ?_) (fun c4 => ?_)
    · have hf := c_it c4 hf
      refine lv_iconst (v := (-1 : Int32)) hx hb dX12_teach_22 (by decide) ?_
      exact c_iret hx hb hr hlk hP hS rfl (c_inj hf) dX12_teach_23
    · have hf := c_ie c4 hf
      refine lv_iload_n hx hb dX12_teach_15 rfl (lv_at hl 3 rfl) ?_
      refine c_goi (va_runS (As := [.int a3]) (rest := []) ⟨hx, hb, hml, hown, hts⟩ (kX12_isWord (T := TM) (g := g) rfl) (va_cwS 1 hts gX12_teach_X12_isWord rfl rfl rfl (by decide +kernel) ⟨Nat.le_of_ble_eq_true rfl, Nat.le_of_ble_eq_true rfl⟩) (c_preS hK hP hE hS) rfl rfl hl.1 rfl (lv_room (Nat.le_of_ble_eq_true rfl)) dX12_teach_16 ⟨Nat.zero_le _, Nat.zero_le _⟩) hS (fun H locs hP hS => ?_)
      refine lv_if_ne (tgt := 24) hx hb dX12_teach_19 (by decide) (fun c5 => ?_) (fun c5 => ?_)
      · have hf := c_ie c5 hf
        refine lv_aload_n hx hb dX12_teach_24 rfl (lv_at hl 0 rfl) ?_
        refine lv_iload_n hx hb dX12_teach_25 rfl (lv_at hl 1 rfl) ?_
        refine lv_iload_n hx hb dX12_teach_26 rfl (lv_at hl 2 rfl) ?_
        obtain ⟨g7, hc6, hf⟩ := c_bd hf
        refine c_gov (va_runV (As := [.int a1, .int a2]) (rest := []) ⟨hx, hb, hml, hown, hts⟩ (kX12_tell hD hc6) (cwV 2 hts gX12_teach_X12_tell rfl rfl rfl (by decide +kernel) ⟨Nat.le_of_ble_eq_true rfl, Nat.le_of_ble_eq_true rfl⟩) (c_preV hK hP hE hS tM0 rfl) rfl rfl hl.1 rfl (lv_room (Nat.le_of_ble_eq_true rfl)) dX12_teach_27 ⟨Nat.zero_le _, Nat.zero_le _⟩) hS (fun H locs hP hS => ?_)
        refine lv_aload_n hx hb dX12_teach_30 rfl (lv_at hl 0 rfl) ?_
        obtain ⟨r8, hc9, hf⟩ := c_bd hf
        refine c_goi (va_runV (As := []) (rest := []) ⟨hx, hb, hml, hown, hts⟩ (kX12_used hD hc9) (cwV 0 hts gX12_teach_X12_used rfl rfl rfl (by decide +kernel) ⟨Nat.le_of_ble_eq_true rfl, Nat.le_of_ble_eq_true rfl⟩) (c_preV hK hP hE hS tM0 rfl) rfl rfl hl.1 rfl (lv_room (Nat.le_of_ble_eq_true rfl)) dX12_teach_31 ⟨Nat.zero_le _, Nat.zero_le _⟩) hS (fun H locs hP hS => ?_)
        refine lv_istore (lv' := [(4, .int r8), (0, .ref (ad 0)), (1, .int a1), (2, .int a2), (3, .int a3)]) hx hb dX12_teach_34 hl (by decide) rfl (fun ls hl => ?_)
        refine lv_aload_n hx hb dX12_teach_36 rfl (lv_at hl 1 rfl) ?_
        refine lv_iload_n hx hb dX12_teach_37 rfl (lv_at hl 2 rfl) ?_
        refine lv_iconst (v := (2 : Int32)) hx hb dX12_teach_38 (by decide) ?_
        obtain ⟨r10, hc11, hf⟩ := c_bd hf
        refine c_goi (va_runV (As := [.int a1, .int (2 : Int32)]) (rest := []) ⟨hx, hb, hml, hown, hts⟩ (kX12_one hD hc11) (cwV 2 hts gX12_teach_X12_one rfl rfl rfl (by decide +kernel) ⟨Nat.le_of_ble_eq_true rfl, Nat.le_of_ble_eq_true rfl⟩) (c_preV hK hP hE hS tM0 rfl) rfl rfl hl.1 rfl (lv_room (Nat.le_of_ble_eq_true rfl)) dX12_teach_39 ⟨Nat.zero_le _, Nat.zero_le _⟩) hS (fun H locs hP hS => ?_)
        refine lv_istore (lv' := [(5, .int r10), (4, .int r8), (0, .ref (ad 0)), (1, .int a1), (2, .int a2), (3, .int a3)]) hx hb dX12_teach_42 hl (by decide) rfl (fun ls hl => ?_)
        refine lv_bipush (v := (-5 : Int32)) hx hb dX12_teach_44 (by decide) ?_
        refine lv_istore (lv' := [(6, .int (-5 : Int32)), (5, .int r10), (4, .int r8), (0, .ref (ad 0)), (1, .int a1), (2, .int a2), (3, .int a3)]) hx hb dX12_teach_46 hl (by decide) rfl (fun ls hl => ?_)
        refine lv_iconst (v := (0 : Int32)) hx hb dX12_teach_48 (by decide) ?_
        refine lv_istore (lv' := [(7, .int (0 : Int32)), (6, .int (-5 : Int32)), (5, .int r10), (4, .int r8), (0, .ref (ad 0)), (1, .int a1), (2, .int a2), (3, .int a3)]) hx hb dX12_teach_49 hl (by decide) rfl (fun ls hl => ?_)
        exact jX12_teach_51 C hD c_F a2 a3 r8 r10 ((-5 : Int32)) ((0 : Int32)) g7 hf _ _ hP hS _ (lv_sub hl [4, 6, 7, 3, 2, 1, 0] rfl)
      · have hf := c_it c5 hf
        refine lv_iconst (v := (-1 : Int32)) hx hb dX12_teach_22 (by decide) ?_
        exact c_iret hx hb hr hlk hP hS rfl (c_inj hf) dX12_teach_23
theorem i_X12_hear_X12 : ∀ w ∈ u_ws RX12 TX12 32, w ∈ wsX12_hear := c_inP [13, 14, 15, 16, 17, 18, 19, 20, 21, 22, 23, 24, 25, 26, 27, 28, 29, 30, 31, 32, 33, 34, 35, 36, 37, 38, 39, 40, 41, 42, 43, 44] (by decide +kernel)
theorem dX12_hear_0 : decode cX12_hear 0 = .ok (.iload_n 1, 1) := by decide +kernel
theorem dX12_hear_1 : decode cX12_hear 1 = .ok (.iconst (-1), 1) := by decide +kernel
theorem dX12_hear_2 : decode cX12_hear 2 = .ok (.if_icmp .ne 13, 3) := by decide +kernel
theorem dX12_hear_5 : decode cX12_hear 5 = .ok (.aload_n 0, 1) := by decide +kernel
theorem dX12_hear_6 : decode cX12_hear 6 = .ok (.getfield 15, 3) := by decide +kernel
theorem dX12_hear_9 : decode cX12_hear 9 = .ok (.bipush 82, 2) := by decide +kernel
theorem dX12_hear_11 : decode cX12_hear 11 = .ok (.iconst 0, 1) := by decide +kernel
theorem dX12_hear_12 : decode cX12_hear 12 = .ok (.iastore, 1) := by decide +kernel
theorem dX12_hear_13 : decode cX12_hear 13 = .ok (.iconst 0, 1) := by decide +kernel
theorem dX12_hear_14 : decode cX12_hear 14 = .ok (.ireturn, 1) := by decide +kernel
theorem dX12_hear_15 : decode cX12_hear 15 = .ok (.aload_n 0, 1) := by decide +kernel
theorem dX12_hear_16 : decode cX12_hear 16 = .ok (.iload_n 1, 1) := by decide +kernel
theorem dX12_hear_17 : decode cX12_hear 17 = .ok (.invokevirtual 101, 3) := by decide +kernel
theorem dX12_hear_20 : decode cX12_hear 20 = .ok (.ifCond .eq 20, 3) := by decide +kernel
theorem dX12_hear_23 : decode cX12_hear 23 = .ok (.iload_n 2, 1) := by decide +kernel
theorem dX12_hear_24 : decode cX12_hear 24 = .ok (.invokestatic 112, 3) := by decide +kernel
theorem dX12_hear_27 : decode cX12_hear 27 = .ok (.ifCond .eq 13, 3) := by decide +kernel
theorem dX12_hear_30 : decode cX12_hear 30 = .ok (.iload_n 3, 1) := by decide +kernel
theorem dX12_hear_31 : decode cX12_hear 31 = .ok (.iconst (-1), 1) := by decide +kernel
theorem dX12_hear_32 : decode cX12_hear 32 = .ok (.bipush 11, 2) := by decide +kernel
theorem dX12_hear_34 : decode cX12_hear 34 = .ok (.invokestatic 85, 3) := by decide +kernel
theorem dX12_hear_37 : decode cX12_hear 37 = .ok (.ifCond .ne 5, 3) := by decide +kernel
theorem dX12_hear_40 : decode cX12_hear 40 = .ok (.iconst (-1), 1) := by decide +kernel
theorem dX12_hear_41 : decode cX12_hear 41 = .ok (.ireturn, 1) := by decide +kernel
theorem dX12_hear_42 : decode cX12_hear 42 = .ok (.aload_n 0, 1) := by decide +kernel
theorem dX12_hear_43 : decode cX12_hear 43 = .ok (.getfield 15, 3) := by decide +kernel
theorem dX12_hear_46 : decode cX12_hear 46 = .ok (.bipush 82, 2) := by decide +kernel
theorem dX12_hear_48 : decode cX12_hear 48 = .ok (.iaload, 1) := by decide +kernel
theorem dX12_hear_49 : decode cX12_hear 49 = .ok (.iconst 5, 1) := by decide +kernel
theorem dX12_hear_50 : decode cX12_hear 50 = .ok (.if_icmp .ne 6, 3) := by decide +kernel
theorem dX12_hear_53 : decode cX12_hear 53 = .ok (.bipush (-4), 2) := by decide +kernel
theorem dX12_hear_55 : decode cX12_hear 55 = .ok (.ireturn, 1) := by decide +kernel
theorem dX12_hear_56 : decode cX12_hear 56 = .ok (.bipush 83, 2) := by decide +kernel
theorem dX12_hear_58 : decode cX12_hear 58 = .ok (.iconst 3, 1) := by decide +kernel
theorem dX12_hear_59 : decode cX12_hear 59 = .ok (.aload_n 0, 1) := by decide +kernel
theorem dX12_hear_60 : decode cX12_hear 60 = .ok (.getfield 15, 3) := by decide +kernel
theorem dX12_hear_63 : decode cX12_hear 63 = .ok (.bipush 82, 2) := by decide +kernel
theorem dX12_hear_65 : decode cX12_hear 65 = .ok (.iaload, 1) := by decide +kernel
theorem dX12_hear_66 : decode cX12_hear 66 = .ok (.imul, 1) := by decide +kernel
theorem dX12_hear_67 : decode cX12_hear 67 = .ok (.iadd, 1) := by decide +kernel
theorem dX12_hear_68 : decode cX12_hear 68 = .ok (.istore 4, 2) := by decide +kernel
theorem dX12_hear_70 : decode cX12_hear 70 = .ok (.aload_n 0, 1) := by decide +kernel
theorem dX12_hear_71 : decode cX12_hear 71 = .ok (.getfield 15, 3) := by decide +kernel
theorem dX12_hear_74 : decode cX12_hear 74 = .ok (.iload 4, 2) := by decide +kernel
theorem dX12_hear_76 : decode cX12_hear 76 = .ok (.iload_n 1, 1) := by decide +kernel
theorem dX12_hear_77 : decode cX12_hear 77 = .ok (.iastore, 1) := by decide +kernel
theorem dX12_hear_78 : decode cX12_hear 78 = .ok (.aload_n 0, 1) := by decide +kernel
theorem dX12_hear_79 : decode cX12_hear 79 = .ok (.getfield 15, 3) := by decide +kernel
theorem dX12_hear_82 : decode cX12_hear 82 = .ok (.iload 4, 2) := by decide +kernel
theorem dX12_hear_84 : decode cX12_hear 84 = .ok (.iconst 1, 1) := by decide +kernel
theorem dX12_hear_85 : decode cX12_hear 85 = .ok (.iadd, 1) := by decide +kernel
theorem dX12_hear_86 : decode cX12_hear 86 = .ok (.iload_n 2, 1) := by decide +kernel
theorem dX12_hear_87 : decode cX12_hear 87 = .ok (.iastore, 1) := by decide +kernel
theorem dX12_hear_88 : decode cX12_hear 88 = .ok (.aload_n 0, 1) := by decide +kernel
theorem dX12_hear_89 : decode cX12_hear 89 = .ok (.getfield 15, 3) := by decide +kernel
theorem dX12_hear_92 : decode cX12_hear 92 = .ok (.iload 4, 2) := by decide +kernel
theorem dX12_hear_94 : decode cX12_hear 94 = .ok (.iconst 2, 1) := by decide +kernel
theorem dX12_hear_95 : decode cX12_hear 95 = .ok (.iadd, 1) := by decide +kernel
theorem dX12_hear_96 : decode cX12_hear 96 = .ok (.iload_n 3, 1) := by decide +kernel
theorem dX12_hear_97 : decode cX12_hear 97 = .ok (.iastore, 1) := by decide +kernel
theorem dX12_hear_98 : decode cX12_hear 98 = .ok (.aload_n 0, 1) := by decide +kernel
theorem dX12_hear_99 : decode cX12_hear 99 = .ok (.getfield 15, 3) := by decide +kernel
theorem dX12_hear_102 : decode cX12_hear 102 = .ok (.bipush 82, 2) := by decide +kernel
theorem dX12_hear_104 : decode cX12_hear 104 = .ok (.dup2, 1) := by decide +kernel
theorem dX12_hear_105 : decode cX12_hear 105 = .ok (.iaload, 1) := by decide +kernel
theorem dX12_hear_106 : decode cX12_hear 106 = .ok (.iconst 1, 1) := by decide +kernel
theorem dX12_hear_107 : decode cX12_hear 107 = .ok (.iadd, 1) := by decide +kernel
theorem dX12_hear_108 : decode cX12_hear 108 = .ok (.iastore, 1) := by decide +kernel
theorem dX12_hear_109 : decode cX12_hear 109 = .ok (.aload_n 0, 1) := by decide +kernel
theorem dX12_hear_110 : decode cX12_hear 110 = .ok (.getfield 15, 3) := by decide +kernel
theorem dX12_hear_113 : decode cX12_hear 113 = .ok (.bipush 82, 2) := by decide +kernel
theorem dX12_hear_115 : decode cX12_hear 115 = .ok (.iaload, 1) := by decide +kernel
theorem dX12_hear_116 : decode cX12_hear 116 = .ok (.ireturn, 1) := by decide +kernel
set_option maxRecDepth 20000 in
theorem ggX12_hear_X12_isChild : GoodIn wsX12_hear wsX12_isChild := goodIn_r _ [6, 1, 7, 8, 5, 9, 13, 14, 15, 16, 17, 18, 19, 20, 21, 22, 23, 24, 25, 26, 27, 28, 29, 30, 31, 32, 33, 34, 35, 36, 37, 38, 39, 40, 41, 42, 43, 44] (by decide +kernel) (by decide +kernel)
set_option maxRecDepth 20000 in
theorem gX12_hear_X12_isChild : GoodIn wsX12_hear (wsV RX12 101 RX12 yX12_isChild wsX12_isChild) := goodIn_app (goodIn_of _ (by decide +kernel)) ggX12_hear_X12_isChild
set_option maxRecDepth 20000 in
theorem ggX12_hear_X12_isElder : GoodIn wsX12_hear wsX12_isElder := goodIn_r _ [12, 7, 8, 5, 9] (by decide +kernel) (by decide +kernel)
set_option maxRecDepth 20000 in
theorem gX12_hear_X12_isElder : GoodIn wsX12_hear (va_wsS RX12 112 yX12_isElder wsX12_isElder) := goodIn_app (goodIn_of _ (by decide +kernel)) ggX12_hear_X12_isElder
set_option maxRecDepth 20000 in
theorem ggX12_hear_X12_isIn : GoodIn wsX12_hear wsX12_isIn := goodIn_r _ [9] (by decide +kernel) (by decide +kernel)
set_option maxRecDepth 20000 in
theorem gX12_hear_X12_isIn : GoodIn wsX12_hear (va_wsS RX12 85 yX12_isIn wsX12_isIn) := goodIn_app (goodIn_of _ (by decide +kernel)) ggX12_hear_X12_isIn
def fX12_hear (g : c_G) (a1 : Int32) (a2 : Int32) (a3 : Int32) : Option (c_G × Int32) :=
  if a1 = (-1 : Int32) then (c_let (c_si g 1 82 (0 : Int32)) fun g17 => some (g17, (0 : Int32))) else ((fX12_isChild g a1).bind fun r2 => if r2 = 0 then (some (g, (-1 : Int32))) else (if (fX12_isElder a2) = 0 then (some (g, (-1 : Int32))) else (if (fX12_isIn a3 ((-1 : Int32)) ((11 : Int32))) = 0 then (some (g, (-1 : Int32))) else (if (g.1 1 82) = (5 : Int32) then (some (g, (-4 : Int32))) else (c_let (((83 : Int32) + ((3 : Int32) * (g.1 1 82)))) fun v8 => if c_in (v8) (136) = true then c_let (c_si g 1 (v8).toNatClampNeg a1) fun g10 => if c_in ((v8 + (1 : Int32))) (136) = true then c_let (c_si g10 1 ((v8 + (1 : Int32))).toNatClampNeg a2) fun g12 => if c_in ((v8 + (2 : Int32))) (136) = true then c_let (c_si g12 1 ((v8 + (2 : Int32))).toNatClampNeg a3) fun g14 => c_let (((g14.1 1 82) + (1 : Int32))) fun v15 => c_let (c_si g14 1 82 v15) fun g16 => some (g16, (g16.1 1 82)) else none else none else none)))))
set_option maxRecDepth 100000 in
set_option maxHeartbeats 4000000 in
theorem kX12_hear {l : Launch} {D : va_G} {tc : Nat → ClassId} {ad : Nat → Nat} {A : Nat → Prop} {E : (Nat → Nat) × (Nat → Nat) × Nat} (hD : c_D A ad TM) {a1 : Int32} {a2 : Int32} {a3 : Int32} {g g' : c_G} {r : Int32} (hf : fX12_hear g a1 a2 a3 = some (g', r)) : c_Mi l yX12_hear wsX12_hear (c_rm 2) D tc ad A E TM ([.ref (ad 0), .int a1, .int a2, .int a3] : List Value) g g' r := by
  refine c_ofW (bytes := cX12_hear) (maxL := 5) (ret := (some .int)) (by decide) rfl (Nat.le_of_ble_eq_true rfl) ?_
  intro p e s m below meth c ls C hP hS hl
  unfold fX12_hear at hf
  obtain ⟨hx, hb, hr, hml, hts, hown, hlk, hK, hE⟩ := id C
  have hl : lv_has ls 5 [(0, .ref (ad 0)), (1, .int a1), (2, .int a2), (3, .int a3)] := hl
  refine lv_iload_n hx hb dX12_hear_0 rfl (lv_at hl 1 rfl) ?_
  refine lv_iconst (v := (-1 : Int32)) hx hb dX12_hear_1 (by decide) ?_
  refine lv_icmp_ne (tgt := 15) hx hb dX12_hear_2 (by decide) (fun c1 => ?_) (fun c1 => ?_)
  · have hf := c_ie c1 hf
    refine lv_aload_n hx hb dX12_hear_15 rfl (lv_at hl 0 rfl) ?_
    refine lv_iload_n hx hb dX12_hear_16 rfl (lv_at hl 1 rfl) ?_
    obtain ⟨r2, hc3, hf⟩ := c_bd hf
    refine c_goi (va_runV (As := [.int a1]) (rest := []) ⟨hx, hb, hml, hown, hts⟩ (kX12_isChild hD hc3) (cwV 1 hts gX12_hear_X12_isChild rfl rfl rfl (by decide +kernel) ⟨Nat.le_of_ble_eq_true rfl, Nat.le_of_ble_eq_true rfl⟩) (c_preV hK hP hE hS tM0 rfl) rfl rfl hl.1 rfl (lv_room (Nat.le_of_ble_eq_true rfl)) dX12_hear_17 ⟨Nat.zero_le _, Nat.zero_le _⟩) hS (fun H locs hP hS => ?_)
    refine lv_if_eq (tgt := 40) hx hb dX12_hear_20 (by decide) (fun c4 => ?_) (fun c4 => ?_)
    · have hf := c_it c4 hf
      refine lv_iconst (v := (-1 : Int32)) hx hb dX12_hear_40 (by decide) ?_
      exact c_iret hx hb hr hlk hP hS rfl (c_inj hf) dX12_hear_41
    · have hf := c_ie c4 hf
      refine lv_iload_n hx hb dX12_hear_23 rfl (lv_at hl 2 rfl) ?_
      refine c_goi (va_runS (As := [.int a2]) (rest := []) ⟨hx, hb, hml, hown, hts⟩ (kX12_isElder (T := TM) (g := g) rfl) (va_cwS 1 hts gX12_hear_X12_isElder rfl rfl rfl (by decide +kernel) ⟨Nat.le_of_ble_eq_true rfl, Nat.le_of_ble_eq_true rfl⟩) (c_preS hK hP hE hS) rfl rfl hl.1 rfl (lv_room (Nat.le_of_ble_eq_true rfl)) dX12_hear_24 ⟨Nat.zero_le _, Nat.zero_le _⟩) hS (fun H locs hP hS => ?_)
      refine lv_if_eq (tgt := 40) hx hb dX12_hear_27 (by decide) (fun c5 => ?_) (fun c5 => ?_)
      · have hf := c_it c5 hf
        refine lv_iconst (v := (-1 : Int32)) hx hb dX12_hear_40 (by decide) ?_
        exact c_iret hx hb hr hlk hP hS rfl (c_inj hf) dX12_hear_41
      · have hf := c_ie c5 hf
        refine lv_iload_n hx hb dX12_hear_30 rfl (lv_at hl 3 rfl) ?_
        refine lv_iconst (v := (-1 : Int32)) hx hb dX12_hear_31 (by decide) ?_
        refine lv_bipush (v := (11 : Int32)) hx hb dX12_hear_32 (by decide) ?_
        refine c_goi (va_runS (As := [.int a3, .int (-1 : Int32), .int (11 : Int32)]) (rest := []) ⟨hx, hb, hml, hown, hts⟩ (kX12_isIn (T := TM) (g := g) rfl) (va_cwS 3 hts gX12_hear_X12_isIn rfl rfl rfl (by decide +kernel) ⟨Nat.le_of_ble_eq_true rfl, Nat.le_of_ble_eq_true rfl⟩) (c_preS hK hP hE hS) rfl rfl hl.1 rfl (lv_room (Nat.le_of_ble_eq_true rfl)) dX12_hear_34 ⟨Nat.zero_le _, Nat.zero_le _⟩) hS (fun H locs hP hS => ?_)
        refine lv_if_ne (tgt := 42) hx hb dX12_hear_37 (by decide) (fun c6 => ?_) (fun c6 => ?_)
        · have hf := c_ie c6 hf
          refine lv_aload_n hx hb dX12_hear_42 rfl (lv_at hl 0 rfl) ?_
          refine c_get hx hb hts i_X12_hear_X12 hown hK hP 0 tM0 rfl 0 (by decide) (hts _ (List.mem_of_getElem? (i := 1) rfl)) (fun _ h9 => h9) rfl (v := .ref (ad 1)) rfl dX12_hear_43 ?_
          refine lv_bipush (v := (82 : Int32)) hx hb dX12_hear_46 (by decide) ?_
          refine c_iald (j := 82) hx hb hK hP 1 tM1 (by decide) (c_inV (by decide)) dX12_hear_48 ?_
          refine lv_iconst (v := (5 : Int32)) hx hb dX12_hear_49 (by decide) ?_
          refine lv_icmp_ne (tgt := 56) hx hb dX12_hear_50 (by decide) (fun c7 => ?_) (fun c7 => ?_)
          · have hf := c_ie c7 hf
            refine lv_bipush (v := (83 : Int32)) hx hb dX12_hear_56 (by decide) ?_
            refine lv_iconst (v := (3 : Int32)) hx hb dX12_hear_58 (by decide) ?_
            refine lv_aload_n hx hb dX12_hear_59 rfl (lv_at hl 0 rfl) ?_
            refine c_get hx hb hts i_X12_hear_X12 hown hK hP 0 tM0 rfl 0 (by decide) (hts _ (List.mem_of_getElem? (i := 1) rfl)) (fun _ h9 => h9) rfl (v := .ref (ad 1)) rfl dX12_hear_60 ?_
            refine lv_bipush (v := (82 : Int32)) hx hb dX12_hear_63 (by decide) ?_
            refine c_iald (j := 82) hx hb hK hP 1 tM1 (by decide) (c_inV (by decide)) dX12_hear_65 ?_
            refine lv_imul hx hb dX12_hear_66 ?_
            refine lv_iadd hx hb dX12_hear_67 ?_
            obtain ⟨v8, ev8, hf⟩ := c_letE hf
            refine c_topi ev8 ?_
            refine lv_istore (lv' := [(4, .int v8), (0, .ref (ad 0)), (1, .int a1), (2, .int a2), (3, .int a3)]) hx hb dX12_hear_68 hl (by decide) rfl (fun ls hl => ?_)
            refine lv_aload_n hx hb dX12_hear_70 rfl (lv_at hl 1 rfl) ?_
            refine c_get hx hb hts i_X12_hear_X12 hown hK hP 0 tM0 rfl 0 (by decide) (hts _ (List.mem_of_getElem? (i := 1) rfl)) (fun _ h9 => h9) rfl (v := .ref (ad 1)) rfl dX12_hear_71 ?_
            refine lv_iload hx hb dX12_hear_74 (lv_at hl 0 rfl) ?_
            refine lv_iload_n hx hb dX12_hear_76 rfl (lv_at hl 2 rfl) ?_
            obtain ⟨hi9, hf⟩ := c_gd hf
            obtain ⟨g10, eg10, hf⟩ := c_letE hf
            refine c_iast (j := (v8).toNatClampNeg) hx hb hK hP hD hS 1 tM1 rfl (c_inV hi9) eg10 dX12_hear_77 (fun H locs hP hS => ?_)
            refine lv_aload_n hx hb dX12_hear_78 rfl (lv_at hl 1 rfl) ?_
            refine c_get hx hb hts i_X12_hear_X12 hown hK hP 0 tM0 rfl 0 (by decide) (hts _ (List.mem_of_getElem? (i := 1) rfl)) (fun _ h9 => h9) rfl (v := .ref (ad 1)) rfl dX12_hear_79 ?_
            refine lv_iload hx hb dX12_hear_82 (lv_at hl 0 rfl) ?_
            refine lv_iconst (v := (1 : Int32)) hx hb dX12_hear_84 (by decide) ?_
            refine lv_iadd hx hb dX12_hear_85 ?_
            refine lv_iload_n hx hb dX12_hear_86 rfl (lv_at hl 3 rfl) ?_
            obtain ⟨hi11, hf⟩ := c_gd hf
            obtain ⟨g12, eg12, hf⟩ := c_letE hf
            refine c_iast (j := ((v8 + (1 : Int32))).toNatClampNeg) hx hb hK hP hD hS 1 tM1 rfl (c_inV hi11) eg12 dX12_hear_87 (fun H locs hP hS => ?_)
            refine lv_aload_n hx hb dX12_hear_88 rfl (lv_at hl 1 rfl) ?_
            refine c_get hx hb hts i_X12_hear_X12 hown hK hP 0 tM0 rfl 0 (by decide) (hts _ (List.mem_of_getElem? (i := 1) rfl)) (fun _ h9 => h9) rfl (v := .ref (ad 1)) rfl dX12_hear_89 ?_
            refine lv_iload hx hb dX12_hear_92 (lv_at hl 0 rfl) ?_
            refine lv_iconst (v := (2 : Int32)) hx hb dX12_hear_94 (by decide) ?_
            refine lv_iadd hx hb dX12_hear_95 ?_
            refine lv_iload_n hx hb dX12_hear_96 rfl (lv_at hl 4 rfl) ?_
            obtain ⟨hi13, hf⟩ := c_gd hf
            obtain ⟨g14, eg14, hf⟩ := c_letE hf
            refine c_iast (j := ((v8 + (2 : Int32))).toNatClampNeg) hx hb hK hP hD hS 1 tM1 rfl (c_inV hi13) eg14 dX12_hear_97 (fun H locs hP hS => ?_)
            refine lv_aload_n hx hb dX12_hear_98 rfl (lv_at hl 1 rfl) ?_
            refine c_get hx hb hts i_X12_hear_X12 hown hK hP 0 tM0 rfl 0 (by decide) (hts _ (List.mem_of_getElem? (i := 1) rfl)) (fun _ h9 => h9) rfl (v := .ref (ad 1)) rfl dX12_hear_99 ?_
            refine lv_bipush (v := (82 : Int32)) hx hb dX12_hear_102 (by decide) ?_
            refine lv_dup2_11 hx hb dX12_hear_104 rfl rfl ?_
            refine c_iald (j := 82) hx hb hK hP 1 tM1 (by decide) (c_inV (by decide)) dX12_hear_105 ?_
            refine lv_iconst (v := (1 : Int32)) hx hb dX12_hear_106 (by decide) ?_
            refine lv_iadd hx hb dX12_hear_107 ?_
            obtain ⟨v15, ev15, hf⟩ := c_letE hf
            refine c_topi ev15 ?_
            obtain ⟨g16, eg16, hf⟩ := c_letE hf
            refine c_iast (j := 82) hx hb hK hP hD hS 1 tM1 (by decide) (c_inV (by decide)) eg16 dX12_hear_108 (fun H locs hP hS => ?_)
            refine lv_aload_n hx hb dX12_hear_109 rfl (lv_at hl 1 rfl) ?_
            refine c_get hx hb hts i_X12_hear_X12 hown hK hP 0 tM0 rfl 0 (by decide) (hts _ (List.mem_of_getElem? (i := 1) rfl)) (fun _ h9 => h9) rfl (v := .ref (ad 1)) rfl dX12_hear_110 ?_
            refine lv_bipush (v := (82 : Int32)) hx hb dX12_hear_113 (by decide) ?_
            refine c_iald (j := 82) hx hb hK hP 1 tM1 (by decide) (c_inV (by decide)) dX12_hear_115 ?_
            exact c_iret hx hb hr hlk hP hS rfl (c_inj hf) dX12_hear_116
          · have hf := c_it c7 hf
            refine lv_bipush (v := (-4 : Int32)) hx hb dX12_hear_53 (by decide) ?_
            exact c_iret hx hb hr hlk hP hS rfl (c_inj hf) dX12_hear_55
        · have hf := c_it c6 hf
          refine lv_iconst (v := (-1 : Int32)) hx hb dX12_hear_40 (by decide) ?_
          exact c_iret hx hb hr hlk hP hS rfl (c_inj hf) dX12_hear_41
  · have hf := c_it c1 hf
    refine lv_aload_n hx hb dX12_hear_5 rfl (lv_at hl 0 rfl) ?_
    refine c_get hx hb hts i_X12_hear_X12 hown hK hP 0 tM0 rfl 0 (by decide) (hts _ (List.mem_of_getElem? (i := 1) rfl)) (fun _ h9 => h9) rfl (v := .ref (ad 1)) rfl dX12_hear_6 ?_
    refine lv_bipush (v := (82 : Int32)) hx hb dX12_hear_9 (by decide) ?_
    refine lv_iconst (v := (0 : Int32)) hx hb dX12_hear_11 (by decide) ?_
    obtain ⟨g17, eg17, hf⟩ := c_letE hf
    refine c_iast (j := 82) hx hb hK hP hD hS 1 tM1 (by decide) (c_inV (by decide)) eg17 dX12_hear_12 (fun H locs hP hS => ?_)
    refine lv_iconst (v := (0 : Int32)) hx hb dX12_hear_13 (by decide) ?_
    exact c_iret hx hb hr hlk hP hS rfl (c_inj hf) dX12_hear_14
theorem dX12_can_0 : decode cX12_can 0 = .ok (.aload_n 0, 1) := by decide +kernel
theorem dX12_can_1 : decode cX12_can 1 = .ok (.iload_n 1, 1) := by decide +kernel
theorem dX12_can_2 : decode cX12_can 2 = .ok (.invokevirtual 101, 3) := by decide +kernel
theorem dX12_can_5 : decode cX12_can 5 = .ok (.ifCond .eq 12, 3) := by decide +kernel
theorem dX12_can_8 : decode cX12_can 8 = .ok (.iload_n 2, 1) := by decide +kernel
theorem dX12_can_9 : decode cX12_can 9 = .ok (.iconst 0, 1) := by decide +kernel
theorem dX12_can_10 : decode cX12_can 10 = .ok (.iconst 1, 1) := by decide +kernel
theorem dX12_can_11 : decode cX12_can 11 = .ok (.invokestatic 85, 3) := by decide +kernel
theorem dX12_can_14 : decode cX12_can 14 = .ok (.ifCond .ne 5, 3) := by decide +kernel
theorem dX12_can_17 : decode cX12_can 17 = .ok (.iconst (-1), 1) := by decide +kernel
theorem dX12_can_18 : decode cX12_can 18 = .ok (.ireturn, 1) := by decide +kernel
theorem dX12_can_19 : decode cX12_can 19 = .ok (.aload_n 0, 1) := by decide +kernel
theorem dX12_can_20 : decode cX12_can 20 = .ok (.iload_n 1, 1) := by decide +kernel
theorem dX12_can_21 : decode cX12_can 21 = .ok (.iconst 1, 1) := by decide +kernel
theorem dX12_can_22 : decode cX12_can 22 = .ok (.invokevirtual 89, 3) := by decide +kernel
theorem dX12_can_25 : decode cX12_can 25 = .ok (.istore_n 3, 1) := by decide +kernel
theorem dX12_can_26 : decode cX12_can 26 = .ok (.aload_n 0, 1) := by decide +kernel
theorem dX12_can_27 : decode cX12_can 27 = .ok (.invokevirtual 205, 3) := by decide +kernel
theorem dX12_can_30 : decode cX12_can 30 = .ok (.istore 4, 2) := by decide +kernel
theorem dX12_can_32 : decode cX12_can 32 = .ok (.iconst 0, 1) := by decide +kernel
theorem dX12_can_33 : decode cX12_can 33 = .ok (.istore 5, 2) := by decide +kernel
theorem dX12_can_35 : decode cX12_can 35 = .ok (.bipush (-5), 2) := by decide +kernel
theorem dX12_can_37 : decode cX12_can 37 = .ok (.istore 6, 2) := by decide +kernel
theorem dX12_can_39 : decode cX12_can 39 = .ok (.bipush 9, 2) := by decide +kernel
theorem dX12_can_41 : decode cX12_can 41 = .ok (.istore 7, 2) := by decide +kernel
theorem dX12_can_43 : decode cX12_can 43 = .ok (.iload 7, 2) := by decide +kernel
theorem dX12_can_45 : decode cX12_can 45 = .ok (.ifCond .lt 67, 3) := by decide +kernel
theorem dX12_can_48 : decode cX12_can 48 = .ok (.aload_n 0, 1) := by decide +kernel
theorem dX12_can_49 : decode cX12_can 49 = .ok (.iload_n 1, 1) := by decide +kernel
theorem dX12_can_50 : decode cX12_can 50 = .ok (.iconst 1, 1) := by decide +kernel
theorem dX12_can_51 : decode cX12_can 51 = .ok (.iload 7, 2) := by decide +kernel
theorem dX12_can_53 : decode cX12_can 53 = .ok (.invokevirtual 97, 3) := by decide +kernel
theorem dX12_can_56 : decode cX12_can 56 = .ok (.pop, 1) := by decide +kernel
theorem dX12_can_57 : decode cX12_can 57 = .ok (.aload_n 0, 1) := by decide +kernel
theorem dX12_can_58 : decode cX12_can 58 = .ok (.iload_n 1, 1) := by decide +kernel
theorem dX12_can_59 : decode cX12_can 59 = .ok (.invokevirtual 241, 3) := by decide +kernel
theorem dX12_can_62 : decode cX12_can 62 = .ok (.aload_n 0, 1) := by decide +kernel
theorem dX12_can_63 : decode cX12_can 63 = .ok (.iload_n 1, 1) := by decide +kernel
theorem dX12_can_64 : decode cX12_can 64 = .ok (.aload_n 0, 1) := by decide +kernel
theorem dX12_can_65 : decode cX12_can 65 = .ok (.iload_n 1, 1) := by decide +kernel
theorem dX12_can_66 : decode cX12_can 66 = .ok (.iconst 2, 1) := by decide +kernel
theorem dX12_can_67 : decode cX12_can 67 = .ok (.invokevirtual 89, 3) := by decide +kernel
theorem dX12_can_70 : decode cX12_can 70 = .ok (.iload 4, 2) := by decide +kernel
theorem dX12_can_72 : decode cX12_can 72 = .ok (.invokevirtual 244, 3) := by decide +kernel
theorem dX12_can_75 : decode cX12_can 75 = .ok (.istore 8, 2) := by decide +kernel
theorem dX12_can_77 : decode cX12_can 77 = .ok (.iload 5, 2) := by decide +kernel
theorem dX12_can_79 : decode cX12_can 79 = .ok (.iload 8, 2) := by decide +kernel
theorem dX12_can_81 : decode cX12_can 81 = .ok (.ifCond .eq 7, 3) := by decide +kernel
theorem dX12_can_84 : decode cX12_can 84 = .ok (.iconst 1, 1) := by decide +kernel
theorem dX12_can_85 : decode cX12_can 85 = .ok (.goto 4, 3) := by decide +kernel
theorem dX12_can_88 : decode cX12_can 88 = .ok (.iconst 0, 1) := by decide +kernel
theorem dX12_can_89 : decode cX12_can 89 = .ok (.iadd, 1) := by decide +kernel
theorem dX12_can_90 : decode cX12_can 90 = .ok (.istore 5, 2) := by decide +kernel
theorem dX12_can_92 : decode cX12_can 92 = .ok (.iload 8, 2) := by decide +kernel
theorem dX12_can_94 : decode cX12_can 94 = .ok (.ifCond .eq 8, 3) := by decide +kernel
theorem dX12_can_97 : decode cX12_can 97 = .ok (.iload 7, 2) := by decide +kernel
theorem dX12_can_99 : decode cX12_can 99 = .ok (.goto 5, 3) := by decide +kernel
theorem dX12_can_102 : decode cX12_can 102 = .ok (.iload 6, 2) := by decide +kernel
theorem dX12_can_104 : decode cX12_can 104 = .ok (.istore 6, 2) := by decide +kernel
theorem dX12_can_106 : decode cX12_can 106 = .ok (.iinc 7 (-1), 3) := by decide +kernel
theorem dX12_can_109 : decode cX12_can 109 = .ok (.goto (-66), 3) := by decide +kernel
theorem dX12_can_112 : decode cX12_can 112 = .ok (.aload_n 0, 1) := by decide +kernel
theorem dX12_can_113 : decode cX12_can 113 = .ok (.iload_n 1, 1) := by decide +kernel
theorem dX12_can_114 : decode cX12_can 114 = .ok (.iconst 1, 1) := by decide +kernel
theorem dX12_can_115 : decode cX12_can 115 = .ok (.iload_n 3, 1) := by decide +kernel
theorem dX12_can_116 : decode cX12_can 116 = .ok (.invokevirtual 97, 3) := by decide +kernel
theorem dX12_can_119 : decode cX12_can 119 = .ok (.pop, 1) := by decide +kernel
theorem dX12_can_120 : decode cX12_can 120 = .ok (.iload_n 2, 1) := by decide +kernel
theorem dX12_can_121 : decode cX12_can 121 = .ok (.ifCond .ne 8, 3) := by decide +kernel
theorem dX12_can_124 : decode cX12_can 124 = .ok (.iload 5, 2) := by decide +kernel
theorem dX12_can_126 : decode cX12_can 126 = .ok (.goto 5, 3) := by decide +kernel
theorem dX12_can_129 : decode cX12_can 129 = .ok (.iload 6, 2) := by decide +kernel
theorem dX12_can_131 : decode cX12_can 131 = .ok (.ireturn, 1) := by decide +kernel
set_option maxRecDepth 20000 in
theorem ggX12_can_X12_isChild : GoodIn wsX12_can wsX12_isChild := goodIn_r _ [5, 6, 7, 8, 4, 9, 108, 109, 110, 111, 112, 113, 114, 115, 116, 117, 118, 119, 120, 121, 122, 123, 124, 125, 126, 127, 128, 129, 130, 131, 132, 133, 134, 135, 136, 137, 138, 139] (by decide +kernel) (by decide +kernel)
set_option maxRecDepth 20000 in
theorem gX12_can_X12_isChild : GoodIn wsX12_can (wsV RX12 101 RX12 yX12_isChild wsX12_isChild) := goodIn_app (goodIn_of _ (by decide +kernel)) ggX12_can_X12_isChild
set_option maxRecDepth 20000 in
theorem ggX12_can_X12_isIn : GoodIn wsX12_can wsX12_isIn := goodIn_r _ [9] (by decide +kernel) (by decide +kernel)
set_option maxRecDepth 20000 in
theorem gX12_can_X12_isIn : GoodIn wsX12_can (va_wsS RX12 85 yX12_isIn wsX12_isIn) := goodIn_app (goodIn_of _ (by decide +kernel)) ggX12_can_X12_isIn
set_option maxRecDepth 20000 in
theorem ggX12_can_X12_one : GoodIn wsX12_can wsX12_one := goodIn_r _ [13, 6, 108, 109, 110, 111, 112, 113, 114, 115, 116, 117, 118, 119, 120, 121, 122, 123, 124, 125, 126, 127, 128, 129, 130, 131, 132, 133, 134, 135, 136, 137, 138, 139] (by decide +kernel) (by decide +kernel)
set_option maxRecDepth 20000 in
theorem gX12_can_X12_one : GoodIn wsX12_can (wsV RX12 89 RX12 yX12_one wsX12_one) := goodIn_app (goodIn_of _ (by decide +kernel)) ggX12_can_X12_one
set_option maxRecDepth 20000 in
theorem ggX12_can_X12_used : GoodIn wsX12_can wsX12_used := goodIn_r _ [17, 6, 18, 19, 20, 4, 21, 108, 109, 110, 111, 112, 113, 114, 115, 116, 117, 118, 119, 120, 121, 122, 123, 124, 125, 126, 127, 128, 129, 130, 131, 132, 133, 134, 135, 136, 137, 138, 139] (by decide +kernel) (by decide +kernel)
set_option maxRecDepth 20000 in
theorem gX12_can_X12_used : GoodIn wsX12_can (wsV RX12 205 RX12 yX12_used wsX12_used) := goodIn_app (goodIn_of _ (by decide +kernel)) ggX12_can_X12_used
set_option maxRecDepth 20000 in
theorem ggX12_can_X12_change : GoodIn wsX12_can wsX12_change := goodIn_r _ [25, 6, 10, 11, 12, 4, 13, 108, 109, 110, 111, 112, 113, 114, 115, 116, 117, 118, 119, 120, 121, 122, 123, 124, 125, 126, 127, 128, 129, 130, 131, 132, 133, 134, 135, 136, 137, 138, 139] (by decide +kernel) (by decide +kernel)
set_option maxRecDepth 20000 in
theorem gX12_can_X12_change : GoodIn wsX12_can (wsV RX12 97 RX12 yX12_change wsX12_change) := goodIn_app (goodIn_of _ (by decide +kernel)) ggX12_can_X12_change
set_option maxRecDepth 20000 in
theorem ggX12_can_X12_tellAll : GoodIn wsX12_can wsX12_tellAll := goodIn_r _ [29, 30, 31, 32, 4, 33, 34, 35, 36, 37, 38, 39, 6, 40, 41, 42, 43, 44, 45, 46, 47, 48, 49, 10, 11, 12, 13, 18, 19, 20, 21, 50, 51, 52, 53, 54, 55, 56, 57, 58, 59, 60, 61, 62, 63, 64, 65, 66, 67, 68, 69, 70, 71, 72, 73, 74, 75, 76, 77, 78, 79, 80, 81, 82, 83, 84, 85, 86, 87, 88, 89, 90, 91, 92, 93, 94, 95, 108, 109, 110, 111, 112, 113, 114, 115, 116, 117, 118, 119, 120, 121, 122, 123, 124, 125, 126, 127, 128, 129, 130, 131, 132, 133, 134, 135, 136, 137, 138, 139] (by decide +kernel) (by decide +kernel)
set_option maxRecDepth 20000 in
theorem gX12_can_X12_tellAll : GoodIn wsX12_can (wsV RX12 241 RX12 yX12_tellAll wsX12_tellAll) := goodIn_app (goodIn_of _ (by decide +kernel)) ggX12_can_X12_tellAll
set_option maxRecDepth 20000 in
theorem ggX12_can_X12_isAllHeard : GoodIn wsX12_can wsX12_isAllHeard := goodIn_r _ [99, 6, 100, 101, 102, 4, 103, 34, 104, 105, 106, 107, 18, 19, 20, 21, 108, 109, 110, 111, 112, 113, 114, 115, 116, 117, 118, 119, 120, 121, 122, 123, 124, 125, 126, 127, 128, 129, 130, 131, 132, 133, 134, 135, 136, 137, 138, 139] (by decide +kernel) (by decide +kernel)
set_option maxRecDepth 20000 in
theorem gX12_can_X12_isAllHeard : GoodIn wsX12_can (wsV RX12 244 RX12 yX12_isAllHeard wsX12_isAllHeard) := goodIn_app (goodIn_of _ (by decide +kernel)) ggX12_can_X12_isAllHeard
def fX12_can_104 (rec43 : Int32 → Int32 → Int32 → Int32 → Int32 → Int32 → Int32 → c_G → Option (c_G × Int32)) (a1 : Int32) (a2 : Int32) (x1 : Int32) (x2 : Int32) (x3 : Int32) (x4 : Int32) (x5 : Int32) (x7 : Int32) (y0 : Int32) (g : c_G) : Option (c_G × Int32) :=
  c_let (x7 + (-1 : Int32)) fun v104001 => rec43 x1 x2 x3 x4 x5 y0 v104001 g
set_option maxRecDepth 100000 in
set_option maxHeartbeats 4000000 in
theorem jX12_can_104 {p : Program} {l : Launch} {e : Env} {s : State} {m : MethodId} {below : List Frame} {meth : Method} {c : Code} {D : va_G} {tc : Nat → ClassId} {ad : Nat → Nat} {A : Nat → Prop} {E : (Nat → Nat) × (Nat → Nat) × Nat} {a1 : Int32} {a2 : Int32} {g' : c_G} {r : Int32} (C : c_C p s m meth c D tc A E RX12 wsX12_can cX12_can 9 (some .int) ([.ref (ad 0), .int a1, .int a2] : List Value).toArray) (hD : c_D A ad TM) {rec43 : Int32 → Int32 → Int32 → Int32 → Int32 → Int32 → Int32 → c_G → Option (c_G × Int32)} (hrec43 : ∀ (x1 : Int32) (x2 : Int32) (x3 : Int32) (x4 : Int32) (x5 : Int32) (x6 : Int32) (x7 : Int32) (g : c_G), rec43 x1 x2 x3 x4 x5 x6 x7 g = some (g', r) → ∀ (H : Heap) (locs : List Loc), va_P D vwCl (c_ws tc ad TM g) H → va_S A s.heap H locs → ∀ ls : Array Slot, lv_has ls 9 [(0, .ref (ad 0)), (1, .int x1), (2, .int x2), (3, .int x3), (4, .int x4), (5, .int x5), (6, .int x6), (7, .int x7)] → W p l e (c_rm 50) s m ([.ref (ad 0), .int a1, .int a2] : List Value).toArray below meth c H locs 0 0 (MQ below (va_Qi (fun (x : Int32) (_ : Unit) => x = r) (fun _ t => va_P D vwCl (c_ws tc ad TM g') t.heap) A) ([.ref (ad 0), .int a1, .int a2] : List Value).toArray s 0 0 A) (F0 m 43 ls [])) : ∀ (x1 : Int32) (x2 : Int32) (x3 : Int32) (x4 : Int32) (x5 : Int32) (x7 : Int32) (y0 : Int32) (g : c_G), fX12_can_104 rec43 a1 a2 x1 x2 x3 x4 x5 x7 y0 g = some (g', r) → ∀ (H : Heap) (locs : List Loc), va_P D vwCl (c_ws tc ad TM g) H → va_S A s.heap H locs → ∀ ls : Array Slot, lv_has ls 9 [(0, .ref (ad 0)), (1, .int x1), (2, .int x2), (3, .int x3), (4, .int x4), (5, .int x5), (7, .int x7)] → W p l e (c_rm 50) s m ([.ref (ad 0), .int a1, .int a2] : List Value).toArray below meth c H locs 0 0 (MQ below (va_Qi (fun (x : Int32) (_ : Unit) => x = r) (fun _ t => va_P D vwCl (c_ws tc ad TM g') t.heap) A) ([.ref (ad 0), .int a1, .int a2] : List Value).toArray s 0 0 A) (F0 m 104 ls [.int y0]) := by
  obtain ⟨hx, hb, hr, hml, hts, hown, hlk, hK, hE⟩ := id C
  intro x1 x2 x3 x4 x5 x7 y0 g hf H locs hP hS ls hl
  unfold fX12_can_104 at hf
  refine lv_istore (lv' := [(6, .int y0), (0, .ref (ad 0)), (1, .int x1), (2, .int x2), (3, .int x3), (4, .int x4), (5, .int x5), (7, .int x7)]) hx hb dX12_can_104 hl (by decide) rfl (fun ls hl => ?_)
  obtain ⟨v104001, ev104001, hf⟩ := c_letE hf
  refine lv_iinc (v := v104001) (lv' := [(7, .int v104001), (6, .int y0), (0, .ref (ad 0)), (1, .int x1), (2, .int x2), (3, .int x3), (4, .int x4), (5, .int x5)]) hx hb dX12_can_106 hl (k := 7) rfl (by rw [ev104001]; rfl) (by decide) rfl (fun ls hl => ?_)
  refine lv_goto (tgt := 43) hx hb dX12_can_109 (by decide) ?_
  exact hrec43 x1 x2 x3 x4 x5 y0 v104001 g hf _ _ hP hS _ (lv_sub hl [2, 3, 4, 5, 6, 7, 1, 0] rfl)
def fX12_can_89 (rec43 : Int32 → Int32 → Int32 → Int32 → Int32 → Int32 → Int32 → c_G → Option (c_G × Int32)) (a1 : Int32) (a2 : Int32) (x1 : Int32) (x2 : Int32) (x3 : Int32) (x4 : Int32) (x6 : Int32) (x7 : Int32) (x8 : Int32) (y0 : Int32) (y1 : Int32) (g : c_G) : Option (c_G × Int32) :=
  c_let ((y0 + y1)) fun v89001 => if x8 = 0 then (fX12_can_104 rec43 a1 a2 x1 x2 x3 x4 v89001 x7 x6 g) else (fX12_can_104 rec43 a1 a2 x1 x2 x3 x4 v89001 x7 x7 g)
set_option maxRecDepth 100000 in
set_option maxHeartbeats 4000000 in
theorem jX12_can_89 {p : Program} {l : Launch} {e : Env} {s : State} {m : MethodId} {below : List Frame} {meth : Method} {c : Code} {D : va_G} {tc : Nat → ClassId} {ad : Nat → Nat} {A : Nat → Prop} {E : (Nat → Nat) × (Nat → Nat) × Nat} {a1 : Int32} {a2 : Int32} {g' : c_G} {r : Int32} (C : c_C p s m meth c D tc A E RX12 wsX12_can cX12_can 9 (some .int) ([.ref (ad 0), .int a1, .int a2] : List Value).toArray) (hD : c_D A ad TM) {rec43 : Int32 → Int32 → Int32 → Int32 → Int32 → Int32 → Int32 → c_G → Option (c_G × Int32)} (hrec43 : ∀ (x1 : Int32) (x2 : Int32) (x3 : Int32) (x4 : Int32) (x5 : Int32) (x6 : Int32) (x7 : Int32) (g : c_G), rec43 x1 x2 x3 x4 x5 x6 x7 g = some (g', r) → ∀ (H : Heap) (locs : List Loc), va_P D vwCl (c_ws tc ad TM g) H → va_S A s.heap H locs → ∀ ls : Array Slot, lv_has ls 9 [(0, .ref (ad 0)), (1, .int x1), (2, .int x2), (3, .int x3), (4, .int x4), (5, .int x5), (6, .int x6), (7, .int x7)] → W p l e (c_rm 50) s m ([.ref (ad 0), .int a1, .int a2] : List Value).toArray below meth c H locs 0 0 (MQ below (va_Qi (fun (x : Int32) (_ : Unit) => x = r) (fun _ t => va_P D vwCl (c_ws tc ad TM g') t.heap) A) ([.ref (ad 0), .int a1, .int a2] : List Value).toArray s 0 0 A) (F0 m 43 ls [])) : ∀ (x1 : Int32) (x2 : Int32) (x3 : Int32) (x4 : Int32) (x6 : Int32) (x7 : Int32) (x8 : Int32) (y0 : Int32) (y1 : Int32) (g : c_G), fX12_can_89 rec43 a1 a2 x1 x2 x3 x4 x6 x7 x8 y0 y1 g = some (g', r) → ∀ (H : Heap) (locs : List Loc), va_P D vwCl (c_ws tc ad TM g) H → va_S A s.heap H locs → ∀ ls : Array Slot, lv_has ls 9 [(0, .ref (ad 0)), (1, .int x1), (2, .int x2), (3, .int x3), (4, .int x4), (6, .int x6), (7, .int x7), (8, .int x8)] → W p l e (c_rm 50) s m ([.ref (ad 0), .int a1, .int a2] : List Value).toArray below meth c H locs 0 0 (MQ below (va_Qi (fun (x : Int32) (_ : Unit) => x = r) (fun _ t => va_P D vwCl (c_ws tc ad TM g') t.heap) A) ([.ref (ad 0), .int a1, .int a2] : List Value).toArray s 0 0 A) (F0 m 89 ls [.int y1, .int y0]) := by
  obtain ⟨hx, hb, hr, hml, hts, hown, hlk, hK, hE⟩ := id C
  intro x1 x2 x3 x4 x6 x7 x8 y0 y1 g hf H locs hP hS ls hl
  unfold fX12_can_89 at hf
  refine lv_iadd hx hb dX12_can_89 ?_
  obtain ⟨v89001, ev89001, hf⟩ := c_letE hf
  refine c_topi ev89001 ?_
  refine lv_istore (lv' := [(5, .int v89001), (0, .ref (ad 0)), (1, .int x1), (2, .int x2), (3, .int x3), (4, .int x4), (6, .int x6), (7, .int x7), (8, .int x8)]) hx hb dX12_can_90 hl (by decide) rfl (fun ls hl => ?_)
  refine lv_iload hx hb dX12_can_92 (lv_at hl 8 rfl) ?_
  refine lv_if_eq (tgt := 102) hx hb dX12_can_94 (by decide) (fun c89002 => ?_) (fun c89002 => ?_)
  · have hf := c_it c89002 hf
    refine lv_iload hx hb dX12_can_102 (lv_at hl 6 rfl) ?_
    exact jX12_can_104 C hD hrec43 x1 x2 x3 x4 v89001 x7 x6 g hf _ _ hP hS _ (lv_sub hl [1, 2, 3, 4, 5, 0, 7] rfl)
  · have hf := c_ie c89002 hf
    refine lv_iload hx hb dX12_can_97 (lv_at hl 7 rfl) ?_
    refine lv_goto (tgt := 104) hx hb dX12_can_99 (by decide) ?_
    exact jX12_can_104 C hD hrec43 x1 x2 x3 x4 v89001 x7 x7 g hf _ _ hP hS _ (lv_sub hl [1, 2, 3, 4, 5, 0, 7] rfl)
def fX12_can_43  (a1 : Int32) (a2 : Int32) : Nat → Int32 → Int32 → Int32 → Int32 → Int32 → Int32 → Int32 → c_G → Option (c_G × Int32)
  | 0, _, _, _, _, _, _, _, _ => none
  | n + 1, x1, x2, x3, x4, x5, x6, x7, g => if x7 < 0 then (c_b2 (fX12_change g x1 ((1 : Int32)) x3) fun g43003 r43004 => if x2 = 0 then (some (g43003, x5)) else (some (g43003, x6))) else (c_b2 (fX12_change g x1 ((1 : Int32)) x7) fun g43007 r43008 => (fX12_tellAll g43007 x1).bind fun g43010 => (fX12_one g43010 x1 ((2 : Int32))).bind fun r43011 => (fX12_isAllHeard g43010 x1 r43011 x4).bind fun r43013 => if r43013 = 0 then (fX12_can_89 (fX12_can_43 a1 a2 n) a1 a2 x1 x2 x3 x4 x6 x7 r43013 x5 ((0 : Int32)) g43010) else (fX12_can_89 (fX12_can_43 a1 a2 n) a1 a2 x1 x2 x3 x4 x6 x7 r43013 x5 ((1 : Int32)) g43010))
set_option maxRecDepth 100000 in
set_option maxHeartbeats 4000000 in
theorem jX12_can_43 {p : Program} {l : Launch} {e : Env} {s : State} {m : MethodId} {below : List Frame} {meth : Method} {c : Code} {D : va_G} {tc : Nat → ClassId} {ad : Nat → Nat} {A : Nat → Prop} {E : (Nat → Nat) × (Nat → Nat) × Nat} {a1 : Int32} {a2 : Int32} {g' : c_G} {r : Int32} (C : c_C p s m meth c D tc A E RX12 wsX12_can cX12_can 9 (some .int) ([.ref (ad 0), .int a1, .int a2] : List Value).toArray) (hD : c_D A ad TM)  : ∀ (n : Nat) (x1 : Int32) (x2 : Int32) (x3 : Int32) (x4 : Int32) (x5 : Int32) (x6 : Int32) (x7 : Int32) (g : c_G), fX12_can_43 a1 a2 n x1 x2 x3 x4 x5 x6 x7 g = some (g', r) → ∀ (H : Heap) (locs : List Loc), va_P D vwCl (c_ws tc ad TM g) H → va_S A s.heap H locs → ∀ ls : Array Slot, lv_has ls 9 [(0, .ref (ad 0)), (1, .int x1), (2, .int x2), (3, .int x3), (4, .int x4), (5, .int x5), (6, .int x6), (7, .int x7)] → W p l e (c_rm 50) s m ([.ref (ad 0), .int a1, .int a2] : List Value).toArray below meth c H locs 0 0 (MQ below (va_Qi (fun (x : Int32) (_ : Unit) => x = r) (fun _ t => va_P D vwCl (c_ws tc ad TM g') t.heap) A) ([.ref (ad 0), .int a1, .int a2] : List Value).toArray s 0 0 A) (F0 m 43 ls []) := by
  obtain ⟨hx, hb, hr, hml, hts, hown, hlk, hK, hE⟩ := id C
  intro n
  induction n with
  | zero =>
    intro x1 x2 x3 x4 x5 x6 x7 g hf
    cases hf
  | succ n ih =>
    intro x1 x2 x3 x4 x5 x6 x7 g hf H locs hP hS ls hl
    unfold fX12_can_43 at hf
    refine lv_iload hx hb dX12_can_43 (lv_at hl 7 rfl) ?_
    refine lv_if_lt (tgt := 112) hx hb dX12_can_45 (by decide) (fun c43001 => ?_) (fun c43001 => ?_)
    · have hf := c_it c43001 hf
      refine lv_aload_n hx hb dX12_can_112 rfl (lv_at hl 0 rfl) ?_
      refine lv_iload_n hx hb dX12_can_113 rfl (lv_at hl 1 rfl) ?_
      refine lv_iconst (v := (1 : Int32)) hx hb dX12_can_114 (by decide) ?_
      refine lv_iload_n hx hb dX12_can_115 rfl (lv_at hl 3 rfl) ?_
      obtain ⟨g43003, r43004, hc43002, hf⟩ := c_b2E hf
      refine c_goi (va_runV (As := [.int x1, .int (1 : Int32), .int x3]) (rest := []) ⟨hx, hb, hml, hown, hts⟩ (kX12_change hD hc43002) (cwV 3 hts gX12_can_X12_change rfl rfl rfl (by decide +kernel) ⟨Nat.le_of_ble_eq_true rfl, Nat.le_of_ble_eq_true rfl⟩) (c_preV hK hP hE hS tM0 rfl) rfl rfl hl.1 rfl (lv_room (Nat.le_of_ble_eq_true rfl)) dX12_can_116 ⟨Nat.zero_le _, Nat.zero_le _⟩) hS (fun H locs hP hS => ?_)
      refine lv_pop hx hb dX12_can_119 rfl ?_
      refine lv_iload_n hx hb dX12_can_120 rfl (lv_at hl 2 rfl) ?_
      refine lv_if_ne (tgt := 129) hx hb dX12_can_121 (by decide) (fun c43005 => ?_) (fun c43005 => ?_)
      · have hf := c_ie c43005 hf
        refine lv_iload hx hb dX12_can_129 (lv_at hl 6 rfl) ?_
        exact c_iret hx hb hr hlk hP hS rfl (c_inj hf) dX12_can_131
      · have hf := c_it c43005 hf
        refine lv_iload hx hb dX12_can_124 (lv_at hl 5 rfl) ?_
        refine lv_goto (tgt := 131) hx hb dX12_can_126 (by decide) ?_
        exact c_iret hx hb hr hlk hP hS rfl (c_inj hf) dX12_can_131
    · have hf := c_ie c43001 hf
      refine lv_aload_n hx hb dX12_can_48 rfl (lv_at hl 0 rfl) ?_
      refine lv_iload_n hx hb dX12_can_49 rfl (lv_at hl 1 rfl) ?_
      refine lv_iconst (v := (1 : Int32)) hx hb dX12_can_50 (by decide) ?_
      refine lv_iload hx hb dX12_can_51 (lv_at hl 7 rfl) ?_
      obtain ⟨g43007, r43008, hc43006, hf⟩ := c_b2E hf
      refine c_goi (va_runV (As := [.int x1, .int (1 : Int32), .int x7]) (rest := []) ⟨hx, hb, hml, hown, hts⟩ (kX12_change hD hc43006) (cwV 3 hts gX12_can_X12_change rfl rfl rfl (by decide +kernel) ⟨Nat.le_of_ble_eq_true rfl, Nat.le_of_ble_eq_true rfl⟩) (c_preV hK hP hE hS tM0 rfl) rfl rfl hl.1 rfl (lv_room (Nat.le_of_ble_eq_true rfl)) dX12_can_53 ⟨Nat.zero_le _, Nat.zero_le _⟩) hS (fun H locs hP hS => ?_)
      refine lv_pop hx hb dX12_can_56 rfl ?_
      refine lv_aload_n hx hb dX12_can_57 rfl (lv_at hl 0 rfl) ?_
      refine lv_iload_n hx hb dX12_can_58 rfl (lv_at hl 1 rfl) ?_
      obtain ⟨g43010, hc43009, hf⟩ := c_bd hf
      refine c_gov (va_runV (As := [.int x1]) (rest := []) ⟨hx, hb, hml, hown, hts⟩ (kX12_tellAll hD hc43009) (cwV 1 hts gX12_can_X12_tellAll rfl rfl rfl (by decide +kernel) ⟨Nat.le_of_ble_eq_true rfl, Nat.le_of_ble_eq_true rfl⟩) (c_preV hK hP hE hS tM0 rfl) rfl rfl hl.1 rfl (lv_room (Nat.le_of_ble_eq_true rfl)) dX12_can_59 ⟨Nat.zero_le _, Nat.zero_le _⟩) hS (fun H locs hP hS => ?_)
      refine lv_aload_n hx hb dX12_can_62 rfl (lv_at hl 0 rfl) ?_
      refine lv_iload_n hx hb dX12_can_63 rfl (lv_at hl 1 rfl) ?_
      refine lv_aload_n hx hb dX12_can_64 rfl (lv_at hl 0 rfl) ?_
      refine lv_iload_n hx hb dX12_can_65 rfl (lv_at hl 1 rfl) ?_
      refine lv_iconst (v := (2 : Int32)) hx hb dX12_can_66 (by decide) ?_
      obtain ⟨r43011, hc43012, hf⟩ := c_bd hf
      refine c_goi (va_runV (As := [.int x1, .int (2 : Int32)]) (rest := [.int x1, .ref (ad 0)]) ⟨hx, hb, hml, hown, hts⟩ (kX12_one hD hc43012) (cwV 2 hts gX12_can_X12_one rfl rfl rfl (by decide +kernel) ⟨Nat.le_of_ble_eq_true rfl, Nat.le_of_ble_eq_true rfl⟩) (c_preV hK hP hE hS tM0 rfl) rfl rfl hl.1 rfl (lv_room (Nat.le_of_ble_eq_true rfl)) dX12_can_67 ⟨Nat.zero_le _, Nat.zero_le _⟩) hS (fun H locs hP hS => ?_)
      refine lv_iload hx hb dX12_can_70 (lv_at hl 4 rfl) ?_
      obtain ⟨r43013, hc43014, hf⟩ := c_bd hf
      refine c_goi (va_runV (As := [.int x1, .int r43011, .int x4]) (rest := []) ⟨hx, hb, hml, hown, hts⟩ (kX12_isAllHeard hD hc43014) (cwV 3 hts gX12_can_X12_isAllHeard rfl rfl rfl (by decide +kernel) ⟨Nat.le_of_ble_eq_true rfl, Nat.le_of_ble_eq_true rfl⟩) (c_preV hK hP hE hS tM0 rfl) rfl rfl hl.1 rfl (lv_room (Nat.le_of_ble_eq_true rfl)) dX12_can_72 ⟨Nat.zero_le _, Nat.zero_le _⟩) hS (fun H locs hP hS => ?_)
      refine lv_istore (lv' := [(8, .int r43013), (0, .ref (ad 0)), (1, .int x1), (2, .int x2), (3, .int x3), (4, .int x4), (5, .int x5), (6, .int x6), (7, .int x7)]) hx hb dX12_can_75 hl (by decide) rfl (fun ls hl => ?_)
      refine lv_iload hx hb dX12_can_77 (lv_at hl 6 rfl) ?_
      refine lv_iload hx hb dX12_can_79 (lv_at hl 0 rfl) ?_
      refine lv_if_eq (tgt := 88) hx hb dX12_can_81 (by decide) (fun c43015 => ?_) (fun c43015 => ?_)
      · have hf := c_it c43015 hf
        refine lv_iconst (v := (0 : Int32)) hx hb dX12_can_88 (by decide) ?_
        exact jX12_can_89 C hD ih x1 x2 x3 x4 x6 x7 r43013 x5 ((0 : Int32)) g43010 hf _ _ hP hS _ (lv_sub hl [1, 2, 3, 4, 5, 7, 8, 0] rfl)
      · have hf := c_ie c43015 hf
        refine lv_iconst (v := (1 : Int32)) hx hb dX12_can_84 (by decide) ?_
        refine lv_goto (tgt := 89) hx hb dX12_can_85 (by decide) ?_
        exact jX12_can_89 C hD ih x1 x2 x3 x4 x6 x7 r43013 x5 ((1 : Int32)) g43010 hf _ _ hP hS _ (lv_sub hl [1, 2, 3, 4, 5, 7, 8, 0] rfl)
def fX12_can (g : c_G) (a1 : Int32) (a2 : Int32) : Option (c_G × Int32) :=
  (fX12_isChild g a1).bind fun r1 => if r1 = 0 then (some (g, (-1 : Int32))) else (if (fX12_isIn a2 ((0 : Int32)) ((1 : Int32))) = 0 then (some (g, (-1 : Int32))) else ((fX12_one g a1 ((1 : Int32))).bind fun r5 => (fX12_used g).bind fun r7 => fX12_can_43 a1 a2 c_F a1 a2 r5 r7 ((0 : Int32)) ((-5 : Int32)) ((9 : Int32)) g))
set_option maxRecDepth 100000 in
set_option maxHeartbeats 4000000 in
theorem kX12_can {l : Launch} {D : va_G} {tc : Nat → ClassId} {ad : Nat → Nat} {A : Nat → Prop} {E : (Nat → Nat) × (Nat → Nat) × Nat} (hD : c_D A ad TM) {a1 : Int32} {a2 : Int32} {g g' : c_G} {r : Int32} (hf : fX12_can g a1 a2 = some (g', r)) : c_Mi l yX12_can wsX12_can (c_rm 50) D tc ad A E TM ([.ref (ad 0), .int a1, .int a2] : List Value) g g' r := by
  refine c_ofW (bytes := cX12_can) (maxL := 9) (ret := (some .int)) (by decide) rfl (Nat.le_of_ble_eq_true rfl) ?_
  intro p e s m below meth c ls C hP hS hl
  unfold fX12_can at hf
  obtain ⟨hx, hb, hr, hml, hts, hown, hlk, hK, hE⟩ := id C
  have hl : lv_has ls 9 [(0, .ref (ad 0)), (1, .int a1), (2, .int a2)] := hl
  refine lv_aload_n hx hb dX12_can_0 rfl (lv_at hl 0 rfl) ?_
  refine lv_iload_n hx hb dX12_can_1 rfl (lv_at hl 1 rfl) ?_
  obtain ⟨r1, hc2, hf⟩ := c_bd hf
  refine c_goi (va_runV (As := [.int a1]) (rest := []) ⟨hx, hb, hml, hown, hts⟩ (kX12_isChild hD hc2) (cwV 1 hts gX12_can_X12_isChild rfl rfl rfl (by decide +kernel) ⟨Nat.le_of_ble_eq_true rfl, Nat.le_of_ble_eq_true rfl⟩) (c_preV hK hP hE hS tM0 rfl) rfl rfl hl.1 rfl (lv_room (Nat.le_of_ble_eq_true rfl)) dX12_can_2 ⟨Nat.zero_le _, Nat.zero_le _⟩) hS (fun H locs hP hS => ?_)
  refine lv_if_eq (tgt := 17) hx hb dX12_can_5 (by decide) (fun c3 => ?_) (fun c3 => ?_)
  · have hf := c_it c3 hf
    refine lv_iconst (v := (-1 : Int32)) hx hb dX12_can_17 (by decide) ?_
    exact c_iret hx hb hr hlk hP hS rfl (c_inj hf) dX12_can_18
  · have hf := c_ie c3 hf
    refine lv_iload_n hx hb dX12_can_8 rfl (lv_at hl 2 rfl) ?_
    refine lv_iconst (v := (0 : Int32)) hx hb dX12_can_9 (by decide) ?_
    refine lv_iconst (v := (1 : Int32)) hx hb dX12_can_10 (by decide) ?_
    refine c_goi (va_runS (As := [.int a2, .int (0 : Int32), .int (1 : Int32)]) (rest := []) ⟨hx, hb, hml, hown, hts⟩ (kX12_isIn (T := TM) (g := g) rfl) (va_cwS 3 hts gX12_can_X12_isIn rfl rfl rfl (by decide +kernel) ⟨Nat.le_of_ble_eq_true rfl, Nat.le_of_ble_eq_true rfl⟩) (c_preS hK hP hE hS) rfl rfl hl.1 rfl (lv_room (Nat.le_of_ble_eq_true rfl)) dX12_can_11 ⟨Nat.zero_le _, Nat.zero_le _⟩) hS (fun H locs hP hS => ?_)
    refine lv_if_ne (tgt := 19) hx hb dX12_can_14 (by decide) (fun c4 => ?_) (fun c4 => ?_)
    · have hf := c_ie c4 hf
      refine lv_aload_n hx hb dX12_can_19 rfl (lv_at hl 0 rfl) ?_
      refine lv_iload_n hx hb dX12_can_20 rfl (lv_at hl 1 rfl) ?_
      refine lv_iconst (v := (1 : Int32)) hx hb dX12_can_21 (by decide) ?_
      obtain ⟨r5, hc6, hf⟩ := c_bd hf
      refine c_goi (va_runV (As := [.int a1, .int (1 : Int32)]) (rest := []) ⟨hx, hb, hml, hown, hts⟩ (kX12_one hD hc6) (cwV 2 hts gX12_can_X12_one rfl rfl rfl (by decide +kernel) ⟨Nat.le_of_ble_eq_true rfl, Nat.le_of_ble_eq_true rfl⟩) (c_preV hK hP hE hS tM0 rfl) rfl rfl hl.1 rfl (lv_room (Nat.le_of_ble_eq_true rfl)) dX12_can_22 ⟨Nat.zero_le _, Nat.zero_le _⟩) hS (fun H locs hP hS => ?_)
      refine lv_istore_n (lv' := [(3, .int r5), (0, .ref (ad 0)), (1, .int a1), (2, .int a2)]) hx hb dX12_can_25 rfl hl (by decide) rfl (fun ls hl => ?_)
      refine lv_aload_n hx hb dX12_can_26 rfl (lv_at hl 1 rfl) ?_
      obtain ⟨r7, hc8, hf⟩ := c_bd hf
      refine c_goi (va_runV (As := []) (rest := []) ⟨hx, hb, hml, hown, hts⟩ (kX12_used hD hc8) (cwV 0 hts gX12_can_X12_used rfl rfl rfl (by decide +kernel) ⟨Nat.le_of_ble_eq_true rfl, Nat.le_of_ble_eq_true rfl⟩) (c_preV hK hP hE hS tM0 rfl) rfl rfl hl.1 rfl (lv_room (Nat.le_of_ble_eq_true rfl)) dX12_can_27 ⟨Nat.zero_le _, Nat.zero_le _⟩) hS (fun H locs hP hS => ?_)
      refine lv_istore (lv' := [(4, .int r7), (3, .int r5), (0, .ref (ad 0)), (1, .int a1), (2, .int a2)]) hx hb dX12_can_30 hl (by decide) rfl (fun ls hl => ?_)
      refine lv_iconst (v := (0 : Int32)) hx hb dX12_can_32 (by decide) ?_
      refine lv_istore (lv' := [(5, .int (0 : Int32)), (4, .int r7), (3, .int r5), (0, .ref (ad 0)), (1, .int a1), (2, .int a2)]) hx hb dX12_can_33 hl (by decide) rfl (fun ls hl => ?_)
      refine lv_bipush (v := (-5 : Int32)) hx hb dX12_can_35 (by decide) ?_
      refine lv_istore (lv' := [(6, .int (-5 : Int32)), (5, .int (0 : Int32)), (4, .int r7), (3, .int r5), (0, .ref (ad 0)), (1, .int a1), (2, .int a2)]) hx hb dX12_can_37 hl (by decide) rfl (fun ls hl => ?_)
      refine lv_bipush (v := (9 : Int32)) hx hb dX12_can_39 (by decide) ?_
      refine lv_istore (lv' := [(7, .int (9 : Int32)), (6, .int (-5 : Int32)), (5, .int (0 : Int32)), (4, .int r7), (3, .int r5), (0, .ref (ad 0)), (1, .int a1), (2, .int a2)]) hx hb dX12_can_41 hl (by decide) rfl (fun ls hl => ?_)
      exact jX12_can_43 C hD c_F a1 a2 r5 r7 ((0 : Int32)) ((-5 : Int32)) ((9 : Int32)) g hf _ _ hP hS _ (lv_sub hl [5, 6, 7, 4, 3, 2, 1, 0] rfl)
    · have hf := c_it c4 hf
      refine lv_iconst (v := (-1 : Int32)) hx hb dX12_can_17 (by decide) ?_
      exact c_iret hx hb hr hlk hP hS rfl (c_inj hf) dX12_can_18
theorem dX12_fraction_0 : decode cX12_fraction 0 = .ok (.lload_n 0, 1) := by decide +kernel
theorem dX12_fraction_1 : decode cX12_fraction 1 = .ok (.lstore 5, 2) := by decide +kernel
theorem dX12_fraction_3 : decode cX12_fraction 3 = .ok (.lload_n 2, 1) := by decide +kernel
theorem dX12_fraction_4 : decode cX12_fraction 4 = .ok (.lstore 7, 2) := by decide +kernel
theorem dX12_fraction_6 : decode cX12_fraction 6 = .ok (.lload 7, 2) := by decide +kernel
theorem dX12_fraction_8 : decode cX12_fraction 8 = .ok (.lconst 0, 1) := by decide +kernel
theorem dX12_fraction_9 : decode cX12_fraction 9 = .ok (.lcmp, 1) := by decide +kernel
theorem dX12_fraction_10 : decode cX12_fraction 10 = .ok (.ifCond .eq 21, 3) := by decide +kernel
theorem dX12_fraction_13 : decode cX12_fraction 13 = .ok (.lload 5, 2) := by decide +kernel
theorem dX12_fraction_15 : decode cX12_fraction 15 = .ok (.lload 7, 2) := by decide +kernel
theorem dX12_fraction_17 : decode cX12_fraction 17 = .ok (.lrem, 1) := by decide +kernel
theorem dX12_fraction_18 : decode cX12_fraction 18 = .ok (.lstore 9, 2) := by decide +kernel
theorem dX12_fraction_20 : decode cX12_fraction 20 = .ok (.lload 7, 2) := by decide +kernel
theorem dX12_fraction_22 : decode cX12_fraction 22 = .ok (.lstore 5, 2) := by decide +kernel
theorem dX12_fraction_24 : decode cX12_fraction 24 = .ok (.lload 9, 2) := by decide +kernel
theorem dX12_fraction_26 : decode cX12_fraction 26 = .ok (.lstore 7, 2) := by decide +kernel
theorem dX12_fraction_28 : decode cX12_fraction 28 = .ok (.goto (-22), 3) := by decide +kernel
theorem dX12_fraction_31 : decode cX12_fraction 31 = .ok (.iload 4, 2) := by decide +kernel
theorem dX12_fraction_33 : decode cX12_fraction 33 = .ok (.ifCond .ne 10, 3) := by decide +kernel
theorem dX12_fraction_36 : decode cX12_fraction 36 = .ok (.lload_n 0, 1) := by decide +kernel
theorem dX12_fraction_37 : decode cX12_fraction 37 = .ok (.lload 5, 2) := by decide +kernel
theorem dX12_fraction_39 : decode cX12_fraction 39 = .ok (.ldiv, 1) := by decide +kernel
theorem dX12_fraction_40 : decode cX12_fraction 40 = .ok (.goto 7, 3) := by decide +kernel
theorem dX12_fraction_43 : decode cX12_fraction 43 = .ok (.lload_n 2, 1) := by decide +kernel
theorem dX12_fraction_44 : decode cX12_fraction 44 = .ok (.lload 5, 2) := by decide +kernel
theorem dX12_fraction_46 : decode cX12_fraction 46 = .ok (.ldiv, 1) := by decide +kernel
theorem dX12_fraction_47 : decode cX12_fraction 47 = .ok (.lreturn, 1) := by decide +kernel
def fX12_fraction_6  (a1 : Int64) (a2 : Int64) (a3 : Int32) : Nat → Int64 → Int64 → Int32 → Int64 → Int64 → c_G → Option (Int64)
  | 0, _, _, _, _, _, _ => none
  | n + 1, x0, x2, x4, x5, x7, g => if (lg_cmp x7 (0 : Int64)) = 0 then (if x4 = 0 then (if x5 = 0 then none else some (x0 / x5)) else (if x5 = 0 then none else some (x2 / x5))) else (if x7 = 0 then none else c_let ((x5 - x5 / x7 * x7)) fun v6006 => (fX12_fraction_6 a1 a2 a3 n) x0 x2 x4 x7 v6006 g)
set_option maxRecDepth 100000 in
set_option maxHeartbeats 4000000 in
theorem jX12_fraction_6 {p : Program} {l : Launch} {e : Env} {s : State} {m : MethodId} {below : List Frame} {meth : Method} {c : Code} {D : va_G} {tc : Nat → ClassId} {ad : Nat → Nat} {A : Nat → Prop} {E : (Nat → Nat) × (Nat → Nat) × Nat} {a1 : Int64} {a2 : Int64} {a3 : Int32} {r : Int64} (C : c_C p s m meth c D tc A E RX12 wsX12_fraction cX12_fraction 11 (some .long) ([.long a1, .long a2, .int a3] : List Value).toArray) (hD : c_D A ad TM)  : ∀ (n : Nat) (x0 : Int64) (x2 : Int64) (x4 : Int32) (x5 : Int64) (x7 : Int64) (g : c_G), fX12_fraction_6 a1 a2 a3 n x0 x2 x4 x5 x7 g = some r → ∀ (H : Heap) (locs : List Loc), va_P D vwCl (c_ws tc ad TM g) H → va_S A s.heap H locs → ∀ ls : Array Slot, lv_has ls 11 [(0, .long x0), (2, .long x2), (4, .int x4), (5, .long x5), (7, .long x7)] → W p l e (c_rm 0) s m ([.long a1, .long a2, .int a3] : List Value).toArray below meth c H locs 0 0 (MQ below (va_Ql (fun (x : Int64) (_ : Unit) => x = r) (fun _ t => va_P D vwCl (c_ws tc ad TM g) t.heap) A) ([.long a1, .long a2, .int a3] : List Value).toArray s 0 0 A) (F0 m 6 ls []) := by
  obtain ⟨hx, hb, hr, hml, hts, hown, hlk, hK, hE⟩ := id C
  intro n
  induction n with
  | zero =>
    intro x0 x2 x4 x5 x7 g hf
    cases hf
  | succ n ih =>
    intro x0 x2 x4 x5 x7 g hf H locs hP hS ls hl
    unfold fX12_fraction_6 at hf
    refine lv_lload hx hb dX12_fraction_6 (lv_at hl 4 rfl) ?_
    refine lv_lconst (v := (0 : Int64)) hx hb dX12_fraction_8 (by decide) ?_
    refine W.lcmp hx hb dX12_fraction_9 ?_
    refine lv_if_eq (tgt := 31) hx hb dX12_fraction_10 (by decide) (fun c6001 => ?_) (fun c6001 => ?_)
    · have hf := c_it c6001 hf
      refine lv_iload hx hb dX12_fraction_31 (lv_at hl 2 rfl) ?_
      refine lv_if_ne (tgt := 43) hx hb dX12_fraction_33 (by decide) (fun c6002 => ?_) (fun c6002 => ?_)
      · have hf := c_ie c6002 hf
        refine lv_lload_n hx hb dX12_fraction_43 rfl (lv_at hl 1 rfl) ?_
        refine lv_lload hx hb dX12_fraction_44 (lv_at hl 3 rfl) ?_
        obtain ⟨hz6003, hf⟩ := c_gn hf
        refine lv_ldiv hx hb dX12_fraction_46 hz6003 ?_
        exact c_lret hx hb hr hlk hP hS ⟨rfl, Option.some.inj hf⟩ dX12_fraction_47
      · have hf := c_it c6002 hf
        refine lv_lload_n hx hb dX12_fraction_36 rfl (lv_at hl 0 rfl) ?_
        refine lv_lload hx hb dX12_fraction_37 (lv_at hl 3 rfl) ?_
        obtain ⟨hz6004, hf⟩ := c_gn hf
        refine lv_ldiv hx hb dX12_fraction_39 hz6004 ?_
        refine lv_goto (tgt := 47) hx hb dX12_fraction_40 (by decide) ?_
        exact c_lret hx hb hr hlk hP hS ⟨rfl, Option.some.inj hf⟩ dX12_fraction_47
    · have hf := c_ie c6001 hf
      refine lv_lload hx hb dX12_fraction_13 (lv_at hl 3 rfl) ?_
      refine lv_lload hx hb dX12_fraction_15 (lv_at hl 4 rfl) ?_
      obtain ⟨hz6005, hf⟩ := c_gn hf
      refine lv_lrem hx hb dX12_fraction_17 hz6005 ?_
      obtain ⟨v6006, ev6006, hf⟩ := c_letE hf
      refine c_topl ev6006 ?_
      refine lv_lstore (lv' := [(9, .long v6006), (0, .long x0), (2, .long x2), (4, .int x4), (5, .long x5), (7, .long x7)]) hx hb dX12_fraction_18 hl (by decide) rfl (fun ls hl => ?_)
      refine lv_lload hx hb dX12_fraction_20 (lv_at hl 5 rfl) ?_
      refine lv_lstore (lv' := [(5, .long x7), (9, .long v6006), (0, .long x0), (2, .long x2), (4, .int x4), (7, .long x7)]) hx hb dX12_fraction_22 hl (by decide) rfl (fun ls hl => ?_)
      refine lv_lload hx hb dX12_fraction_24 (lv_at hl 1 rfl) ?_
      refine lv_lstore (lv' := [(7, .long v6006), (5, .long x7), (9, .long v6006), (0, .long x0), (2, .long x2), (4, .int x4)]) hx hb dX12_fraction_26 hl (by decide) rfl (fun ls hl => ?_)
      refine lv_goto (tgt := 6) hx hb dX12_fraction_28 (by decide) ?_
      exact ih x0 x2 x4 x7 v6006 g hf _ _ hP hS _ (lv_sub hl [3, 4, 5, 1, 0] rfl)
def fX12_fraction (g : c_G) (a1 : Int64) (a2 : Int64) (a3 : Int32) : Option (Int64) :=
  fX12_fraction_6 a1 a2 a3 c_F a1 a2 a3 a1 a2 g
set_option maxRecDepth 100000 in
set_option maxHeartbeats 4000000 in
theorem kX12_fraction {l : Launch} {D : va_G} {tc : Nat → ClassId} {ad : Nat → Nat} {A : Nat → Prop} {E : (Nat → Nat) × (Nat → Nat) × Nat} (hD : c_D A ad TM) {a1 : Int64} {a2 : Int64} {a3 : Int32} {g : c_G} {r : Int64} (hf : fX12_fraction g a1 a2 a3 = some r) : c_Ml l yX12_fraction wsX12_fraction (c_rm 0) D tc ad A E TM ([.long a1, .long a2, .int a3] : List Value) g g r := by
  refine c_ofW (bytes := cX12_fraction) (maxL := 11) (ret := (some .long)) (by decide) rfl (Nat.le_of_ble_eq_true rfl) ?_
  intro p e s m below meth c ls C hP hS hl
  unfold fX12_fraction at hf
  obtain ⟨hx, hb, hr, hml, hts, hown, hlk, hK, hE⟩ := id C
  have hl : lv_has ls 11 [(0, .long a1), (2, .long a2), (4, .int a3)] := hl
  refine lv_lload_n hx hb dX12_fraction_0 rfl (lv_at hl 0 rfl) ?_
  refine lv_lstore (lv' := [(5, .long a1), (0, .long a1), (2, .long a2), (4, .int a3)]) hx hb dX12_fraction_1 hl (by decide) rfl (fun ls hl => ?_)
  refine lv_lload_n hx hb dX12_fraction_3 rfl (lv_at hl 2 rfl) ?_
  refine lv_lstore (lv' := [(7, .long a2), (5, .long a1), (0, .long a1), (2, .long a2), (4, .int a3)]) hx hb dX12_fraction_4 hl (by decide) rfl (fun ls hl => ?_)
  exact jX12_fraction_6 C hD c_F a1 a2 a3 a1 a2 g hf _ _ hP hS _ (lv_sub hl [2, 3, 4, 1, 0] rfl)
theorem dX12_odds_0 : decode cX12_odds 0 = .ok (.aload_n 0, 1) := by decide +kernel
theorem dX12_odds_1 : decode cX12_odds 1 = .ok (.iload_n 1, 1) := by decide +kernel
theorem dX12_odds_2 : decode cX12_odds 2 = .ok (.invokevirtual 101, 3) := by decide +kernel
theorem dX12_odds_5 : decode cX12_odds 5 = .ok (.ifCond .eq 19, 3) := by decide +kernel
theorem dX12_odds_8 : decode cX12_odds 8 = .ok (.iload_n 2, 1) := by decide +kernel
theorem dX12_odds_9 : decode cX12_odds 9 = .ok (.invokestatic 112, 3) := by decide +kernel
theorem dX12_odds_12 : decode cX12_odds 12 = .ok (.ifCond .eq 12, 3) := by decide +kernel
theorem dX12_odds_15 : decode cX12_odds 15 = .ok (.iload_n 3, 1) := by decide +kernel
theorem dX12_odds_16 : decode cX12_odds 16 = .ok (.iconst 0, 1) := by decide +kernel
theorem dX12_odds_17 : decode cX12_odds 17 = .ok (.iconst 1, 1) := by decide +kernel
theorem dX12_odds_18 : decode cX12_odds 18 = .ok (.invokestatic 85, 3) := by decide +kernel
theorem dX12_odds_21 : decode cX12_odds 21 = .ok (.ifCond .ne 7, 3) := by decide +kernel
theorem dX12_odds_24 : decode cX12_odds 24 = .ok (.ldc2_w 247, 3) := by decide +kernel
theorem dX12_odds_27 : decode cX12_odds 27 = .ok (.lreturn, 1) := by decide +kernel
theorem dX12_odds_28 : decode cX12_odds 28 = .ok (.aload_n 0, 1) := by decide +kernel
theorem dX12_odds_29 : decode cX12_odds 29 = .ok (.iload_n 1, 1) := by decide +kernel
theorem dX12_odds_30 : decode cX12_odds 30 = .ok (.iload_n 2, 1) := by decide +kernel
theorem dX12_odds_31 : decode cX12_odds 31 = .ok (.invokevirtual 115, 3) := by decide +kernel
theorem dX12_odds_34 : decode cX12_odds 34 = .ok (.istore 4, 2) := by decide +kernel
theorem dX12_odds_36 : decode cX12_odds 36 = .ok (.iconst 0, 1) := by decide +kernel
theorem dX12_odds_37 : decode cX12_odds 37 = .ok (.istore 5, 2) := by decide +kernel
theorem dX12_odds_39 : decode cX12_odds 39 = .ok (.iconst 0, 1) := by decide +kernel
theorem dX12_odds_40 : decode cX12_odds 40 = .ok (.istore 6, 2) := by decide +kernel
theorem dX12_odds_42 : decode cX12_odds 42 = .ok (.iload 6, 2) := by decide +kernel
theorem dX12_odds_44 : decode cX12_odds 44 = .ok (.bipush 12, 2) := by decide +kernel
theorem dX12_odds_46 : decode cX12_odds 46 = .ok (.if_icmp .ge 44, 3) := by decide +kernel
theorem dX12_odds_49 : decode cX12_odds 49 = .ok (.iload 5, 2) := by decide +kernel
theorem dX12_odds_51 : decode cX12_odds 51 = .ok (.aload_n 0, 1) := by decide +kernel
theorem dX12_odds_52 : decode cX12_odds 52 = .ok (.iload_n 2, 1) := by decide +kernel
theorem dX12_odds_53 : decode cX12_odds 53 = .ok (.aload_n 0, 1) := by decide +kernel
theorem dX12_odds_54 : decode cX12_odds 54 = .ok (.iload_n 1, 1) := by decide +kernel
theorem dX12_odds_55 : decode cX12_odds 55 = .ok (.iconst 2, 1) := by decide +kernel
theorem dX12_odds_56 : decode cX12_odds 56 = .ok (.invokevirtual 89, 3) := by decide +kernel
theorem dX12_odds_59 : decode cX12_odds 59 = .ok (.aload_n 0, 1) := by decide +kernel
theorem dX12_odds_60 : decode cX12_odds 60 = .ok (.invokevirtual 205, 3) := by decide +kernel
theorem dX12_odds_63 : decode cX12_odds 63 = .ok (.iconst 1, 1) := by decide +kernel
theorem dX12_odds_64 : decode cX12_odds 64 = .ok (.iload 6, 2) := by decide +kernel
theorem dX12_odds_66 : decode cX12_odds 66 = .ok (.ishl, 1) := by decide +kernel
theorem dX12_odds_67 : decode cX12_odds 67 = .ok (.ior, 1) := by decide +kernel
theorem dX12_odds_68 : decode cX12_odds 68 = .ok (.invokevirtual 208, 3) := by decide +kernel
theorem dX12_odds_71 : decode cX12_odds 71 = .ok (.iload 4, 2) := by decide +kernel
theorem dX12_odds_73 : decode cX12_odds 73 = .ok (.if_icmp .ne 7, 3) := by decide +kernel
theorem dX12_odds_76 : decode cX12_odds 76 = .ok (.iconst 0, 1) := by decide +kernel
theorem dX12_odds_77 : decode cX12_odds 77 = .ok (.goto 4, 3) := by decide +kernel
theorem dX12_odds_80 : decode cX12_odds 80 = .ok (.iconst 1, 1) := by decide +kernel
theorem dX12_odds_81 : decode cX12_odds 81 = .ok (.iadd, 1) := by decide +kernel
theorem dX12_odds_82 : decode cX12_odds 82 = .ok (.istore 5, 2) := by decide +kernel
theorem dX12_odds_84 : decode cX12_odds 84 = .ok (.iinc 6 1, 3) := by decide +kernel
theorem dX12_odds_87 : decode cX12_odds 87 = .ok (.goto (-45), 3) := by decide +kernel
theorem dX12_odds_90 : decode cX12_odds 90 = .ok (.iload 5, 2) := by decide +kernel
theorem dX12_odds_92 : decode cX12_odds 92 = .ok (.i2l, 1) := by decide +kernel
theorem dX12_odds_93 : decode cX12_odds 93 = .ok (.ldc2_w 249, 3) := by decide +kernel
theorem dX12_odds_96 : decode cX12_odds 96 = .ok (.iload_n 3, 1) := by decide +kernel
theorem dX12_odds_97 : decode cX12_odds 97 = .ok (.invokestatic 251, 3) := by decide +kernel
theorem dX12_odds_100 : decode cX12_odds 100 = .ok (.lreturn, 1) := by decide +kernel
set_option maxRecDepth 20000 in
theorem ggX12_odds_X12_isChild : GoodIn wsX12_odds wsX12_isChild := goodIn_r _ [7, 8, 9, 10, 6, 11, 108, 109, 110, 111, 112, 113, 114, 115, 116, 117, 118, 119, 120, 121, 122, 123, 124, 125, 126, 127, 128, 129, 130, 131, 132, 133, 134, 135, 136, 137, 138, 139] (by decide +kernel) (by decide +kernel)
set_option maxRecDepth 20000 in
theorem gX12_odds_X12_isChild : GoodIn wsX12_odds (wsV RX12 101 RX12 yX12_isChild wsX12_isChild) := goodIn_app (goodIn_of _ (by decide +kernel)) ggX12_odds_X12_isChild
set_option maxRecDepth 20000 in
theorem ggX12_odds_X12_isElder : GoodIn wsX12_odds wsX12_isElder := goodIn_r _ [14, 9, 10, 6, 11] (by decide +kernel) (by decide +kernel)
set_option maxRecDepth 20000 in
theorem gX12_odds_X12_isElder : GoodIn wsX12_odds (va_wsS RX12 112 yX12_isElder wsX12_isElder) := goodIn_app (goodIn_of _ (by decide +kernel)) ggX12_odds_X12_isElder
set_option maxRecDepth 20000 in
theorem ggX12_odds_X12_isIn : GoodIn wsX12_odds wsX12_isIn := goodIn_r _ [11] (by decide +kernel) (by decide +kernel)
set_option maxRecDepth 20000 in
theorem gX12_odds_X12_isIn : GoodIn wsX12_odds (va_wsS RX12 85 yX12_isIn wsX12_isIn) := goodIn_app (goodIn_of _ (by decide +kernel)) ggX12_odds_X12_isIn
set_option maxRecDepth 20000 in
theorem ggX12_odds_X12_says : GoodIn wsX12_odds wsX12_says := goodIn_r _ [18, 19, 20, 21, 6, 22, 23, 24, 25, 26, 27, 28, 8, 29, 30, 31, 32, 33, 34, 35, 36, 37, 38, 39, 40, 41, 42, 43, 44, 45, 46, 47, 48, 49, 50, 51, 52, 53, 54, 55, 56, 57, 58, 59, 60, 61, 62, 63, 64, 65, 66, 67, 68, 69, 70, 71, 72, 73, 74, 75, 76, 77, 78, 79, 80, 81, 82, 83, 84, 85, 86, 87, 88, 89, 90, 91, 92, 93, 94, 95, 96, 97, 98, 99, 100, 101, 102, 103, 104, 108, 109, 110, 111, 112, 113, 114, 115, 116, 117, 118, 119, 120, 121, 122, 123, 124, 125, 126, 127, 128, 129, 130, 131, 132, 133, 134, 135, 136, 137, 138, 139] (by decide +kernel) (by decide +kernel)
set_option maxRecDepth 20000 in
theorem gX12_odds_X12_says : GoodIn wsX12_odds (wsV RX12 115 RX12 yX12_says wsX12_says) := goodIn_app (goodIn_of _ (by decide +kernel)) ggX12_odds_X12_says
set_option maxRecDepth 20000 in
theorem ggX12_odds_X12_one : GoodIn wsX12_odds wsX12_one := goodIn_r _ [42, 8, 108, 109, 110, 111, 112, 113, 114, 115, 116, 117, 118, 119, 120, 121, 122, 123, 124, 125, 126, 127, 128, 129, 130, 131, 132, 133, 134, 135, 136, 137, 138, 139] (by decide +kernel) (by decide +kernel)
set_option maxRecDepth 20000 in
theorem gX12_odds_X12_one : GoodIn wsX12_odds (wsV RX12 89 RX12 yX12_one wsX12_one) := goodIn_app (goodIn_of _ (by decide +kernel)) ggX12_odds_X12_one
set_option maxRecDepth 20000 in
theorem ggX12_odds_X12_used : GoodIn wsX12_odds wsX12_used := goodIn_r _ [96, 8, 43, 44, 45, 6, 46, 108, 109, 110, 111, 112, 113, 114, 115, 116, 117, 118, 119, 120, 121, 122, 123, 124, 125, 126, 127, 128, 129, 130, 131, 132, 133, 134, 135, 136, 137, 138, 139] (by decide +kernel) (by decide +kernel)
set_option maxRecDepth 20000 in
theorem gX12_odds_X12_used : GoodIn wsX12_odds (wsV RX12 205 RX12 yX12_used wsX12_used) := goodIn_app (goodIn_of _ (by decide +kernel)) ggX12_odds_X12_used
set_option maxRecDepth 20000 in
theorem ggX12_odds_X12_saysBy : GoodIn wsX12_odds wsX12_saysBy := goodIn_r _ [100, 23, 101, 102, 103, 6, 104, 8, 43, 44, 45, 46, 108, 109, 110, 111, 112, 113, 114, 115, 116, 117, 118, 119, 120, 121, 122, 123, 124, 125, 126, 127, 128, 129, 130, 131, 132, 133, 134, 135, 136, 137, 138, 139] (by decide +kernel) (by decide +kernel)
set_option maxRecDepth 20000 in
theorem gX12_odds_X12_saysBy : GoodIn wsX12_odds (wsV RX12 208 RX12 yX12_saysBy wsX12_saysBy) := goodIn_app (goodIn_of _ (by decide +kernel)) ggX12_odds_X12_saysBy
set_option maxRecDepth 20000 in
theorem ggX12_odds_X12_fraction : GoodIn wsX12_odds wsX12_fraction := goodIn_r _ [107] (by decide +kernel) (by decide +kernel)
set_option maxRecDepth 20000 in
theorem gX12_odds_X12_fraction : GoodIn wsX12_odds (va_wsS RX12 251 yX12_fraction wsX12_fraction) := goodIn_app (goodIn_of _ (by decide +kernel)) ggX12_odds_X12_fraction
def fX12_odds_81 (rec42 : Int32 → Int32 → Int32 → Int32 → Int32 → Int32 → c_G → Option (c_G × Int64)) (a1 : Int32) (a2 : Int32) (a3 : Int32) (x1 : Int32) (x2 : Int32) (x3 : Int32) (x4 : Int32) (x6 : Int32) (y0 : Int32) (y1 : Int32) (g : c_G) : Option (c_G × Int64) :=
  c_let ((y0 + y1)) fun v81001 => c_let (x6 + (1 : Int32)) fun v81002 => rec42 x1 x2 x3 x4 v81001 v81002 g
set_option maxRecDepth 100000 in
set_option maxHeartbeats 4000000 in
theorem jX12_odds_81 {p : Program} {l : Launch} {e : Env} {s : State} {m : MethodId} {below : List Frame} {meth : Method} {c : Code} {D : va_G} {tc : Nat → ClassId} {ad : Nat → Nat} {A : Nat → Prop} {E : (Nat → Nat) × (Nat → Nat) × Nat} {a1 : Int32} {a2 : Int32} {a3 : Int32} {g' : c_G} {r : Int64} (C : c_C p s m meth c D tc A E RX12 wsX12_odds cX12_odds 7 (some .long) ([.ref (ad 0), .int a1, .int a2, .int a3] : List Value).toArray) (hD : c_D A ad TM) {rec42 : Int32 → Int32 → Int32 → Int32 → Int32 → Int32 → c_G → Option (c_G × Int64)} (hrec42 : ∀ (x1 : Int32) (x2 : Int32) (x3 : Int32) (x4 : Int32) (x5 : Int32) (x6 : Int32) (g : c_G), rec42 x1 x2 x3 x4 x5 x6 g = some (g', r) → ∀ (H : Heap) (locs : List Loc), va_P D vwCl (c_ws tc ad TM g) H → va_S A s.heap H locs → ∀ ls : Array Slot, lv_has ls 7 [(0, .ref (ad 0)), (1, .int x1), (2, .int x2), (3, .int x3), (4, .int x4), (5, .int x5), (6, .int x6)] → W p l e (c_rm 50) s m ([.ref (ad 0), .int a1, .int a2, .int a3] : List Value).toArray below meth c H locs 0 0 (MQ below (va_Ql (fun (x : Int64) (_ : Unit) => x = r) (fun _ t => va_P D vwCl (c_ws tc ad TM g') t.heap) A) ([.ref (ad 0), .int a1, .int a2, .int a3] : List Value).toArray s 0 0 A) (F0 m 42 ls [])) : ∀ (x1 : Int32) (x2 : Int32) (x3 : Int32) (x4 : Int32) (x6 : Int32) (y0 : Int32) (y1 : Int32) (g : c_G), fX12_odds_81 rec42 a1 a2 a3 x1 x2 x3 x4 x6 y0 y1 g = some (g', r) → ∀ (H : Heap) (locs : List Loc), va_P D vwCl (c_ws tc ad TM g) H → va_S A s.heap H locs → ∀ ls : Array Slot, lv_has ls 7 [(0, .ref (ad 0)), (1, .int x1), (2, .int x2), (3, .int x3), (4, .int x4), (6, .int x6)] → W p l e (c_rm 50) s m ([.ref (ad 0), .int a1, .int a2, .int a3] : List Value).toArray below meth c H locs 0 0 (MQ below (va_Ql (fun (x : Int64) (_ : Unit) => x = r) (fun _ t => va_P D vwCl (c_ws tc ad TM g') t.heap) A) ([.ref (ad 0), .int a1, .int a2, .int a3] : List Value).toArray s 0 0 A) (F0 m 81 ls [.int y1, .int y0]) := by
  obtain ⟨hx, hb, hr, hml, hts, hown, hlk, hK, hE⟩ := id C
  intro x1 x2 x3 x4 x6 y0 y1 g hf H locs hP hS ls hl
  unfold fX12_odds_81 at hf
  refine lv_iadd hx hb dX12_odds_81 ?_
  obtain ⟨v81001, ev81001, hf⟩ := c_letE hf
  refine c_topi ev81001 ?_
  refine lv_istore (lv' := [(5, .int v81001), (0, .ref (ad 0)), (1, .int x1), (2, .int x2), (3, .int x3), (4, .int x4), (6, .int x6)]) hx hb dX12_odds_82 hl (by decide) rfl (fun ls hl => ?_)
  obtain ⟨v81002, ev81002, hf⟩ := c_letE hf
  refine lv_iinc (v := v81002) (lv' := [(6, .int v81002), (5, .int v81001), (0, .ref (ad 0)), (1, .int x1), (2, .int x2), (3, .int x3), (4, .int x4)]) hx hb dX12_odds_84 hl (k := 6) rfl (by rw [ev81002]; rfl) (by decide) rfl (fun ls hl => ?_)
  refine lv_goto (tgt := 42) hx hb dX12_odds_87 (by decide) ?_
  exact hrec42 x1 x2 x3 x4 v81001 v81002 g hf _ _ hP hS _ (lv_sub hl [2, 3, 4, 5, 6, 1, 0] rfl)
def fX12_odds_42  (a1 : Int32) (a2 : Int32) (a3 : Int32) : Nat → Int32 → Int32 → Int32 → Int32 → Int32 → Int32 → c_G → Option (c_G × Int64)
  | 0, _, _, _, _, _, _, _ => none
  | n + 1, x1, x2, x3, x4, x5, x6, g => if (12 : Int32) ≤ x6 then ((fX12_fraction g (((x5).toInt64)) ((12 : Int64)) x3).bind fun r42002 => some (g, r42002)) else ((fX12_one g x1 ((2 : Int32))).bind fun r42004 => (fX12_used g).bind fun r42006 => (fX12_saysBy g x2 r42004 ((r42006 ||| ((1 : Int32) <<< (x6 &&& 31))))).bind fun r42008 => if r42008 = x4 then (fX12_odds_81 (fX12_odds_42 a1 a2 a3 n) a1 a2 a3 x1 x2 x3 x4 x6 x5 ((0 : Int32)) g) else (fX12_odds_81 (fX12_odds_42 a1 a2 a3 n) a1 a2 a3 x1 x2 x3 x4 x6 x5 ((1 : Int32)) g))
set_option maxRecDepth 100000 in
set_option maxHeartbeats 4000000 in
theorem jX12_odds_42 {p : Program} {l : Launch} {e : Env} {s : State} {m : MethodId} {below : List Frame} {meth : Method} {c : Code} {D : va_G} {tc : Nat → ClassId} {ad : Nat → Nat} {A : Nat → Prop} {E : (Nat → Nat) × (Nat → Nat) × Nat} {a1 : Int32} {a2 : Int32} {a3 : Int32} {g' : c_G} {r : Int64} (C : c_C p s m meth c D tc A E RX12 wsX12_odds cX12_odds 7 (some .long) ([.ref (ad 0), .int a1, .int a2, .int a3] : List Value).toArray) (hD : c_D A ad TM)  : ∀ (n : Nat) (x1 : Int32) (x2 : Int32) (x3 : Int32) (x4 : Int32) (x5 : Int32) (x6 : Int32) (g : c_G), fX12_odds_42 a1 a2 a3 n x1 x2 x3 x4 x5 x6 g = some (g', r) → ∀ (H : Heap) (locs : List Loc), va_P D vwCl (c_ws tc ad TM g) H → va_S A s.heap H locs → ∀ ls : Array Slot, lv_has ls 7 [(0, .ref (ad 0)), (1, .int x1), (2, .int x2), (3, .int x3), (4, .int x4), (5, .int x5), (6, .int x6)] → W p l e (c_rm 50) s m ([.ref (ad 0), .int a1, .int a2, .int a3] : List Value).toArray below meth c H locs 0 0 (MQ below (va_Ql (fun (x : Int64) (_ : Unit) => x = r) (fun _ t => va_P D vwCl (c_ws tc ad TM g') t.heap) A) ([.ref (ad 0), .int a1, .int a2, .int a3] : List Value).toArray s 0 0 A) (F0 m 42 ls []) := by
  obtain ⟨hx, hb, hr, hml, hts, hown, hlk, hK, hE⟩ := id C
  intro n
  induction n with
  | zero =>
    intro x1 x2 x3 x4 x5 x6 g hf
    cases hf
  | succ n ih =>
    intro x1 x2 x3 x4 x5 x6 g hf H locs hP hS ls hl
    unfold fX12_odds_42 at hf
    refine lv_iload hx hb dX12_odds_42 (lv_at hl 6 rfl) ?_
    refine lv_bipush (v := (12 : Int32)) hx hb dX12_odds_44 (by decide) ?_
    refine lv_icmp_ge (tgt := 90) hx hb dX12_odds_46 (by decide) (fun c42001 => ?_) (fun c42001 => ?_)
    · have hf := c_it c42001 hf
      refine lv_iload hx hb dX12_odds_90 (lv_at hl 5 rfl) ?_
      refine lv_i2l hx hb dX12_odds_92 rfl ?_
      refine lv_ldc2 hx hb hown (v := (12 : Int64)) (hts _ (List.mem_of_getElem? (i := 2) rfl)) dX12_odds_93 ?_
      refine lv_iload_n hx hb dX12_odds_96 rfl (lv_at hl 3 rfl) ?_
      obtain ⟨r42002, hc42003, hf⟩ := c_bd hf
      refine c_gol (va_runS (As := [.long ((x5).toInt64), .long (12 : Int64), .int x3]) (rest := []) ⟨hx, hb, hml, hown, hts⟩ (kX12_fraction hD hc42003) (va_cwS 3 hts gX12_odds_X12_fraction rfl rfl rfl (by decide +kernel) ⟨Nat.le_of_ble_eq_true rfl, Nat.le_of_ble_eq_true rfl⟩) (c_preS hK hP hE hS) rfl rfl hl.1 rfl (lv_room (Nat.le_of_ble_eq_true rfl)) dX12_odds_97 ⟨Nat.zero_le _, Nat.zero_le _⟩) hS (fun H locs hP hS => ?_)
      exact c_lret hx hb hr hlk hP hS (c_inj hf) dX12_odds_100
    · have hf := c_ie c42001 hf
      refine lv_iload hx hb dX12_odds_49 (lv_at hl 5 rfl) ?_
      refine lv_aload_n hx hb dX12_odds_51 rfl (lv_at hl 0 rfl) ?_
      refine lv_iload_n hx hb dX12_odds_52 rfl (lv_at hl 2 rfl) ?_
      refine lv_aload_n hx hb dX12_odds_53 rfl (lv_at hl 0 rfl) ?_
      refine lv_iload_n hx hb dX12_odds_54 rfl (lv_at hl 1 rfl) ?_
      refine lv_iconst (v := (2 : Int32)) hx hb dX12_odds_55 (by decide) ?_
      obtain ⟨r42004, hc42005, hf⟩ := c_bd hf
      refine c_goi (va_runV (As := [.int x1, .int (2 : Int32)]) (rest := [.int x2, .ref (ad 0), .int x5]) ⟨hx, hb, hml, hown, hts⟩ (kX12_one hD hc42005) (cwV 2 hts gX12_odds_X12_one rfl rfl rfl (by decide +kernel) ⟨Nat.le_of_ble_eq_true rfl, Nat.le_of_ble_eq_true rfl⟩) (c_preV hK hP hE hS tM0 rfl) rfl rfl hl.1 rfl (lv_room (Nat.le_of_ble_eq_true rfl)) dX12_odds_56 ⟨Nat.zero_le _, Nat.zero_le _⟩) hS (fun H locs hP hS => ?_)
      refine lv_aload_n hx hb dX12_odds_59 rfl (lv_at hl 0 rfl) ?_
      obtain ⟨r42006, hc42007, hf⟩ := c_bd hf
      refine c_goi (va_runV (As := []) (rest := [.int r42004, .int x2, .ref (ad 0), .int x5]) ⟨hx, hb, hml, hown, hts⟩ (kX12_used hD hc42007) (cwV 0 hts gX12_odds_X12_used rfl rfl rfl (by decide +kernel) ⟨Nat.le_of_ble_eq_true rfl, Nat.le_of_ble_eq_true rfl⟩) (c_preV hK hP hE hS tM0 rfl) rfl rfl hl.1 rfl (lv_room (Nat.le_of_ble_eq_true rfl)) dX12_odds_60 ⟨Nat.zero_le _, Nat.zero_le _⟩) hS (fun H locs hP hS => ?_)
      refine lv_iconst (v := (1 : Int32)) hx hb dX12_odds_63 (by decide) ?_
      refine lv_iload hx hb dX12_odds_64 (lv_at hl 6 rfl) ?_
      refine lv_ishl hx hb dX12_odds_66 ?_
      refine lv_ior hx hb dX12_odds_67 ?_
      obtain ⟨r42008, hc42009, hf⟩ := c_bd hf
      refine c_goi (va_runV (As := [.int x2, .int r42004, .int (r42006 ||| ((1 : Int32) <<< (x6 &&& 31)))]) (rest := [.int x5]) ⟨hx, hb, hml, hown, hts⟩ (kX12_saysBy hD hc42009) (cwV 3 hts gX12_odds_X12_saysBy rfl rfl rfl (by decide +kernel) ⟨Nat.le_of_ble_eq_true rfl, Nat.le_of_ble_eq_true rfl⟩) (c_preV hK hP hE hS tM0 rfl) rfl rfl hl.1 rfl (lv_room (Nat.le_of_ble_eq_true rfl)) dX12_odds_68 ⟨Nat.zero_le _, Nat.zero_le _⟩) hS (fun H locs hP hS => ?_)
      refine lv_iload hx hb dX12_odds_71 (lv_at hl 4 rfl) ?_
      refine lv_icmp_ne (tgt := 80) hx hb dX12_odds_73 (by decide) (fun c42010 => ?_) (fun c42010 => ?_)
      · have hf := c_ie c42010 hf
        refine lv_iconst (v := (1 : Int32)) hx hb dX12_odds_80 (by decide) ?_
        exact jX12_odds_81 C hD ih x1 x2 x3 x4 x6 x5 ((1 : Int32)) g hf _ _ hP hS _ (lv_sub hl [0, 1, 2, 3, 4, 6] rfl)
      · have hf := c_it c42010 hf
        refine lv_iconst (v := (0 : Int32)) hx hb dX12_odds_76 (by decide) ?_
        refine lv_goto (tgt := 81) hx hb dX12_odds_77 (by decide) ?_
        exact jX12_odds_81 C hD ih x1 x2 x3 x4 x6 x5 ((0 : Int32)) g hf _ _ hP hS _ (lv_sub hl [0, 1, 2, 3, 4, 6] rfl)
def fX12_odds (g : c_G) (a1 : Int32) (a2 : Int32) (a3 : Int32) : Option (c_G × Int64) :=
  (fX12_isChild g a1).bind fun r1 => if r1 = 0 then (some (g, (-9223372036854775808 : Int64))) else (if (fX12_isElder a2) = 0 then (some (g, (-9223372036854775808 : Int64))) else (if (fX12_isIn a3 ((0 : Int32)) ((1 : Int32))) = 0 then (some (g, (-9223372036854775808 : Int64))) else (c_b2 (fX12_says g a1 a2) fun g7 r8 => fX12_odds_42 a1 a2 a3 c_F a1 a2 a3 r8 ((0 : Int32)) ((0 : Int32)) g7)))
set_option maxRecDepth 100000 in
set_option maxHeartbeats 4000000 in
theorem kX12_odds {l : Launch} {D : va_G} {tc : Nat → ClassId} {ad : Nat → Nat} {A : Nat → Prop} {E : (Nat → Nat) × (Nat → Nat) × Nat} (hD : c_D A ad TM) {a1 : Int32} {a2 : Int32} {a3 : Int32} {g g' : c_G} {r : Int64} (hf : fX12_odds g a1 a2 a3 = some (g', r)) : c_Ml l yX12_odds wsX12_odds (c_rm 50) D tc ad A E TM ([.ref (ad 0), .int a1, .int a2, .int a3] : List Value) g g' r := by
  refine c_ofW (bytes := cX12_odds) (maxL := 7) (ret := (some .long)) (by decide) rfl (Nat.le_of_ble_eq_true rfl) ?_
  intro p e s m below meth c ls C hP hS hl
  unfold fX12_odds at hf
  obtain ⟨hx, hb, hr, hml, hts, hown, hlk, hK, hE⟩ := id C
  have hl : lv_has ls 7 [(0, .ref (ad 0)), (1, .int a1), (2, .int a2), (3, .int a3)] := hl
  refine lv_aload_n hx hb dX12_odds_0 rfl (lv_at hl 0 rfl) ?_
  refine lv_iload_n hx hb dX12_odds_1 rfl (lv_at hl 1 rfl) ?_
  obtain ⟨r1, hc2, hf⟩ := c_bd hf
  refine c_goi (va_runV (As := [.int a1]) (rest := []) ⟨hx, hb, hml, hown, hts⟩ (kX12_isChild hD hc2) (cwV 1 hts gX12_odds_X12_isChild rfl rfl rfl (by decide +kernel) ⟨Nat.le_of_ble_eq_true rfl, Nat.le_of_ble_eq_true rfl⟩) (c_preV hK hP hE hS tM0 rfl) rfl rfl hl.1 rfl (lv_room (Nat.le_of_ble_eq_true rfl)) dX12_odds_2 ⟨Nat.zero_le _, Nat.zero_le _⟩) hS (fun H locs hP hS => ?_)
  refine lv_if_eq (tgt := 24) hx hb dX12_odds_5 (by decide) (fun c3 => ?_) (fun c3 => ?_)
  · have hf := c_it c3 hf
    refine lv_ldc2 hx hb hown (v := (-9223372036854775808 : Int64)) (hts _ (List.mem_of_getElem? (i := 1) rfl)) dX12_odds_24 ?_
    exact c_lret hx hb hr hlk hP hS (c_inj hf) dX12_odds_27
  · have hf := c_ie c3 hf
    refine lv_iload_n hx hb dX12_odds_8 rfl (lv_at hl 2 rfl) ?_
    refine c_goi (va_runS (As := [.int a2]) (rest := []) ⟨hx, hb, hml, hown, hts⟩ (kX12_isElder (T := TM) (g := g) rfl) (va_cwS 1 hts gX12_odds_X12_isElder rfl rfl rfl (by decide +kernel) ⟨Nat.le_of_ble_eq_true rfl, Nat.le_of_ble_eq_true rfl⟩) (c_preS hK hP hE hS) rfl rfl hl.1 rfl (lv_room (Nat.le_of_ble_eq_true rfl)) dX12_odds_9 ⟨Nat.zero_le _, Nat.zero_le _⟩) hS (fun H locs hP hS => ?_)
    refine lv_if_eq (tgt := 24) hx hb dX12_odds_12 (by decide) (fun c4 => ?_) (fun c4 => ?_)
    · have hf := c_it c4 hf
      refine lv_ldc2 hx hb hown (v := (-9223372036854775808 : Int64)) (hts _ (List.mem_of_getElem? (i := 1) rfl)) dX12_odds_24 ?_
      exact c_lret hx hb hr hlk hP hS (c_inj hf) dX12_odds_27
    · have hf := c_ie c4 hf
      refine lv_iload_n hx hb dX12_odds_15 rfl (lv_at hl 3 rfl) ?_
      refine lv_iconst (v := (0 : Int32)) hx hb dX12_odds_16 (by decide) ?_
      refine lv_iconst (v := (1 : Int32)) hx hb dX12_odds_17 (by decide) ?_
      refine c_goi (va_runS (As := [.int a3, .int (0 : Int32), .int (1 : Int32)]) (rest := []) ⟨hx, hb, hml, hown, hts⟩ (kX12_isIn (T := TM) (g := g) rfl) (va_cwS 3 hts gX12_odds_X12_isIn rfl rfl rfl (by decide +kernel) ⟨Nat.le_of_ble_eq_true rfl, Nat.le_of_ble_eq_true rfl⟩) (c_preS hK hP hE hS) rfl rfl hl.1 rfl (lv_room (Nat.le_of_ble_eq_true rfl)) dX12_odds_18 ⟨Nat.zero_le _, Nat.zero_le _⟩) hS (fun H locs hP hS => ?_)
      refine lv_if_ne (tgt := 28) hx hb dX12_odds_21 (by decide) (fun c5 => ?_) (fun c5 => ?_)
      · have hf := c_ie c5 hf
        refine lv_aload_n hx hb dX12_odds_28 rfl (lv_at hl 0 rfl) ?_
        refine lv_iload_n hx hb dX12_odds_29 rfl (lv_at hl 1 rfl) ?_
        refine lv_iload_n hx hb dX12_odds_30 rfl (lv_at hl 2 rfl) ?_
        obtain ⟨g7, r8, hc6, hf⟩ := c_b2E hf
        refine c_goi (va_runV (As := [.int a1, .int a2]) (rest := []) ⟨hx, hb, hml, hown, hts⟩ (kX12_says hD hc6) (cwV 2 hts gX12_odds_X12_says rfl rfl rfl (by decide +kernel) ⟨Nat.le_of_ble_eq_true rfl, Nat.le_of_ble_eq_true rfl⟩) (c_preV hK hP hE hS tM0 rfl) rfl rfl hl.1 rfl (lv_room (Nat.le_of_ble_eq_true rfl)) dX12_odds_31 ⟨Nat.zero_le _, Nat.zero_le _⟩) hS (fun H locs hP hS => ?_)
        refine lv_istore (lv' := [(4, .int r8), (0, .ref (ad 0)), (1, .int a1), (2, .int a2), (3, .int a3)]) hx hb dX12_odds_34 hl (by decide) rfl (fun ls hl => ?_)
        refine lv_iconst (v := (0 : Int32)) hx hb dX12_odds_36 (by decide) ?_
        refine lv_istore (lv' := [(5, .int (0 : Int32)), (4, .int r8), (0, .ref (ad 0)), (1, .int a1), (2, .int a2), (3, .int a3)]) hx hb dX12_odds_37 hl (by decide) rfl (fun ls hl => ?_)
        refine lv_iconst (v := (0 : Int32)) hx hb dX12_odds_39 (by decide) ?_
        refine lv_istore (lv' := [(6, .int (0 : Int32)), (5, .int (0 : Int32)), (4, .int r8), (0, .ref (ad 0)), (1, .int a1), (2, .int a2), (3, .int a3)]) hx hb dX12_odds_40 hl (by decide) rfl (fun ls hl => ?_)
        exact jX12_odds_42 C hD c_F a1 a2 a3 r8 ((0 : Int32)) ((0 : Int32)) g7 hf _ _ hP hS _ (lv_sub hl [3, 4, 5, 6, 2, 1, 0] rfl)
      · have hf := c_it c5 hf
        refine lv_ldc2 hx hb hown (v := (-9223372036854775808 : Int64)) (hts _ (List.mem_of_getElem? (i := 1) rfl)) dX12_odds_24 ?_
        exact c_lret hx hb hr hlk hP hS (c_inj hf) dX12_odds_27
theorem i_X12_mean_X12 : ∀ w ∈ u_ws RX12 TX12 32, w ∈ wsX12_mean := c_inP [132, 133, 134, 135, 136, 137, 138, 139, 140, 141, 142, 143, 144, 145, 146, 147, 148, 149, 150, 151, 152, 153, 154, 155, 156, 157, 158, 159, 160, 161, 162, 163] (by decide +kernel)
theorem dX12_mean_0 : decode cX12_mean 0 = .ok (.iload_n 1, 1) := by decide +kernel
theorem dX12_mean_1 : decode cX12_mean 1 = .ok (.iconst 0, 1) := by decide +kernel
theorem dX12_mean_2 : decode cX12_mean 2 = .ok (.bipush 60, 2) := by decide +kernel
theorem dX12_mean_4 : decode cX12_mean 4 = .ok (.invokestatic 85, 3) := by decide +kernel
theorem dX12_mean_7 : decode cX12_mean 7 = .ok (.ifCond .eq 22, 3) := by decide +kernel
theorem dX12_mean_10 : decode cX12_mean 10 = .ok (.iload_n 2, 1) := by decide +kernel
theorem dX12_mean_11 : decode cX12_mean 11 = .ok (.iconst 0, 1) := by decide +kernel
theorem dX12_mean_12 : decode cX12_mean 12 = .ok (.iconst 1, 1) := by decide +kernel
theorem dX12_mean_13 : decode cX12_mean 13 = .ok (.invokestatic 85, 3) := by decide +kernel
theorem dX12_mean_16 : decode cX12_mean 16 = .ok (.ifCond .eq 13, 3) := by decide +kernel
theorem dX12_mean_19 : decode cX12_mean 19 = .ok (.aload_n 0, 1) := by decide +kernel
theorem dX12_mean_20 : decode cX12_mean 20 = .ok (.getfield 15, 3) := by decide +kernel
theorem dX12_mean_23 : decode cX12_mean 23 = .ok (.bipush 78, 2) := by decide +kernel
theorem dX12_mean_25 : decode cX12_mean 25 = .ok (.iaload, 1) := by decide +kernel
theorem dX12_mean_26 : decode cX12_mean 26 = .ok (.ifCond .ne 7, 3) := by decide +kernel
theorem dX12_mean_29 : decode cX12_mean 29 = .ok (.ldc2_w 247, 3) := by decide +kernel
theorem dX12_mean_32 : decode cX12_mean 32 = .ok (.lreturn, 1) := by decide +kernel
theorem dX12_mean_33 : decode cX12_mean 33 = .ok (.aload_n 0, 1) := by decide +kernel
theorem dX12_mean_34 : decode cX12_mean 34 = .ok (.iconst 0, 1) := by decide +kernel
theorem dX12_mean_35 : decode cX12_mean 35 = .ok (.invokevirtual 217, 3) := by decide +kernel
theorem dX12_mean_38 : decode cX12_mean 38 = .ok (.aload_n 0, 1) := by decide +kernel
theorem dX12_mean_39 : decode cX12_mean 39 = .ok (.iload_n 1, 1) := by decide +kernel
theorem dX12_mean_40 : decode cX12_mean 40 = .ok (.invokevirtual 235, 3) := by decide +kernel
theorem dX12_mean_43 : decode cX12_mean 43 = .ok (.iconst 0, 1) := by decide +kernel
theorem dX12_mean_44 : decode cX12_mean 44 = .ok (.istore_n 3, 1) := by decide +kernel
theorem dX12_mean_45 : decode cX12_mean 45 = .ok (.iconst 0, 1) := by decide +kernel
theorem dX12_mean_46 : decode cX12_mean 46 = .ok (.istore 4, 2) := by decide +kernel
theorem dX12_mean_48 : decode cX12_mean 48 = .ok (.iload 4, 2) := by decide +kernel
theorem dX12_mean_50 : decode cX12_mean 50 = .ok (.aload_n 0, 1) := by decide +kernel
theorem dX12_mean_51 : decode cX12_mean 51 = .ok (.getfield 15, 3) := by decide +kernel
theorem dX12_mean_54 : decode cX12_mean 54 = .ok (.bipush 78, 2) := by decide +kernel
theorem dX12_mean_56 : decode cX12_mean 56 = .ok (.iaload, 1) := by decide +kernel
theorem dX12_mean_57 : decode cX12_mean 57 = .ok (.if_icmp .ge 22, 3) := by decide +kernel
theorem dX12_mean_60 : decode cX12_mean 60 = .ok (.iload_n 3, 1) := by decide +kernel
theorem dX12_mean_61 : decode cX12_mean 61 = .ok (.aload_n 0, 1) := by decide +kernel
theorem dX12_mean_62 : decode cX12_mean 62 = .ok (.iload 4, 2) := by decide +kernel
theorem dX12_mean_64 : decode cX12_mean 64 = .ok (.iconst 2, 1) := by decide +kernel
theorem dX12_mean_65 : decode cX12_mean 65 = .ok (.invokevirtual 89, 3) := by decide +kernel
theorem dX12_mean_68 : decode cX12_mean 68 = .ok (.invokestatic 238, 3) := by decide +kernel
theorem dX12_mean_71 : decode cX12_mean 71 = .ok (.iadd, 1) := by decide +kernel
theorem dX12_mean_72 : decode cX12_mean 72 = .ok (.istore_n 3, 1) := by decide +kernel
theorem dX12_mean_73 : decode cX12_mean 73 = .ok (.iinc 4 1, 3) := by decide +kernel
theorem dX12_mean_76 : decode cX12_mean 76 = .ok (.goto (-28), 3) := by decide +kernel
theorem dX12_mean_79 : decode cX12_mean 79 = .ok (.aload_n 0, 1) := by decide +kernel
theorem dX12_mean_80 : decode cX12_mean 80 = .ok (.iconst 0, 1) := by decide +kernel
theorem dX12_mean_81 : decode cX12_mean 81 = .ok (.invokevirtual 220, 3) := by decide +kernel
theorem dX12_mean_84 : decode cX12_mean 84 = .ok (.iload_n 3, 1) := by decide +kernel
theorem dX12_mean_85 : decode cX12_mean 85 = .ok (.i2l, 1) := by decide +kernel
theorem dX12_mean_86 : decode cX12_mean 86 = .ok (.aload_n 0, 1) := by decide +kernel
theorem dX12_mean_87 : decode cX12_mean 87 = .ok (.getfield 15, 3) := by decide +kernel
theorem dX12_mean_90 : decode cX12_mean 90 = .ok (.bipush 78, 2) := by decide +kernel
theorem dX12_mean_92 : decode cX12_mean 92 = .ok (.iaload, 1) := by decide +kernel
theorem dX12_mean_93 : decode cX12_mean 93 = .ok (.i2l, 1) := by decide +kernel
theorem dX12_mean_94 : decode cX12_mean 94 = .ok (.iload_n 2, 1) := by decide +kernel
theorem dX12_mean_95 : decode cX12_mean 95 = .ok (.invokestatic 251, 3) := by decide +kernel
theorem dX12_mean_98 : decode cX12_mean 98 = .ok (.lreturn, 1) := by decide +kernel
set_option maxRecDepth 20000 in
theorem ggX12_mean_X12_isIn : GoodIn wsX12_mean wsX12_isIn := goodIn_r _ [6] (by decide +kernel) (by decide +kernel)
set_option maxRecDepth 20000 in
theorem gX12_mean_X12_isIn : GoodIn wsX12_mean (va_wsS RX12 85 yX12_isIn wsX12_isIn) := goodIn_app (goodIn_of _ (by decide +kernel)) ggX12_mean_X12_isIn
set_option maxRecDepth 20000 in
theorem ggX12_mean_X12_keep : GoodIn wsX12_mean wsX12_keep := goodIn_r _ [10, 11, 1, 132, 133, 134, 135, 136, 137, 138, 139, 140, 141, 142, 143, 144, 145, 146, 147, 148, 149, 150, 151, 152, 153, 154, 155, 156, 157, 158, 159, 160, 161, 162, 163] (by decide +kernel) (by decide +kernel)
set_option maxRecDepth 20000 in
theorem gX12_mean_X12_keep : GoodIn wsX12_mean (wsV RX12 217 RX12 yX12_keep wsX12_keep) := goodIn_app (goodIn_of _ (by decide +kernel)) ggX12_mean_X12_keep
set_option maxRecDepth 20000 in
theorem ggX12_mean_X12_sundays : GoodIn wsX12_mean wsX12_sundays := goodIn_r _ [15, 16, 17, 18, 5, 19, 1, 20, 21, 22, 23, 24, 25, 26, 27, 28, 29, 30, 31, 32, 33, 34, 35, 36, 37, 38, 39, 40, 41, 42, 43, 44, 45, 46, 47, 48, 49, 50, 51, 52, 53, 54, 55, 56, 57, 58, 59, 60, 61, 62, 63, 64, 65, 66, 67, 68, 69, 70, 71, 72, 73, 74, 75, 76, 77, 78, 79, 80, 81, 82, 83, 84, 85, 86, 87, 88, 89, 90, 91, 92, 93, 94, 95, 96, 97, 98, 99, 100, 101, 102, 103, 104, 105, 106, 107, 108, 109, 110, 111, 112, 113, 114, 115, 116, 117, 118, 119, 120, 121, 132, 133, 134, 135, 136, 137, 138, 139, 140, 141, 142, 143, 144, 145, 146, 147, 148, 149, 150, 151, 152, 153, 154, 155, 156, 157, 158, 159, 160, 161, 162, 163] (by decide +kernel) (by decide +kernel)
set_option maxRecDepth 20000 in
theorem gX12_mean_X12_sundays : GoodIn wsX12_mean (wsV RX12 235 RX12 yX12_sundays wsX12_sundays) := goodIn_app (goodIn_of _ (by decide +kernel)) ggX12_mean_X12_sundays
set_option maxRecDepth 20000 in
theorem ggX12_mean_X12_one : GoodIn wsX12_mean wsX12_one := goodIn_r _ [23, 1, 132, 133, 134, 135, 136, 137, 138, 139, 140, 141, 142, 143, 144, 145, 146, 147, 148, 149, 150, 151, 152, 153, 154, 155, 156, 157, 158, 159, 160, 161, 162, 163] (by decide +kernel) (by decide +kernel)
set_option maxRecDepth 20000 in
theorem gX12_mean_X12_one : GoodIn wsX12_mean (wsV RX12 89 RX12 yX12_one wsX12_one) := goodIn_app (goodIn_of _ (by decide +kernel)) ggX12_mean_X12_one
set_option maxRecDepth 20000 in
theorem ggX12_mean_X12_many : GoodIn wsX12_mean wsX12_many := goodIn_r _ [124] (by decide +kernel) (by decide +kernel)
set_option maxRecDepth 20000 in
theorem gX12_mean_X12_many : GoodIn wsX12_mean (va_wsS RX12 238 yX12_many wsX12_many) := goodIn_app (goodIn_of _ (by decide +kernel)) ggX12_mean_X12_many
set_option maxRecDepth 20000 in
theorem ggX12_mean_X12_lay : GoodIn wsX12_mean wsX12_lay := goodIn_r _ [128, 1, 11, 132, 133, 134, 135, 136, 137, 138, 139, 140, 141, 142, 143, 144, 145, 146, 147, 148, 149, 150, 151, 152, 153, 154, 155, 156, 157, 158, 159, 160, 161, 162, 163] (by decide +kernel) (by decide +kernel)
set_option maxRecDepth 20000 in
theorem gX12_mean_X12_lay : GoodIn wsX12_mean (wsV RX12 220 RX12 yX12_lay wsX12_lay) := goodIn_app (goodIn_of _ (by decide +kernel)) ggX12_mean_X12_lay
set_option maxRecDepth 20000 in
theorem ggX12_mean_X12_fraction : GoodIn wsX12_mean wsX12_fraction := goodIn_r _ [131] (by decide +kernel) (by decide +kernel)
set_option maxRecDepth 20000 in
theorem gX12_mean_X12_fraction : GoodIn wsX12_mean (va_wsS RX12 251 yX12_fraction wsX12_fraction) := goodIn_app (goodIn_of _ (by decide +kernel)) ggX12_mean_X12_fraction
def fX12_mean_48  (a1 : Int32) (a2 : Int32) : Nat → Int32 → Int32 → Int32 → c_G → Option (c_G × Int64)
  | 0, _, _, _, _ => none
  | n + 1, x2, x3, x4, g => if (g.1 1 78) ≤ x4 then ((fX12_lay g ((0 : Int32))).bind fun g48003 => (fX12_fraction g48003 (((x3).toInt64)) ((((g48003.1 1 78)).toInt64)) x2).bind fun r48004 => some (g48003, r48004)) else ((fX12_one g x4 ((2 : Int32))).bind fun r48006 => (fX12_many g r48006).bind fun r48008 => c_let ((x3 + r48008)) fun v48010 => c_let (x4 + (1 : Int32)) fun v48011 => (fX12_mean_48 a1 a2 n) x2 v48010 v48011 g)
set_option maxRecDepth 100000 in
set_option maxHeartbeats 4000000 in
theorem jX12_mean_48 {p : Program} {l : Launch} {e : Env} {s : State} {m : MethodId} {below : List Frame} {meth : Method} {c : Code} {D : va_G} {tc : Nat → ClassId} {ad : Nat → Nat} {A : Nat → Prop} {E : (Nat → Nat) × (Nat → Nat) × Nat} {a1 : Int32} {a2 : Int32} {g' : c_G} {r : Int64} (C : c_C p s m meth c D tc A E RX12 wsX12_mean cX12_mean 5 (some .long) ([.ref (ad 0), .int a1, .int a2] : List Value).toArray) (hD : c_D A ad TM)  : ∀ (n : Nat) (x2 : Int32) (x3 : Int32) (x4 : Int32) (g : c_G), fX12_mean_48 a1 a2 n x2 x3 x4 g = some (g', r) → ∀ (H : Heap) (locs : List Loc), va_P D vwCl (c_ws tc ad TM g) H → va_S A s.heap H locs → ∀ ls : Array Slot, lv_has ls 5 [(0, .ref (ad 0)), (2, .int x2), (3, .int x3), (4, .int x4)] → W p l e (c_rm 53) s m ([.ref (ad 0), .int a1, .int a2] : List Value).toArray below meth c H locs 0 0 (MQ below (va_Ql (fun (x : Int64) (_ : Unit) => x = r) (fun _ t => va_P D vwCl (c_ws tc ad TM g') t.heap) A) ([.ref (ad 0), .int a1, .int a2] : List Value).toArray s 0 0 A) (F0 m 48 ls []) := by
  obtain ⟨hx, hb, hr, hml, hts, hown, hlk, hK, hE⟩ := id C
  intro n
  induction n with
  | zero =>
    intro x2 x3 x4 g hf
    cases hf
  | succ n ih =>
    intro x2 x3 x4 g hf H locs hP hS ls hl
    unfold fX12_mean_48 at hf
    refine lv_iload hx hb dX12_mean_48 (lv_at hl 3 rfl) ?_
    refine lv_aload_n hx hb dX12_mean_50 rfl (lv_at hl 0 rfl) ?_
    refine c_get hx hb hts i_X12_mean_X12 hown hK hP 0 tM0 rfl 0 (by decide) (hts _ (List.mem_of_getElem? (i := 1) rfl)) (fun _ h9 => h9) rfl (v := .ref (ad 1)) rfl dX12_mean_51 ?_
    refine lv_bipush (v := (78 : Int32)) hx hb dX12_mean_54 (by decide) ?_
    refine c_iald (j := 78) hx hb hK hP 1 tM1 (by decide) (c_inV (by decide)) dX12_mean_56 ?_
    refine lv_icmp_ge (tgt := 79) hx hb dX12_mean_57 (by decide) (fun c48001 => ?_) (fun c48001 => ?_)
    · have hf := c_it c48001 hf
      refine lv_aload_n hx hb dX12_mean_79 rfl (lv_at hl 0 rfl) ?_
      refine lv_iconst (v := (0 : Int32)) hx hb dX12_mean_80 (by decide) ?_
      obtain ⟨g48003, hc48002, hf⟩ := c_bd hf
      refine c_gov (va_runV (As := [.int (0 : Int32)]) (rest := []) ⟨hx, hb, hml, hown, hts⟩ (kX12_lay hD hc48002) (cwV 1 hts gX12_mean_X12_lay rfl rfl rfl (by decide +kernel) ⟨Nat.le_of_ble_eq_true rfl, Nat.le_of_ble_eq_true rfl⟩) (c_preV hK hP hE hS tM0 rfl) rfl rfl hl.1 rfl (lv_room (Nat.le_of_ble_eq_true rfl)) dX12_mean_81 ⟨Nat.zero_le _, Nat.zero_le _⟩) hS (fun H locs hP hS => ?_)
      refine lv_iload_n hx hb dX12_mean_84 rfl (lv_at hl 2 rfl) ?_
      refine lv_i2l hx hb dX12_mean_85 rfl ?_
      refine lv_aload_n hx hb dX12_mean_86 rfl (lv_at hl 0 rfl) ?_
      refine c_get hx hb hts i_X12_mean_X12 hown hK hP 0 tM0 rfl 0 (by decide) (hts _ (List.mem_of_getElem? (i := 1) rfl)) (fun _ h9 => h9) rfl (v := .ref (ad 1)) rfl dX12_mean_87 ?_
      refine lv_bipush (v := (78 : Int32)) hx hb dX12_mean_90 (by decide) ?_
      refine c_iald (j := 78) hx hb hK hP 1 tM1 (by decide) (c_inV (by decide)) dX12_mean_92 ?_
      refine lv_i2l hx hb dX12_mean_93 rfl ?_
      refine lv_iload_n hx hb dX12_mean_94 rfl (lv_at hl 1 rfl) ?_
      obtain ⟨r48004, hc48005, hf⟩ := c_bd hf
      refine c_gol (va_runS (As := [.long ((x3).toInt64), .long (((g48003.1 1 78)).toInt64), .int x2]) (rest := []) ⟨hx, hb, hml, hown, hts⟩ (kX12_fraction hD hc48005) (va_cwS 3 hts gX12_mean_X12_fraction rfl rfl rfl (by decide +kernel) ⟨Nat.le_of_ble_eq_true rfl, Nat.le_of_ble_eq_true rfl⟩) (c_preS hK hP hE hS) rfl rfl hl.1 rfl (lv_room (Nat.le_of_ble_eq_true rfl)) dX12_mean_95 ⟨Nat.zero_le _, Nat.zero_le _⟩) hS (fun H locs hP hS => ?_)
      exact c_lret hx hb hr hlk hP hS (c_inj hf) dX12_mean_98
    · have hf := c_ie c48001 hf
      refine lv_iload_n hx hb dX12_mean_60 rfl (lv_at hl 2 rfl) ?_
      refine lv_aload_n hx hb dX12_mean_61 rfl (lv_at hl 0 rfl) ?_
      refine lv_iload hx hb dX12_mean_62 (lv_at hl 3 rfl) ?_
      refine lv_iconst (v := (2 : Int32)) hx hb dX12_mean_64 (by decide) ?_
      obtain ⟨r48006, hc48007, hf⟩ := c_bd hf
      refine c_goi (va_runV (As := [.int x4, .int (2 : Int32)]) (rest := [.int x3]) ⟨hx, hb, hml, hown, hts⟩ (kX12_one hD hc48007) (cwV 2 hts gX12_mean_X12_one rfl rfl rfl (by decide +kernel) ⟨Nat.le_of_ble_eq_true rfl, Nat.le_of_ble_eq_true rfl⟩) (c_preV hK hP hE hS tM0 rfl) rfl rfl hl.1 rfl (lv_room (Nat.le_of_ble_eq_true rfl)) dX12_mean_65 ⟨Nat.zero_le _, Nat.zero_le _⟩) hS (fun H locs hP hS => ?_)
      obtain ⟨r48008, hc48009, hf⟩ := c_bd hf
      refine c_goi (va_runS (As := [.int r48006]) (rest := [.int x3]) ⟨hx, hb, hml, hown, hts⟩ (kX12_many hD hc48009) (va_cwS 1 hts gX12_mean_X12_many rfl rfl rfl (by decide +kernel) ⟨Nat.le_of_ble_eq_true rfl, Nat.le_of_ble_eq_true rfl⟩) (c_preS hK hP hE hS) rfl rfl hl.1 rfl (lv_room (Nat.le_of_ble_eq_true rfl)) dX12_mean_68 ⟨Nat.zero_le _, Nat.zero_le _⟩) hS (fun H locs hP hS => ?_)
      refine lv_iadd hx hb dX12_mean_71 ?_
      obtain ⟨v48010, ev48010, hf⟩ := c_letE hf
      refine c_topi ev48010 ?_
      refine lv_istore_n (lv' := [(3, .int v48010), (0, .ref (ad 0)), (2, .int x2), (4, .int x4)]) hx hb dX12_mean_72 rfl hl (by decide) rfl (fun ls hl => ?_)
      obtain ⟨v48011, ev48011, hf⟩ := c_letE hf
      refine lv_iinc (v := v48011) (lv' := [(4, .int v48011), (3, .int v48010), (0, .ref (ad 0)), (2, .int x2)]) hx hb dX12_mean_73 hl (k := 3) rfl (by rw [ev48011]; rfl) (by decide) rfl (fun ls hl => ?_)
      refine lv_goto (tgt := 48) hx hb dX12_mean_76 (by decide) ?_
      exact ih x2 v48010 v48011 g hf _ _ hP hS _ (lv_sub hl [2, 3, 1, 0] rfl)
def fX12_mean (g : c_G) (a1 : Int32) (a2 : Int32) : Option (c_G × Int64) :=
  if (fX12_isIn a1 ((0 : Int32)) ((60 : Int32))) = 0 then (some (g, (-9223372036854775808 : Int64))) else (if (fX12_isIn a2 ((0 : Int32)) ((1 : Int32))) = 0 then (some (g, (-9223372036854775808 : Int64))) else (if (g.1 1 78) = 0 then (some (g, (-9223372036854775808 : Int64))) else ((fX12_keep g ((0 : Int32))).bind fun g5 => (fX12_sundays g5 a1).bind fun g7 => fX12_mean_48 a1 a2 c_F a2 ((0 : Int32)) ((0 : Int32)) g7)))
set_option maxRecDepth 100000 in
set_option maxHeartbeats 4000000 in
theorem kX12_mean {l : Launch} {D : va_G} {tc : Nat → ClassId} {ad : Nat → Nat} {A : Nat → Prop} {E : (Nat → Nat) × (Nat → Nat) × Nat} (hD : c_D A ad TM) {a1 : Int32} {a2 : Int32} {g g' : c_G} {r : Int64} (hf : fX12_mean g a1 a2 = some (g', r)) : c_Ml l yX12_mean wsX12_mean (c_rm 53) D tc ad A E TM ([.ref (ad 0), .int a1, .int a2] : List Value) g g' r := by
  refine c_ofW (bytes := cX12_mean) (maxL := 5) (ret := (some .long)) (by decide) rfl (Nat.le_of_ble_eq_true rfl) ?_
  intro p e s m below meth c ls C hP hS hl
  unfold fX12_mean at hf
  obtain ⟨hx, hb, hr, hml, hts, hown, hlk, hK, hE⟩ := id C
  have hl : lv_has ls 5 [(0, .ref (ad 0)), (1, .int a1), (2, .int a2)] := hl
  refine lv_iload_n hx hb dX12_mean_0 rfl (lv_at hl 1 rfl) ?_
  refine lv_iconst (v := (0 : Int32)) hx hb dX12_mean_1 (by decide) ?_
  refine lv_bipush (v := (60 : Int32)) hx hb dX12_mean_2 (by decide) ?_
  refine c_goi (va_runS (As := [.int a1, .int (0 : Int32), .int (60 : Int32)]) (rest := []) ⟨hx, hb, hml, hown, hts⟩ (kX12_isIn (T := TM) (g := g) rfl) (va_cwS 3 hts gX12_mean_X12_isIn rfl rfl rfl (by decide +kernel) ⟨Nat.le_of_ble_eq_true rfl, Nat.le_of_ble_eq_true rfl⟩) (c_preS hK hP hE hS) rfl rfl hl.1 rfl (lv_room (Nat.le_of_ble_eq_true rfl)) dX12_mean_4 ⟨Nat.zero_le _, Nat.zero_le _⟩) hS (fun H locs hP hS => ?_)
  refine lv_if_eq (tgt := 29) hx hb dX12_mean_7 (by decide) (fun c1 => ?_) (fun c1 => ?_)
  · have hf := c_it c1 hf
    refine lv_ldc2 hx hb hown (v := (-9223372036854775808 : Int64)) (hts _ (List.mem_of_getElem? (i := 2) rfl)) dX12_mean_29 ?_
    exact c_lret hx hb hr hlk hP hS (c_inj hf) dX12_mean_32
  · have hf := c_ie c1 hf
    refine lv_iload_n hx hb dX12_mean_10 rfl (lv_at hl 2 rfl) ?_
    refine lv_iconst (v := (0 : Int32)) hx hb dX12_mean_11 (by decide) ?_
    refine lv_iconst (v := (1 : Int32)) hx hb dX12_mean_12 (by decide) ?_
    refine c_goi (va_runS (As := [.int a2, .int (0 : Int32), .int (1 : Int32)]) (rest := []) ⟨hx, hb, hml, hown, hts⟩ (kX12_isIn (T := TM) (g := g) rfl) (va_cwS 3 hts gX12_mean_X12_isIn rfl rfl rfl (by decide +kernel) ⟨Nat.le_of_ble_eq_true rfl, Nat.le_of_ble_eq_true rfl⟩) (c_preS hK hP hE hS) rfl rfl hl.1 rfl (lv_room (Nat.le_of_ble_eq_true rfl)) dX12_mean_13 ⟨Nat.zero_le _, Nat.zero_le _⟩) hS (fun H locs hP hS => ?_)
    refine lv_if_eq (tgt := 29) hx hb dX12_mean_16 (by decide) (fun c2 => ?_) (fun c2 => ?_)
    · have hf := c_it c2 hf
      refine lv_ldc2 hx hb hown (v := (-9223372036854775808 : Int64)) (hts _ (List.mem_of_getElem? (i := 2) rfl)) dX12_mean_29 ?_
      exact c_lret hx hb hr hlk hP hS (c_inj hf) dX12_mean_32
    · have hf := c_ie c2 hf
      refine lv_aload_n hx hb dX12_mean_19 rfl (lv_at hl 0 rfl) ?_
      refine c_get hx hb hts i_X12_mean_X12 hown hK hP 0 tM0 rfl 0 (by decide) (hts _ (List.mem_of_getElem? (i := 1) rfl)) (fun _ h9 => h9) rfl (v := .ref (ad 1)) rfl dX12_mean_20 ?_
      refine lv_bipush (v := (78 : Int32)) hx hb dX12_mean_23 (by decide) ?_
      refine c_iald (j := 78) hx hb hK hP 1 tM1 (by decide) (c_inV (by decide)) dX12_mean_25 ?_
      refine lv_if_ne (tgt := 33) hx hb dX12_mean_26 (by decide) (fun c3 => ?_) (fun c3 => ?_)
      · have hf := c_ie c3 hf
        refine lv_aload_n hx hb dX12_mean_33 rfl (lv_at hl 0 rfl) ?_
        refine lv_iconst (v := (0 : Int32)) hx hb dX12_mean_34 (by decide) ?_
        obtain ⟨g5, hc4, hf⟩ := c_bd hf
        refine c_gov (va_runV (As := [.int (0 : Int32)]) (rest := []) ⟨hx, hb, hml, hown, hts⟩ (kX12_keep hD hc4) (cwV 1 hts gX12_mean_X12_keep rfl rfl rfl (by decide +kernel) ⟨Nat.le_of_ble_eq_true rfl, Nat.le_of_ble_eq_true rfl⟩) (c_preV hK hP hE hS tM0 rfl) rfl rfl hl.1 rfl (lv_room (Nat.le_of_ble_eq_true rfl)) dX12_mean_35 ⟨Nat.zero_le _, Nat.zero_le _⟩) hS (fun H locs hP hS => ?_)
        refine lv_aload_n hx hb dX12_mean_38 rfl (lv_at hl 0 rfl) ?_
        refine lv_iload_n hx hb dX12_mean_39 rfl (lv_at hl 1 rfl) ?_
        obtain ⟨g7, hc6, hf⟩ := c_bd hf
        refine c_gov (va_runV (As := [.int a1]) (rest := []) ⟨hx, hb, hml, hown, hts⟩ (kX12_sundays hD hc6) (cwV 1 hts gX12_mean_X12_sundays rfl rfl rfl (by decide +kernel) ⟨Nat.le_of_ble_eq_true rfl, Nat.le_of_ble_eq_true rfl⟩) (c_preV hK hP hE hS tM0 rfl) rfl rfl hl.1 rfl (lv_room (Nat.le_of_ble_eq_true rfl)) dX12_mean_40 ⟨Nat.zero_le _, Nat.zero_le _⟩) hS (fun H locs hP hS => ?_)
        refine lv_iconst (v := (0 : Int32)) hx hb dX12_mean_43 (by decide) ?_
        refine lv_istore_n (lv' := [(3, .int (0 : Int32)), (0, .ref (ad 0)), (1, .int a1), (2, .int a2)]) hx hb dX12_mean_44 rfl hl (by decide) rfl (fun ls hl => ?_)
        refine lv_iconst (v := (0 : Int32)) hx hb dX12_mean_45 (by decide) ?_
        refine lv_istore (lv' := [(4, .int (0 : Int32)), (3, .int (0 : Int32)), (0, .ref (ad 0)), (1, .int a1), (2, .int a2)]) hx hb dX12_mean_46 hl (by decide) rfl (fun ls hl => ?_)
        exact jX12_mean_48 C hD c_F a2 ((0 : Int32)) ((0 : Int32)) g7 hf _ _ hP hS _ (lv_sub hl [2, 4, 1, 0] rfl)
      · have hf := c_it c3 hf
        refine lv_ldc2 hx hb hown (v := (-9223372036854775808 : Int64)) (hts _ (List.mem_of_getElem? (i := 2) rfl)) dX12_mean_29 ?_
        exact c_lret hx hb hr hlk hP hS (c_inj hf) dX12_mean_32
