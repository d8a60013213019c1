/-! MAKING WORLDS: cell after cell from an address on -/
def n_ad (h0 : Nat) : Nat → Nat := fun k => h0 + k
def n_A (h0 : Nat) : Nat → Prop := fun q => h0 ≤ q
theorem n_D (h0 : Nat) (T : List c_T) : c_D (n_A h0) (n_ad h0) T := by
  refine ⟨fun i j _ _ e => ?_, fun i _ => ?_⟩
  · unfold n_ad at e
    omega
  · unfold n_A n_ad
    omega
theorem n_wF {tc : Nat → ClassId} {ad : Nat → Nat} {g : c_G} : ∀ (T X : List c_T) (k : Nat), c_wF tc ad g k (T ++ X) = c_wF tc ad g k T ++ c_wF tc ad g (k + T.length) X
  | [], X, k => rfl
  | t :: T, X, k => by
    show (ad k, c_cell tc ad g k t) :: c_wF tc ad g (k + 1) (T ++ X) = (ad k, c_cell tc ad g k t) :: (c_wF tc ad g (k + 1) T ++ c_wF tc ad g (k + (T.length + 1)) X)
    rw [n_wF T X (k + 1), show k + 1 + T.length = k + (T.length + 1) by omega]
theorem n_wsa {tc : Nat → ClassId} {ad : Nat → Nat} {g : c_G} {T : List c_T} {t : c_T} : c_ws tc ad (T ++ [t]) g = c_ws tc ad T g ++ [(ad T.length, c_cell tc ad g T.length t)] := by
  unfold c_ws
  rw [n_wF, Nat.zero_add]
  rfl
theorem n_wset {tc : Nat → ClassId} {ad : Nat → Nat} {g : c_G} {t' : c_T} : ∀ (T : List c_T) (k h : Nat), h < T.length → (c_wF tc ad g k T).set h (ad (k + h), c_cell tc ad g (k + h) t') = c_wF tc ad g k (T.set h t')
  | [], k, h, hl => absurd hl (by simp)
  | t :: T, k, 0, _ => rfl
  | t :: T, k, h + 1, hl => by
    show (ad k, c_cell tc ad g k t) :: (c_wF tc ad g (k + 1) T).set h (ad (k + (h + 1)), c_cell tc ad g (k + (h + 1)) t') = (ad k, c_cell tc ad g k t) :: c_wF tc ad g (k + 1) (T.set h t')
    rw [← n_wset T (k + 1) h (Nat.lt_of_succ_lt_succ hl), show k + 1 + h = k + (h + 1) by omega]
theorem n_wsset {tc : Nat → ClassId} {ad : Nat → Nat} {g : c_G} {t' : c_T} {T : List c_T} {h : Nat} (hl : h < T.length) : (c_ws tc ad T g).set h (ad h, c_cell tc ad g h t') = c_ws tc ad (T.set h t') g := by
  have e := n_wset (tc := tc) (ad := ad) (g := g) (t' := t') T 0 h hl
  rw [Nat.zero_add] at e
  exact e
theorem n_fset {ad : Nat → Nat} {I : Nat → Int32} {r f : Nat} : ∀ (l : List Nat) (k j : Nat), (c_fs ad I r k l).set j (c_fv ad I r (k + j) f) = c_fs ad I r k (l.set j f)
  | [], k, j => rfl
  | x :: l, k, 0 => rfl
  | x :: l, k, j + 1 => by
    show c_fv ad I r k x :: (c_fs ad I r (k + 1) l).set j (c_fv ad I r (k + (j + 1)) f) = c_fv ad I r k x :: c_fs ad I r (k + 1) (l.set j f)
    rw [← n_fset l (k + 1) j, show k + 1 + j = k + (j + 1) by omega]
theorem n_fl0 {ad ad2 : Nat → Nat} {I I2 : Nat → Int32} {r r2 : Nat} (hI : ∀ j, I j = I2 j) : ∀ (l : List Nat) (k : Nat), (∀ x ∈ l, x = 0 ∨ x = 2) → c_fs ad I r k l = c_fs ad2 I2 r2 k l
  | [], _, _ => rfl
  | x :: l, k, h => by
    show c_fv ad I r k x :: c_fs ad I r (k + 1) l = c_fv ad2 I2 r2 k x :: c_fs ad2 I2 r2 (k + 1) l
    rw [n_fl0 hI l (k + 1) (fun y hy => h y (List.mem_cons_of_mem _ hy))]
    refine congrArg (· :: _) ?_
    rcases h x List.mem_cons_self with rfl | rfl
    · exact congrArg Value.int (hI k)
    · rfl
theorem n_el0 {ad : Nat → Nat} {N : Nat} : c_el ad (List.replicate N 2) = fun _ => none := by
  funext j
  unfold c_el
  by_cases h : j < N
  · rw [List.getElem?_eq_getElem (by rw [List.length_replicate]; exact h), List.getElem_replicate]
  · rw [List.getElem?_eq_none (by rw [List.length_replicate]; omega)]
theorem n_elset {ad : Nat → Nat} {l : List Nat} {k r : Nat} (hk : k < l.length) : va_up (c_el ad l) k (some (ad r)) = c_el ad (l.set k (r + 3)) := by
  funext j
  unfold va_up c_el
  by_cases e : j = k
  · subst e
    rw [if_pos rfl, List.getElem?_set_self hk]
  · rw [if_neg e, List.getElem?_set_ne (Ne.symm e)]
def n_nest : List (String × Nat × MethodName) := [(RX11, 39, yX0_init), (RX11, 57, yX2_init), (RX11, 60, yX1_init), (RX11, 63, yX9_init), (RX11, 66, yX6_init), (RX11, 69, yX3_init), (RX11, 72, yX4_init), (RX11, 75, yX8_init), (RX1, 3, yX2_init), (RX9, 1, yX2_init), (RX6, 3, yX2_init), (RX3, 3, yX1_init), (RX4, 1, yX9_init), (RX8, 3, yX6_init), (RX11, 80, yX10_init)]
def n_cast : List String := [RX1, RX9, RX6, RX3, RX4, RX8]
/-- what the tables say of nest mates and of the kinds, beside the words -/
def n_C (U : State) : Prop := (∀ C ∈ n_cast, va_Nw (.castable C RX2) U) ∧ ∀ q ∈ n_nest, va_Nw (.methodLinkNest q.1 q.2.1 q.2.2 RX11) U
theorem n_C.warm {s U : State} (hW : s.WarmedH U.vm) (h : n_C s) : n_C U := ⟨fun C hC => (h.1 C hC).warmC hW, fun q hq => (h.2 q hq).warmM hW⟩
theorem n_C.same {s U : State} (e : s.vm = U.vm) (h : n_C s) : n_C U := ⟨fun C hC => (h.1 C hC).same rfl e, fun q hq => (h.2 q hq).same rfl e⟩
section NR
variable {p : Program} {l : Launch} {e : Env} {R : Room} {s : State} {m : MethodId} {args : Array Value} {below : List Frame} {meth : Method} {c : Code} {H : Heap} {locs : List Loc} {cells slots : Nat} {Q : State → Prop}
variable {cc : ByteArray} {pc : Nat} {ls : Array Slot} {rest st0 As : List Value} {D : va_G} {tc : Nat → ClassId} {h0 : Nat} {T T' : List c_T} {g g' : c_G} {E : (Nat → Nat) × (Nat → Nat) × Nat} {a : Array Value}
theorem n_lo (hP : va_P D vwCl (c_ws tc (n_ad h0) T g) H) (hT : 0 < T.length) : h0 + T.length ≤ H.size := by
  have h := (hP (T.length - 1) _ (c_ws_at (T.length - 1) (List.getElem?_eq_getElem (by omega)))).lt
  have h2 : h0 + (T.length - 1) < H.size := h
  omega
/-- the heap ends where the world ends -/
theorem n_hz (hP : va_P D vwCl (c_ws tc (n_ad h0) T g) H) (hT : 0 < T.length) (hn : s.heap.size + cells = h0 + T.length) (k : H.size = h0 + T.length → W p l e R s m args below meth c H locs cells slots Q (F0 m pc ls rest)) : W p l e R s m args below meth c H locs cells slots Q (F0 m pc ls rest) := by
  intro X hX St
  have h1 := St.heapSize
  rw [hX] at h1
  have h2 := n_lo hP hT
  exact k (by omega) X hX St
/-- a cell more -/
theorem n_push {H1 : Heap} {t : c_T} (hP : va_P D vwCl (c_ws tc (n_ad h0) T g) H) (hz : H.size = h0 + T.length) (ho : ∀ q : Nat, q < H.size → H1[q]? = H[q]?) (hc : va_at D vwCl (n_ad h0 T.length, c_cell tc (n_ad h0) g T.length t) H1) : va_P D vwCl (c_ws tc (n_ad h0) (T ++ [t]) g) H1 := by
  rw [n_wsa]
  refine (hP.kept fun k x hx => ho x.1 ((hP k x hx).lt)).app fun k x hx => ?_
  have hk : k < 1 := (List.getElem?_eq_some_iff.mp hx).1
  rw [show k = 0 by omega] at hx
  cases hx
  exact hc
theorem n_pushS {A : Nat → Prop} {H1 : Heap} (hS : va_S A s.heap H locs) (hz1 : H1.size = H.size + 1) (ho : ∀ q : Nat, q < H.size → H1[q]? = H[q]?) : va_S A s.heap H1 locs :=
  ⟨Nat.le_trans hS.1 (by omega), fun x h1 h2 => (ho x (Nat.lt_of_lt_of_le h1 hS.1)).trans (hS.2.1 x h1 h2), hS.2.2⟩
theorem n_new (hexec : p.tables.exec = Jvm.exec) (hb : c.code = cc) {own C : String} {TT : u_T} {N ci index : Nat} {Ts : List Cond} (hts : ∀ w ∈ Ts, w.before args s = true) (hin : ∀ w ∈ u_ws C TT N, w ∈ Ts) (ty : Nat → FieldType) (hty : ∀ k, k < N → parseFieldDescriptor (TT k).2.2.1 = some (ty k)) (hown : s.vm.findClass own = some m.cls) (hcl : (Cond.classLink own index C).before args s = true) (hinst : (Cond.instantiable C N).before args s = true) (hini : (Cond.initialized C).before args s = true)
    (hK : va_K D vwCl (c_tys tc) s) (hP : va_P D vwCl (c_ws tc (n_ad h0) T g) H) (hz : H.size = h0 + T.length) {A : Nat → Prop} (hS : va_S A s.heap H locs) (hc : vwCl[ci]? = some (C, TT, N)) {fl : List Nat} (h02 : ∀ x ∈ fl, x = 0 ∨ x = 2) (hg0 : ∀ j, g.1 T.length j = 0) (hfs : ∀ j, j < N → defaultValue (ty j) = vp_V (c_fs (fun _ => 0) (fun _ => 0) 0 0 fl) j) (hcells : cells + 1 ≤ R.cells) (hslots : slots + N ≤ R.slots) (hdg : decode cc pc = .ok (.new index, 3))
    (kk : ∀ H1 : Heap, va_P D vwCl (c_ws tc (n_ad h0) (T ++ [(0, ci, fl)]) g) H1 → H1.size = h0 + (T ++ [((0, ci, fl) : c_T)]).length → va_S A s.heap H1 locs → W p l e R s m args below meth c H1 locs (cells + 1) (slots + N) Q (F0 m (pc + 3) ls (.ref (n_ad h0 T.length) :: rest))) : W p l e R s m args below meth c H locs cells slots Q (F0 m pc ls rest) := by
  have hKn := hK.1 ci _ hc
  refine W.newcK hexec hb hown hcl hinst hini rfl hdg hcells hslots hKn.2.1 hz fun H1 kC hkC e1 z1 o1 => ?_
  rw [← hz] at z1 o1
  refine kk H1 (n_push hP hz o1 ⟨_, hc, (u_born ty hts hin hKn hkC e1 hty).to fun k hk => ?_⟩) ?_ (n_pushS hS z1 o1)
  · rw [hfs k hk]
    show _ = vp_V (c_fs (n_ad h0) (g.1 T.length) (g.2.2 T.length) 0 fl) k
    rw [n_fl0 (ad2 := fun _ => 0) (I2 := fun _ => 0) (r2 := 0) hg0 fl 0 h02]
  · rw [z1, hz, List.length_append]
    rfl
theorem n_newa {atype : ArrayType} (hexec : p.tables.exec = Jvm.exec) (hb : c.code = cc) (harr : (Cond.arrayClass (newarray.typeOf atype)).before args s = true) {t : c_T} {cA : ClassId} {n : Int32} {N : Nat} (hf : s.vm.findClass ("[" ++ (newarray.typeOf atype).toString) = some cA) (hcell : ∃ a0, c_cell tc (n_ad h0) g T.length t = .inl (cA, a0) ∧ vp_cell cA a0 = arrV cA N (fun _ => defaultValue (newarray.typeOf atype)))
    (hP : va_P D vwCl (c_ws tc (n_ad h0) T g) H) (hz : H.size = h0 + T.length) {A : Nat → Prop} (hS : va_S A s.heap H locs) (hn : ¬ n < 0) (hN : n.toNatClampNeg = N) (hbytes : N * componentBytes (newarray.typeOf atype) ≤ 536870912) (hcells : cells + 1 ≤ R.cells) (hslots : slots + N ≤ R.slots) (hdg : decode cc pc = .ok (.newarray atype, 2))
    (kk : ∀ H1 : Heap, va_P D vwCl (c_ws tc (n_ad h0) (T ++ [t]) g) H1 → H1.size = h0 + (T ++ [t]).length → va_S A s.heap H1 locs → W p l e R s m args below meth c H1 locs (cells + 1) (slots + N) Q (F0 m (pc + 2) ls (.ref (n_ad h0 T.length) :: rest))) : W p l e R s m args below meth c H locs cells slots Q (F0 m pc ls (.int n :: rest)) := by
  refine va_newaK hexec hb harr rfl hdg rfl hn hN hbytes hcells hslots hz fun H1 cA1 e1 z1 o1 hAr hNm => ?_
  rw [← hz] at z1 o1
  cases hf.symm.trans hNm
  obtain ⟨a0, q1, q2⟩ := hcell
  refine kk H1 (n_push hP hz o1 ?_) ?_ (n_pushS hS z1 o1)
  · rw [q1]
    show H1[n_ad h0 T.length]? = some (vp_cell cA a0)
    rw [q2]
    exact e1
  · rw [z1, hz, List.length_append]
    rfl
theorem n_newI (hexec : p.tables.exec = Jvm.exec) (hb : c.code = cc) (harr : (Cond.arrayClass .int).before args s = true) (hK : va_K D vwCl (c_tys tc) s) (hP : va_P D vwCl (c_ws tc (n_ad h0) T g) H) (hz : H.size = h0 + T.length) {A : Nat → Prop} (hS : va_S A s.heap H locs) (hg0 : ∀ j, g.1 T.length j = 0) {n : Int32} (N : Nat) (hn : ¬ n < 0) (hN : n.toNatClampNeg = N) (hbytes : N * 4 ≤ 536870912) (hcells : cells + 1 ≤ R.cells) (hslots : slots + N ≤ R.slots) (hdg : decode cc pc = .ok (.newarray .int, 2))
    (kk : ∀ H1 : Heap, va_P D vwCl (c_ws tc (n_ad h0) (T ++ [(1, N, [])]) g) H1 → H1.size = h0 + (T ++ [((1, N, []) : c_T)]).length → va_S A s.heap H1 locs → W p l e R s m args below meth c H1 locs (cells + 1) (slots + N) Q (F0 m (pc + 2) ls (.ref (n_ad h0 T.length) :: rest))) : W p l e R s m args below meth c H locs cells slots Q (F0 m pc ls (.int n :: rest)) :=
  n_newa (atype := .int) (t := (1, N, [])) hexec hb harr (hK.2 0 _ rfl).2 ⟨(N, .inl (g.1 T.length)), rfl, by rw [show g.1 T.length = fun _ => 0 from funext hg0]; rfl⟩ hP hz hS hn hN hbytes hcells hslots hdg kk
theorem n_newL (hexec : p.tables.exec = Jvm.exec) (hb : c.code = cc) (harr : (Cond.arrayClass .long).before args s = true) (hK : va_K D vwCl (c_tys tc) s) (hP : va_P D vwCl (c_ws tc (n_ad h0) T g) H) (hz : H.size = h0 + T.length) {A : Nat → Prop} (hS : va_S A s.heap H locs) (hg0 : ∀ j, g.2.1 T.length j = 0) {n : Int32} (N : Nat) (hn : ¬ n < 0) (hN : n.toNatClampNeg = N) (hbytes : N * 8 ≤ 536870912) (hcells : cells + 1 ≤ R.cells) (hslots : slots + N ≤ R.slots) (hdg : decode cc pc = .ok (.newarray .long, 2))
    (kk : ∀ H1 : Heap, va_P D vwCl (c_ws tc (n_ad h0) (T ++ [(2, N, [])]) g) H1 → H1.size = h0 + (T ++ [((2, N, []) : c_T)]).length → va_S A s.heap H1 locs → W p l e R s m args below meth c H1 locs (cells + 1) (slots + N) Q (F0 m (pc + 2) ls (.ref (n_ad h0 T.length) :: rest))) : W p l e R s m args below meth c H locs cells slots Q (F0 m pc ls (.int n :: rest)) :=
  n_newa (atype := .long) (t := (2, N, [])) hexec hb harr (hK.2 1 _ rfl).2 ⟨(N, .inr (.inl (g.2.1 T.length))), rfl, by rw [show g.2.1 T.length = fun _ => 0 from funext hg0]; rfl⟩ hP hz hS hn hN hbytes hcells hslots hdg kk
theorem n_newB (hexec : p.tables.exec = Jvm.exec) (hb : c.code = cc) (harr : (Cond.arrayClass .byte).before args s = true) (hK : va_K D vwCl (c_tys tc) s) (hP : va_P D vwCl (c_ws tc (n_ad h0) T g) H) (hz : H.size = h0 + T.length) {A : Nat → Prop} (hS : va_S A s.heap H locs) (hg0 : ∀ j, g.1 T.length j = 0) {n : Int32} (N : Nat) (hn : ¬ n < 0) (hN : n.toNatClampNeg = N) (hbytes : N * 1 ≤ 536870912) (hcells : cells + 1 ≤ R.cells) (hslots : slots + N ≤ R.slots) (hdg : decode cc pc = .ok (.newarray .byte, 2))
    (kk : ∀ H1 : Heap, va_P D vwCl (c_ws tc (n_ad h0) (T ++ [(3, N, [])]) g) H1 → H1.size = h0 + (T ++ [((3, N, []) : c_T)]).length → va_S A s.heap H1 locs → W p l e R s m args below meth c H1 locs (cells + 1) (slots + N) Q (F0 m (pc + 2) ls (.ref (n_ad h0 T.length) :: rest))) : W p l e R s m args below meth c H locs cells slots Q (F0 m pc ls (.int n :: rest)) :=
  n_newa (atype := .byte) (t := (3, N, [])) hexec hb harr (hK.2 2 _ rfl).2 ⟨(N, .inl (g.1 T.length)), rfl, by rw [show g.1 T.length = fun _ => 0 from funext hg0]; rfl⟩ hP hz hS hn hN hbytes hcells hslots hdg kk
theorem n_newC (hexec : p.tables.exec = Jvm.exec) (hb : c.code = cc) (harr : (Cond.arrayClass .char).before args s = true) (hK : va_K D vwCl (c_tys tc) s) (hP : va_P D vwCl (c_ws tc (n_ad h0) T g) H) (hz : H.size = h0 + T.length) {A : Nat → Prop} (hS : va_S A s.heap H locs) (hg0 : ∀ j, g.1 T.length j = 0) {n : Int32} (N : Nat) (hn : ¬ n < 0) (hN : n.toNatClampNeg = N) (hbytes : N * 2 ≤ 536870912) (hcells : cells + 1 ≤ R.cells) (hslots : slots + N ≤ R.slots) (hdg : decode cc pc = .ok (.newarray .char, 2))
    (kk : ∀ H1 : Heap, va_P D vwCl (c_ws tc (n_ad h0) (T ++ [(4, N, [])]) g) H1 → H1.size = h0 + (T ++ [((4, N, []) : c_T)]).length → va_S A s.heap H1 locs → W p l e R s m args below meth c H1 locs (cells + 1) (slots + N) Q (F0 m (pc + 2) ls (.ref (n_ad h0 T.length) :: rest))) : W p l e R s m args below meth c H locs cells slots Q (F0 m pc ls (.int n :: rest)) :=
  n_newa (atype := .char) (t := (4, N, [])) hexec hb harr (hK.2 3 _ rfl).2 ⟨(N, .inl (g.1 T.length)), rfl, by rw [show g.1 T.length = fun _ => 0 from funext hg0]; rfl⟩ hP hz hS hn hN hbytes hcells hslots hdg kk
theorem n_anew (hexec : p.tables.exec = Jvm.exec) (hb : c.code = cc) {own C : String} {index : Nat} (hown : s.vm.findClass own = some m.cls) (hclink : (Cond.classLink own index C).before args s = true) (hover : (Cond.arrayOver (.object C)).before args s = true) {kd : Nat} {cA : ClassId} {N : Nat} (hf : s.vm.findClass ("[" ++ (FieldType.object C).toString) = some cA) (hkd : c_cell tc (n_ad h0) g T.length (kd, N, List.replicate N 2) = .inl (cA, N, .inr (.inr (.inr (.inr (c_el (n_ad h0) (List.replicate N 2)))))))
    (hP : va_P D vwCl (c_ws tc (n_ad h0) T g) H) (hz : H.size = h0 + T.length) {A : Nat → Prop} (hS : va_S A s.heap H locs) {n : Int32} (hn : ¬ n < 0) (hN : n.toNatClampNeg = N) (hbytes : N * 4 ≤ 536870912) (hcells : cells + 1 ≤ R.cells) (hslots : slots + N ≤ R.slots) (hdg : decode cc pc = .ok (.anewarray index, 3))
    (kk : ∀ H1 : Heap, va_P D vwCl (c_ws tc (n_ad h0) (T ++ [(kd, N, List.replicate N 2)]) g) H1 → H1.size = h0 + (T ++ [((kd, N, List.replicate N 2) : c_T)]).length → va_S A s.heap H1 locs → W p l e R s m args below meth c H1 locs (cells + 1) (slots + N) Q (F0 m (pc + 3) ls (.ref (n_ad h0 T.length) :: rest))) : W p l e R s m args below meth c H locs cells slots Q (F0 m pc ls (.int n :: rest)) := by
  subst hN
  refine W.anew hexec hb hown hclink hover rfl hdg rfl hn hbytes hcells hslots fun cA1 kA comp f1 f2 f3 f4 => ?_
  cases hf.symm.trans f1
  generalize hH1 : H.push ({ cls := cA, slots := Array.replicate n.toNatClampNeg .null, vm := .none } : Cell) = H1
  have z1 : H1.size = H.size + 1 := by rw [← hH1, Array.size_push]
  have e1 : H1[H.size]? = some (arrV cA n.toNatClampNeg (fun _ => .null)) := by rw [← hH1, Array.getElem?_push_size, ← arrV_new]
  have o1 : ∀ q : Nat, q < H.size → H1[q]? = H[q]? := fun q hq => by rw [← hH1, Array.getElem?_push, if_neg (Nat.ne_of_lt hq)]
  have k := kk H1 (n_push hP hz o1 (by
    rw [hkd]
    show H1[n_ad h0 T.length]? = some (vp_cell _ _)
    rw [vp_cell_q, n_el0, show n_ad h0 T.length = H.size from hz.symm]
    exact e1)) (by rw [z1, hz, List.length_append]; rfl) (n_pushS hS z1 o1)
  rw [show n_ad h0 T.length = H.size from hz.symm] at k
  exact k
/-- a field of an object takes a reference (or a holder) -/
theorem n_putF (hexec : p.tables.exec = Jvm.exec) (hb : c.code = cc) {own ref C : String} {TT : u_T} {N ci index : Nat} {Ts : List Cond} (hts : ∀ w ∈ Ts, w.before args s = true) (hin : ∀ w ∈ u_ws C TT N, w ∈ Ts) (ty0 : Nat → FieldType) (hty : ∀ k, k < N → parseFieldDescriptor (TT k).2.2.1 = some (ty0 k)) (hnm : ∀ a, a < N → ∀ b, b < N → a ≠ b → (TT a).2.1 ≠ (TT b).2.1) (hown : s.vm.findClass own = some m.cls) (hK : va_K D vwCl (c_tys tc) s) (hP : va_P D vwCl (c_ws tc (n_ad h0) T g) H) (hS0 : va_S (n_A h0) s.heap H locs) (h : Nat) {fl : List Nat} (ht : T[h]? = some (0, ci, fl)) (hc : vwCl[ci]? = some (C, TT, N)) (k : Nat) (hk : k < N) (hlink : (Cond.fieldLink own index ref (TT k).2.1 (TT k).2.2.1).before args s = true) (hsame : ∀ x, s.fieldFound? (TT k).1 (TT k).2.1 (TT k).2.2.1 = some x → s.fieldFound? ref (TT k).2.1 (TT k).2.2.1 = some x) (hfin : (TT k).2.2.2 = true) (hin2 : meth.name = "<init>") (hdecl : (TT k).1 = own) {ty : FieldType} {v : Value} (hd : parseFieldDescriptor (TT k).2.2.1 = some ty) (hn : narrow ty v = v) (hfit : fits ty v = true) (hl : k < fl.length) (f : Nat) (hf : c_fv (n_ad h0) (g.1 h) (g.2.2 h) k f = v) (hT : T.set h (0, ci, fl.set k f) = T') (hdg : decode cc pc = .ok (.putfield index, 3))
    (kk : ∀ (H1 : Heap) (locs1 : List Loc), va_P D vwCl (c_ws tc (n_ad h0) T' g) H1 → va_S (n_A h0) s.heap H1 locs1 → W p l e R s m args below meth c H1 locs1 cells slots Q (F0 m (pc + 3) ls rest)) : W p l e R s m args below meth c H locs cells slots Q (F0 m pc ls (v :: .ref (n_ad h0 h) :: rest)) := by
  subst hT
  refine va_putF (D := D) (ci := ci) (v := v) (ty := ty) hexec hb hts hin ty0 hty hnm hown hK hP ((n_D h0 T).D tc g) hS0 h (c_ws_at h ht) hc k hk hlink hsame hfin hin2 hdecl hd hn hfit (by rw [c_fs_len]; exact hl) hdg (fun H1 locs1 q1 _ q3 => kk H1 locs1 ?_ q3)
  have e := n_fset (ad := n_ad h0) (I := g.1 h) (r := g.2.2 h) (f := f) fl 0 k
  rw [Nat.zero_add, hf] at e
  rw [e] at q1
  exact n_wsset (tc := tc) (ad := n_ad h0) (g := g) (t' := (0, ci, fl.set k f)) (List.getElem?_eq_some_iff.mp ht).1 ▸ q1
theorem n_put (hexec : p.tables.exec = Jvm.exec) (hb : c.code = cc) {own ref C : String} {TT : u_T} {N ci index : Nat} {Ts : List Cond} (hts : ∀ w ∈ Ts, w.before args s = true) (hin : ∀ w ∈ u_ws C TT N, w ∈ Ts) (ty0 : Nat → FieldType) (hty : ∀ k, k < N → parseFieldDescriptor (TT k).2.2.1 = some (ty0 k)) (hnm : ∀ a, a < N → ∀ b, b < N → a ≠ b → (TT a).2.1 ≠ (TT b).2.1) (hown : s.vm.findClass own = some m.cls) (hK : va_K D vwCl (c_tys tc) s) (hP : va_P D vwCl (c_ws tc (n_ad h0) T g) H) (hS0 : va_S (n_A h0) s.heap H locs) (h : Nat) {fl : List Nat} (ht : T[h]? = some (0, ci, fl)) (hc : vwCl[ci]? = some (C, TT, N)) (k : Nat) (hk : k < N) (hlink : (Cond.fieldLink own index ref (TT k).2.1 (TT k).2.2.1).before args s = true) (hsame : ∀ x, s.fieldFound? (TT k).1 (TT k).2.1 (TT k).2.2.1 = some x → s.fieldFound? ref (TT k).2.1 (TT k).2.2.1 = some x) (hfin : (TT k).2.2.2 = false) {ty : FieldType} {v : Value} (hd : parseFieldDescriptor (TT k).2.2.1 = some ty) (hn : narrow ty v = v) (hfit : fits ty v = true) (hl : k < fl.length) (f : Nat) (hf : c_fv (n_ad h0) (g.1 h) (g.2.2 h) k f = v) (hT : T.set h (0, ci, fl.set k f) = T') (hdg : decode cc pc = .ok (.putfield index, 3))
    (kk : ∀ (H1 : Heap) (locs1 : List Loc), va_P D vwCl (c_ws tc (n_ad h0) T' g) H1 → va_S (n_A h0) s.heap H1 locs1 → W p l e R s m args below meth c H1 locs1 cells slots Q (F0 m (pc + 3) ls rest)) : W p l e R s m args below meth c H locs cells slots Q (F0 m pc ls (v :: .ref (n_ad h0 h) :: rest)) := by
  subst hT
  refine va_put (D := D) (ci := ci) (v := v) (ty := ty) hexec hb hts hin ty0 hty hnm hown hK hP ((n_D h0 T).D tc g) hS0 h (c_ws_at h ht) hc k hk hlink hsame hfin hd hn hfit (by rw [c_fs_len]; exact hl) hdg (fun H1 locs1 q1 _ q3 => kk H1 locs1 ?_ q3)
  have e := n_fset (ad := n_ad h0) (I := g.1 h) (r := g.2.2 h) (f := f) fl 0 k
  rw [Nat.zero_add, hf] at e
  rw [e] at q1
  exact n_wsset (tc := tc) (ad := n_ad h0) (g := g) (t' := (0, ci, fl.set k f)) (List.getElem?_eq_some_iff.mp ht).1 ▸ q1
/-- an array of references takes one -/
theorem n_aast (hexec : p.tables.exec = Jvm.exec) (hb : c.code = cc) (hK : va_K D vwCl (c_tys tc) s) (hP : va_P D vwCl (c_ws tc (n_ad h0) T g) H) (hS : va_S (n_A h0) s.heap H locs) (h t0 : Nat) {kd n : Nat} {lf : List Nat} (ht : T[h]? = some (kd, n, lf)) {cA : ClassId} {C Er : String} (hkd : ∀ x, c_cell tc (n_ad h0) g h (kd, n, x) = .inl (cA, n, .inr (.inr (.inr (.inr (c_el (n_ad h0) x)))))) (htt : (c_tys tc)[t0]? = some (cA, .object Er)) (r : Nat) {ci N : Nat} {TT : u_T} {fl : List Nat} (htr : T[r]? = some (0, ci, fl)) (hc : vwCl[ci]? = some (C, TT, N)) (hasg : ∀ comp c0 : ClassId, s.vm.findClass Er = some comp → s.vm.findClass C = some c0 → s.vm.assignable c0 comp = true) {i : Int32} {k : Nat} (hi : i.toNatClampNeg = k) (hin : vp_in i n) (hkl : k < lf.length) (hT : T.set h (kd, n, lf.set k (r + 3)) = T') (hdg : decode cc pc = .ok (.aastore, 1))
    (kk : ∀ (H1 : Heap) (locs1 : List Loc), va_P D vwCl (c_ws tc (n_ad h0) T' g) H1 → va_S (n_A h0) s.heap H1 locs1 → W p l e R s m args below meth c H1 locs1 cells slots Q (F0 m (pc + 1) ls rest)) : W p l e R s m args below meth c H locs cells slots Q (F0 m pc ls (.ref (n_ad h0 r) :: .int i :: .ref (n_ad h0 h) :: rest)) := by
  subst hT
  subst hi
  have ha := c_ws_at (tc := tc) (ad := n_ad h0) (g := g) h ht
  rw [hkd] at ha
  refine vb_astq (D := D) hexec hb hK hP ((n_D h0 T).D tc g) hS h t0 ha htt (va_recv hK hP hc (c_ws_at r htr)) hasg hin hdg (fun H1 locs1 q1 _ q3 => kk H1 locs1 ?_ q3)
  rw [n_elset hkl, ← hkd (lf.set i.toNatClampNeg (r + 3))] at q1
  exact n_wsset (tc := tc) (ad := n_ad h0) (g := g) (t' := (kd, n, lf.set i.toNatClampNeg (r + 3))) (List.getElem?_eq_some_iff.mp ht).1 ▸ q1
/-- a constructor's contract: a world grows -/
def n_Pn (D : va_G) (tc : Nat → ClassId) (h0 : Nat) (E : (Nat → Nat) × (Nat → Nat) × Nat) (T : List c_T) (g : c_G) : State → Prop := fun U => c_Pr D tc (n_ad h0) (n_A h0) E T g U ∧ U.heap.size = h0 + T.length ∧ n_C U
def n_rm (d mc ms : Nat) : Room := { frames := d, cells := mc, slots := ms, locals := 40 * d }
def n_Qv (D : va_G) (tc : Nat → ClassId) (h0 : Nat) (T' : List c_T) (g' : c_G) : Array Value → State → Outcome → State → Prop := va_Qv (fun (_ : Unit) => True) (fun _ t => va_P D vwCl (c_ws tc (n_ad h0) T' g') t.heap ∧ t.heap.size = h0 + T'.length) (n_A h0)
def n_M (l : Launch) (y : MethodName) (ws : List Cond) (d mc ms : Nat) (D : va_G) (tc : Nat → ClassId) (h0 : Nat) (E : (Nat → Nat) × (Nat → Nat) × Nat) (av : List Value) (T T' : List c_T) (g g' : c_G) : Prop :=
  Met l y ws (n_rm d mc ms) (va_Pc av (n_Pn D tc h0 E T g)) (n_Qv D tc h0 T' g') mc ms (n_A h0)
theorem n_preS {av : List Value} (hK : va_K D vwCl (c_tys tc) s) (hP : va_P D vwCl (c_ws tc (n_ad h0) T g) H) (hE : c_E (n_A h0) E s s.heap) (hC : n_C s) (hS : va_S (n_A h0) s.heap H locs) (hz : H.size = h0 + T.length) : PreS s H (va_Pc av (n_Pn D tc h0 E T g)) av :=
  ⟨fun a U gg mk q => ⟨q.1, ((c_preS (D := D) (av := av) hK hP hE hS).1 a U gg mk ⟨q.1, q.2.1⟩).2, q.2.2.1, n_C.same (s := U) (U := U.calling gg mk a) rfl q.2.2.2⟩, fun U hU hW => ⟨rfl, ((c_preS (D := D) (av := av) hK hP hE hS).2 U hU hW).2, by rw [hU]; exact hz, hC.warm hW⟩⟩
theorem n_go {mc ms : Nat} (hr : va_Run p l e R s m args below meth c H locs cells slots mc ms (F0 m pc ls st0) rest (n_Qv D tc h0 T' g' a) (n_A h0)) (hS : va_S (n_A h0) s.heap H locs)
    (kk : ∀ (H1 : Heap) (locs1 : List Loc), va_P D vwCl (c_ws tc (n_ad h0) T' g') H1 → H1.size = h0 + T'.length → va_S (n_A h0) s.heap H1 locs1 → W p l e R s m args below meth c H1 locs1 (cells + mc) (slots + ms) Q (F0 m (pc + 3) ls rest)) : W p l e R s m args below meth c H locs cells slots Q (F0 m pc ls st0) :=
  va_callv hr hS (fun q _ h => h) (fun q h => h) (fun u t H1 locs1 ht _ _ hB _ _ hS1 => by
    rw [ht] at hB
    exact kk H1 locs1 hB.1 hB.2 hS1)
/-- what is fixed while a constructor runs -/
def n_K (p : Program) (s : State) (m : MethodId) (meth : Method) (c : Code) (D : va_G) (tc : Nat → ClassId) (h0 : Nat) (E : (Nat → Nat) × (Nat → Nat) × Nat) (C : String) (ws : List Cond) (bytes : ByteArray) (maxL : Nat) (av : Array Value) : Prop :=
  c_C p s m meth c D tc (n_A h0) E C ws bytes maxL none av ∧ n_C s ∧ meth.name = "<init>"
theorem n_ofW {y : MethodName} {ws ws' : List Cond} {rm : Room} {av : List Value} {bytes : ByteArray} {maxL mc ms : Nat} {Qc : Array Value → State → Outcome → State → Prop} (hy : plainName y.cls = true) (hyn : y.name = "<init>") (hw : ws = Cond.code y bytes maxL none :: ws') (hn : (lg_sl av).length ≤ maxL)
    (body : ∀ (p : Program) (e : Env) (s : State) (m : MethodId) (below : List Frame) (meth : Method) (c : Code) (ls : Array Slot), n_K p s m meth c D tc h0 E y.cls ws bytes maxL av.toArray →
      va_P D vwCl (c_ws tc (n_ad h0) T g) s.heap → s.heap.size = h0 + T.length → va_S (n_A h0) s.heap s.heap [] → lv_has ls maxL (lv_args 0 av) →
      W p l e rm s m av.toArray below meth c s.heap [] 0 0 (MQ below Qc av.toArray s mc ms (n_A h0)) (F0 m 0 ls [])) :
    Met l y ws rm (va_Pc av (n_Pn D tc h0 E T g)) Qc mc ms (n_A h0) := by
  refine Met.ofW (cc := bytes) (maxL := maxL) (ret := none) hy hw ?_
  intro p e s m args below meth c s₁ B hml hv
  obtain ⟨rfl, ⟨hP, hK, hE⟩, hz, hC⟩ := hv
  have hl := lv_entry av (n := maxL) hn
  have h0 := body p e s m below meth c _ ⟨⟨B.exec, B.bytes, B.returns, hml, atoms_spec (ws := ws) B.pre, findClass_of_methodNamed B.named, B.notSynchronized, hK, hE⟩, hC, by rw [← hyn]; exact (name_of_methodNamed B.named B.method).1⟩ hP hz va_S.rf hl
  rw [lg_entry_eq]
  exact h0
theorem n_vret {mc ms : Nat} (hexec : p.tables.exec = Jvm.exec) (hb : c.code = cc) (hr : meth.sig.returnType = none) (hlocks : meth.locks = false) (hP : va_P D vwCl (c_ws tc (n_ad h0) T' g') H) (hz : H.size = h0 + T'.length) (hS : va_S (n_A h0) s.heap H locs) (hc : cells = mc) (hs : slots = ms) (hdg : decode cc pc = .ok (.return_, 1)) :
    W p l e R s m args below meth c H locs cells slots (MQ below (n_Qv D tc h0 T' g') args s mc ms (n_A h0)) (F0 m pc ls []) := by
  subst hc
  subst hs
  exact W.vret hexec hb hr (fun t ht hW => ⟨⟨(), rfl, trivial, by show va_P D vwCl _ t.heap; rw [ht]; exact hP, by rw [ht]; exact hz⟩, hS.F ht⟩) hS.2.2 hdg hlocks
end NR
