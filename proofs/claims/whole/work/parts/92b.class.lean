def n_A0 (U : State) : Prop := (Cond.arrayOver (.array .long)).before #[] U = true
theorem n_A0.of {A : Array Value} {U : State} (h : (Cond.arrayOver (.array .long)).before A U = true) : n_A0 U := h
theorem n_A0.use {A : Array Value} {U : State} (h : n_A0 U) : (Cond.arrayOver (.array .long)).before A U = true := h
def n_AO (U : State) : Prop := va_AO RX10 U ∧ va_AO RX2 U ∧ n_A0 U
theorem n_AL {u U : State} (hvm : u.vm.Alike U.vm) (h : n_A0 u) : n_A0 U := by
  obtain ⟨comp, cA, kA, h1, h2, h3, h4, h5⟩ := arrayOverA_spec h
  obtain ⟨k2, hk2, e2⟩ := hvm.2.2 _ _ h3
  have q1 := va_idx_bare U.vm comp
  have q2 := va_idx_bare u.vm comp
  have q3 : u.vm.bare = U.vm.bare := by first | exact hvm.bare_eq | exact hvm.bare_eq.symm
  rw [← q3] at q1
  have f0 : (U.vm.classes.findIdx? fun (x : Class) => match x.kind with | .array component _ => component == comp | _ => false) = some cA := q1.symm.trans (q2.trans h2)
  have f3 : k2.kind = .array comp (.array .long) := by rw [e2]; exact h4
  have f1 : U.vm.findClass (FieldType.array .long).toString = some comp := by rw [hvm.findClass]; exact h1
  have f2 : U.vm.findClass ("[" ++ (FieldType.array .long).toString) = some cA := by rw [hvm.findClass]; exact h5
  unfold n_A0 Cond.before Cond.holds
  simp only [Cond.value]
  rw [f1, Option.bind_some]
  refine (congrArg (fun o : Option Nat => (o.bind (fun c => (U.vm.classes[c]?).map fun (k : Class) => match k.kind with | .array _ ty => decide (ty = FieldType.array .long) && decide (U.vm.findClass ("[" ++ (FieldType.array .long).toString) = some c) | _ => false) == some true)) f0).trans ?_
  simp [hk2, f3, f2]
theorem n_AO.moved {u U : State} (hvm : u.vm.Alike U.vm) (h : n_AO u) : n_AO U := ⟨h.1.moved hvm, h.2.1.moved hvm, n_AL hvm h.2.2⟩
def n_Pa (D : va_G) (tc : Nat → ClassId) (h0 : Nat) (E : (Nat → Nat) × (Nat → Nat) × Nat) (T : List c_T) (g : c_G) : State → Prop := fun U => n_Pn D tc h0 E T g U ∧ n_AO U
theorem n_ofA {D : va_G} {tc : Nat → ClassId} {h0 : Nat} {E : (Nat → Nat) × (Nat → Nat) × Nat} {T : List c_T} {g : c_G} {l : Launch} {y : MethodName} {ws ws' : List Cond} {rm : Room} {av : List Value} {bytes : ByteArray} {maxL mc ms : Nat} {Qc : Array Value → State → Outcome → State → Prop} (hy : plainName y.cls = true) (hyn : y.name = "<init>") (hw : ws = Cond.code y bytes maxL none :: ws') (hn : (lg_sl av).length ≤ maxL)
    (body : ∀ (p : Program) (e : Env) (s : State) (m : MethodId) (below : List Frame) (meth : Method) (c : Code) (ls : Array Slot), n_K p s m meth c D tc h0 E y.cls ws bytes maxL av.toArray ∧ n_AO s →
      va_P D vwCl (c_ws tc (n_ad h0) T g) s.heap → s.heap.size = h0 + T.length → va_S (n_A h0) s.heap s.heap [] → lv_has ls maxL (lv_args 0 av) →
      W p l e rm s m av.toArray below meth c s.heap [] 0 0 (MQ below Qc av.toArray s mc ms (n_A h0)) (F0 m 0 ls [])) :
    Met l y ws rm (va_Pc av (n_Pa D tc h0 E T g)) Qc mc ms (n_A h0) := by
  refine Met.ofW (cc := bytes) (maxL := maxL) (ret := none) hy hw ?_
  intro p e s m args below meth c s₁ B hml hv
  obtain ⟨rfl, ⟨⟨hP, hK, hE⟩, hz, hC⟩, hAO⟩ := hv
  have hl := lv_entry av (n := maxL) hn
  have h0 := body p e s m below meth c _ ⟨⟨⟨B.exec, B.bytes, B.returns, hml, atoms_spec (ws := ws) B.pre, findClass_of_methodNamed B.named, B.notSynchronized, hK, hE⟩, hC, by rw [← hyn]; exact (name_of_methodNamed B.named B.method).1⟩, hAO⟩ hP hz va_S.rf hl
  rw [lg_entry_eq]
  exact h0
set_option maxRecDepth 100000 in
set_option maxHeartbeats 4000000 in
theorem kN11_init {l : Launch} {D : va_G} {tc : Nat → ClassId} {h0 : Nat} {E : (Nat → Nat) × (Nat → Nat) × Nat} {g : c_G} (hg : n_Zg 0 g) (hh : ∀ s, g.2.2 s = 57) : ∃ g9 : c_G, g9.2 = g.2 ∧ (∀ x, x ≠ 10 → x ≠ 63 → x ≠ 64 → x ≠ 65 → x ≠ 86 → x ≠ 87 → x ≠ 88 → x ≠ 109 → x ≠ 110 → x ≠ 111 → g9.1 x = g.1 x) ∧ (∀ j, j < 6 → g9.1 10 j = -5 ∧ g9.1 63 j = 5 ∧ g9.1 64 j = -5 ∧ g9.1 65 j = -5) ∧ Met l yX11_init wsX11_init (n_rm 4 130 4363) (va_Pc ([.ref (n_ad h0 0)] : List Value) (n_Pa D tc h0 E nC_0 g)) (n_Qv D tc h0 TK g9) 130 4363 (n_A h0) := by
  obtain ⟨g1, z1, a1, p1, q1, r1, c1⟩ := kX7_init (l := l) (D := D) (tc := tc) (h0 := h0) (E := E) (T0 := nC_59) (g := g) (r := 57) (fun k hk => hg k (Nat.lt_of_le_of_lt (show 0 ≤ nC_59.length by decide +kernel) hk)) (hh _)
  have l1 : nC_59.length = 62 := by decide +kernel
  rw [l1] at a1 p1 q1 r1
  have hg1 : n_Zg 84 g1 := fun k hk => ⟨fun j => by rw [a1 k (by omega) (by omega) (by omega)]; exact (hg k (by omega)).1 j, fun j => by rw [z1]; exact (hg k (by omega)).2 j⟩
  obtain ⟨g2, z2, a2, p2, q2, r2, c2⟩ := kX7_init (l := l) (D := D) (tc := tc) (h0 := h0) (E := E) (T0 := nC_62) (g := g1) (r := 57) (fun k hk => hg1 k (Nat.lt_of_le_of_lt (show 84 ≤ nC_62.length by decide +kernel) hk)) (by rw [z1]; exact hh _)
  have l2 : nC_62.length = 85 := by decide +kernel
  rw [l2] at a2 p2 q2 r2
  have hg2 : n_Zg 107 g2 := fun k hk => ⟨fun j => by rw [a2 k (by omega) (by omega) (by omega)]; exact (hg1 k (by omega)).1 j, fun j => by rw [z2]; exact (hg1 k (by omega)).2 j⟩
  obtain ⟨g3, z3, a3, p3, q3, r3, c3⟩ := kX7_init (l := l) (D := D) (tc := tc) (h0 := h0) (E := E) (T0 := nC_65) (g := g2) (r := 57) (fun k hk => hg2 k (Nat.lt_of_le_of_lt (show 107 ≤ nC_65.length by decide +kernel) hk)) (by rw [z2, z1]; exact hh _)
  have l3 : nC_65.length = 108 := by decide +kernel
  rw [l3] at a3 p3 q3 r3
  have hg3 : n_Zg 130 g3 := fun k hk => ⟨fun j => by rw [a3 k (by omega) (by omega) (by omega)]; exact (hg2 k (by omega)).1 j, fun j => by rw [z3]; exact (hg2 k (by omega)).2 j⟩
  obtain ⟨g9, f9, z9, a9, b9⟩ := n_fill (T := nC_68) (h := 10) (N := 6) (-5) (by decide) (by decide +kernel) g3
  refine ⟨g9, z9.trans (z3.trans (z2.trans z1)), fun x x0 x1 x2 x3 x4 x5 x6 x7 x8 x9 => ?_, fun j hj => ⟨b9 j hj, ?_, ?_, ?_⟩, ?_⟩
  · rw [a9 x x0, a3 x x7 x8 x9, a2 x x4 x5 x6, a1 x x1 x2 x3]
  · rw [a9 _ (by decide), a3 _ (by decide) (by decide) (by decide), a2 _ (by decide) (by decide) (by decide)]
    exact p1 j hj
  · rw [a9 _ (by decide), a3 _ (by decide) (by decide) (by decide), a2 _ (by decide) (by decide) (by decide)]
    exact q1 j hj
  · rw [a9 _ (by decide), a3 _ (by decide) (by decide) (by decide), a2 _ (by decide) (by decide) (by decide)]
    exact r1 j hj
  show Met l yX11_init wsX11_init (n_rm 4 130 4363) (va_Pc ([.ref (n_ad h0 0)] : List Value) (n_Pa D tc h0 E nC_0 g)) (n_Qv D tc h0 nC_68 g9) 130 4363 (n_A h0)
  refine n_ofA (bytes := cX11_init) (maxL := 2) (ws' := _) (by decide) rfl rfl (Nat.le_of_ble_eq_true rfl) ?_
  intro p e s m below meth c ls K hP hsz hS hl
  obtain ⟨⟨⟨hx, hb, hr, hml, hts, hown, hlk, hK, hE⟩, hC, hin⟩, hAO⟩ := id K
  have hl : lv_has ls 2 [(0, .ref (n_ad h0 0))] := hl
  have hz := hsz
  refine lv_aload_n hx hb dX11_init_0 rfl (lv_at hl 0 rfl) ?_
  refine W.objInit hx hb hown (hts _ (List.mem_of_getElem? (i := 1) rfl)) (hts _ (List.mem_of_getElem? (i := 2) rfl)) (hts _ (List.mem_of_getElem? (i := 3) rfl)) rfl (by rw [hml]; exact hl.1) rfl dX11_init_1 (Nat.le_of_ble_eq_true rfl) (Nat.le_of_ble_eq_true rfl) ?_
  refine W.eq (g2 := F0 m 4 ls []) rfl ?_
  refine lv_aload_n hx hb dX11_init_4 rfl (lv_at hl 0 rfl) ?_
  refine lv_bipush (v := (100 : Int32)) hx hb dX11_init_5 (by decide) ?_
  refine n_newB hx hb (hts _ (List.mem_of_getElem? (i := 4) rfl)) hK hP hz hS (by rw [show nC_0.length = 1 from by decide +kernel]; exact (hg 1 (by decide)).1) 100 (by decide) (by decide) (by decide) (Nat.le_of_ble_eq_true rfl) (Nat.le_of_ble_eq_true rfl) dX11_init_7 (fun H hP hz hS => ?_)
  rw [show nC_0 ++ [((3, 100, []) : c_T)] = nC_1 from by decide +kernel] at hP hz
  rw [show nC_0.length = 1 from by decide +kernel]
  refine n_putF (T' := nC_2) (fl := [2, 2, 0, 2, 0, 2, 2, 2, 0, 2, 2, 2, 2, 2, 0, 2, 2, 2, 2]) hx hb hts i_X11_init_X11 tyX11 tyX11_ok nmX11 hown hK hP hS 0 rfl rfl 1 (by decide) (hts _ (List.mem_of_getElem? (i := 5) rfl)) (fun _ h9 => h9) rfl hin rfl (ty := (.array .byte)) (by decide +kernel) rfl rfl (Nat.le_of_ble_eq_true rfl) (4) rfl (by decide +kernel) dX11_init_9 (fun H locs hP hS => ?_)
  refine n_hz hP (by decide) (by rw [hsz, show nC_0.length = 1 from by decide +kernel, show nC_2.length = 2 from by decide +kernel]) (fun hz => ?_)
  refine lv_aload_n hx hb dX11_init_12 rfl (lv_at hl 0 rfl) ?_
  refine lv_bipush (v := (6 : Int32)) hx hb dX11_init_13 (by decide) ?_
  refine n_anew (kd := 6) (cA := tc 6) (N := 6) hx hb hown (hts _ (List.mem_of_getElem? (i := 6) rfl)) hAO.1.use (by obtain ⟨_, _, _, _, _, h9⟩ := (hK.2 5 _ rfl).2; exact h9) rfl hP hz hS (by decide) (by decide) (by decide) (Nat.le_of_ble_eq_true rfl) (Nat.le_of_ble_eq_true rfl) dX11_init_15 (fun H hP hz hS => ?_)
  rw [show nC_2 ++ [((6, 6, List.replicate 6 2) : c_T)] = nC_3 from by decide +kernel] at hP hz
  rw [show nC_2.length = 2 from by decide +kernel]
  refine n_putF (T' := nC_4) (fl := [2, 4, 0, 2, 0, 2, 2, 2, 0, 2, 2, 2, 2, 2, 0, 2, 2, 2, 2]) hx hb hts i_X11_init_X11 tyX11 tyX11_ok nmX11 hown hK hP hS 0 rfl rfl 3 (by decide) (hts _ (List.mem_of_getElem? (i := 7) rfl)) (fun _ h9 => h9) rfl hin rfl (ty := (.array (.object "NamingElders$Valley"))) (by decide +kernel) rfl rfl (Nat.le_of_ble_eq_true rfl) (5) rfl (by decide +kernel) dX11_init_18 (fun H locs hP hS => ?_)
  refine n_hz hP (by decide) (by rw [hsz, show nC_0.length = 1 from by decide +kernel, show nC_4.length = 3 from by decide +kernel]) (fun hz => ?_)
  refine lv_aload_n hx hb dX11_init_21 rfl (lv_at hl 0 rfl) ?_
  refine lv_bipush (v := (8 : Int32)) hx hb dX11_init_22 (by decide) ?_
  refine n_newI hx hb (hts _ (List.mem_of_getElem? (i := 8) rfl)) hK hP hz hS (by rw [show nC_4.length = 3 from by decide +kernel]; exact (hg 3 (by decide)).1) 8 (by decide) (by decide) (by decide) (Nat.le_of_ble_eq_true rfl) (Nat.le_of_ble_eq_true rfl) dX11_init_24 (fun H hP hz hS => ?_)
  rw [show nC_4 ++ [((1, 8, []) : c_T)] = nC_5 from by decide +kernel] at hP hz
  rw [show nC_4.length = 3 from by decide +kernel]
  refine n_putF (T' := nC_6) (fl := [2, 4, 0, 5, 0, 2, 2, 2, 0, 2, 2, 2, 2, 2, 0, 2, 2, 2, 2]) hx hb hts i_X11_init_X11 tyX11 tyX11_ok nmX11 hown hK hP hS 0 rfl rfl 9 (by decide) (hts _ (List.mem_of_getElem? (i := 9) rfl)) (fun _ h9 => h9) rfl hin rfl (ty := (.array .int)) (by decide +kernel) rfl rfl (Nat.le_of_ble_eq_true rfl) (6) rfl (by decide +kernel) dX11_init_26 (fun H locs hP hS => ?_)
  refine n_hz hP (by decide) (by rw [hsz, show nC_0.length = 1 from by decide +kernel, show nC_6.length = 4 from by decide +kernel]) (fun hz => ?_)
  refine lv_aload_n hx hb dX11_init_29 rfl (lv_at hl 0 rfl) ?_
  refine lv_bipush (v := (12 : Int32)) hx hb dX11_init_30 (by decide) ?_
  refine n_newI hx hb (hts _ (List.mem_of_getElem? (i := 8) rfl)) hK hP hz hS (by rw [show nC_6.length = 4 from by decide +kernel]; exact (hg 4 (by decide)).1) 12 (by decide) (by decide) (by decide) (Nat.le_of_ble_eq_true rfl) (Nat.le_of_ble_eq_true rfl) dX11_init_32 (fun H hP hz hS => ?_)
  rw [show nC_6 ++ [((1, 12, []) : c_T)] = nC_7 from by decide +kernel] at hP hz
  rw [show nC_6.length = 4 from by decide +kernel]
  refine n_putF (T' := nC_8) (fl := [2, 4, 0, 5, 0, 2, 2, 2, 0, 6, 2, 2, 2, 2, 0, 2, 2, 2, 2]) hx hb hts i_X11_init_X11 tyX11 tyX11_ok nmX11 hown hK hP hS 0 rfl rfl 10 (by decide) (hts _ (List.mem_of_getElem? (i := 10) rfl)) (fun _ h9 => h9) rfl hin rfl (ty := (.array .int)) (by decide +kernel) rfl rfl (Nat.le_of_ble_eq_true rfl) (7) rfl (by decide +kernel) dX11_init_34 (fun H locs hP hS => ?_)
  refine n_hz hP (by decide) (by rw [hsz, show nC_0.length = 1 from by decide +kernel, show nC_8.length = 5 from by decide +kernel]) (fun hz => ?_)
  refine lv_aload_n hx hb dX11_init_37 rfl (lv_at hl 0 rfl) ?_
  refine lv_sipush (v := (432 : Int32)) hx hb dX11_init_38 (by decide) ?_
  refine n_newI hx hb (hts _ (List.mem_of_getElem? (i := 8) rfl)) hK hP hz hS (by rw [show nC_8.length = 5 from by decide +kernel]; exact (hg 5 (by decide)).1) 432 (by decide) (by decide) (by decide) (Nat.le_of_ble_eq_true rfl) (Nat.le_of_ble_eq_true rfl) dX11_init_41 (fun H hP hz hS => ?_)
  rw [show nC_8 ++ [((1, 432, []) : c_T)] = nC_9 from by decide +kernel] at hP hz
  rw [show nC_8.length = 5 from by decide +kernel]
  refine n_putF (T' := nC_10) (fl := [2, 4, 0, 5, 0, 2, 2, 2, 0, 6, 7, 2, 2, 2, 0, 2, 2, 2, 2]) hx hb hts i_X11_init_X11 tyX11 tyX11_ok nmX11 hown hK hP hS 0 rfl rfl 11 (by decide) (hts _ (List.mem_of_getElem? (i := 11) rfl)) (fun _ h9 => h9) rfl hin rfl (ty := (.array .int)) (by decide +kernel) rfl rfl (Nat.le_of_ble_eq_true rfl) (8) rfl (by decide +kernel) dX11_init_43 (fun H locs hP hS => ?_)
  refine n_hz hP (by decide) (by rw [hsz, show nC_0.length = 1 from by decide +kernel, show nC_10.length = 6 from by decide +kernel]) (fun hz => ?_)
  refine lv_aload_n hx hb dX11_init_46 rfl (lv_at hl 0 rfl) ?_
  refine lv_bipush (v := (6 : Int32)) hx hb dX11_init_47 (by decide) ?_
  refine n_newI hx hb (hts _ (List.mem_of_getElem? (i := 8) rfl)) hK hP hz hS (by rw [show nC_10.length = 6 from by decide +kernel]; exact (hg 6 (by decide)).1) 6 (by decide) (by decide) (by decide) (Nat.le_of_ble_eq_true rfl) (Nat.le_of_ble_eq_true rfl) dX11_init_49 (fun H hP hz hS => ?_)
  rw [show nC_10 ++ [((1, 6, []) : c_T)] = nC_11 from by decide +kernel] at hP hz
  rw [show nC_10.length = 6 from by decide +kernel]
  refine n_putF (T' := nC_12) (fl := [2, 4, 0, 5, 0, 2, 2, 2, 0, 6, 7, 8, 2, 2, 0, 2, 2, 2, 2]) hx hb hts i_X11_init_X11 tyX11 tyX11_ok nmX11 hown hK hP hS 0 rfl rfl 12 (by decide) (hts _ (List.mem_of_getElem? (i := 12) rfl)) (fun _ h9 => h9) rfl hin rfl (ty := (.array .int)) (by decide +kernel) rfl rfl (Nat.le_of_ble_eq_true rfl) (9) rfl (by decide +kernel) dX11_init_51 (fun H locs hP hS => ?_)
  refine n_hz hP (by decide) (by rw [hsz, show nC_0.length = 1 from by decide +kernel, show nC_12.length = 7 from by decide +kernel]) (fun hz => ?_)
  refine lv_aload_n hx hb dX11_init_54 rfl (lv_at hl 0 rfl) ?_
  refine lv_bipush (v := (6 : Int32)) hx hb dX11_init_55 (by decide) ?_
  refine n_newI hx hb (hts _ (List.mem_of_getElem? (i := 8) rfl)) hK hP hz hS (by rw [show nC_12.length = 7 from by decide +kernel]; exact (hg 7 (by decide)).1) 6 (by decide) (by decide) (by decide) (Nat.le_of_ble_eq_true rfl) (Nat.le_of_ble_eq_true rfl) dX11_init_57 (fun H hP hz hS => ?_)
  rw [show nC_12 ++ [((1, 6, []) : c_T)] = nC_13 from by decide +kernel] at hP hz
  rw [show nC_12.length = 7 from by decide +kernel]
  refine n_putF (T' := nC_14) (fl := [2, 4, 0, 5, 0, 2, 2, 2, 0, 6, 7, 8, 9, 2, 0, 2, 2, 2, 2]) hx hb hts i_X11_init_X11 tyX11 tyX11_ok nmX11 hown hK hP hS 0 rfl rfl 13 (by decide) (hts _ (List.mem_of_getElem? (i := 13) rfl)) (fun _ h9 => h9) rfl hin rfl (ty := (.array .int)) (by decide +kernel) rfl rfl (Nat.le_of_ble_eq_true rfl) (10) rfl (by decide +kernel) dX11_init_59 (fun H locs hP hS => ?_)
  refine n_hz hP (by decide) (by rw [hsz, show nC_0.length = 1 from by decide +kernel, show nC_14.length = 8 from by decide +kernel]) (fun hz => ?_)
  refine lv_aload_n hx hb dX11_init_62 rfl (lv_at hl 0 rfl) ?_
  refine n_new (ci := 0) (fl := [0, 0, 0, 2]) (C := RX0) (TT := TX0) (N := 4) hx hb hts i_X11_init_X0 tyX0 tyX0_ok hown (hts _ (List.mem_of_getElem? (i := 14) rfl)) (hts _ (List.mem_of_getElem? (i := 15) rfl)) (hts _ (List.mem_of_getElem? (i := 16) rfl)) hK hP hz hS rfl (by decide) (by rw [show nC_14.length = 8 from by decide +kernel]; exact (hg 8 (by decide)).1) (fun j hj => match j, hj with | 0, _ => rfl | 1, _ => rfl | 2, _ => rfl | 3, _ => rfl | q + 4, h => absurd h (by omega)) (Nat.le_of_ble_eq_true rfl) (Nat.le_of_ble_eq_true rfl) dX11_init_63 (fun H hP hz hS => ?_)
  rw [show nC_14 ++ [((0, 0, [0, 0, 0, 2]) : c_T)] = nC_15 from by decide +kernel] at hP hz
  rw [show nC_14.length = 8 from by decide +kernel]
  refine lv_dup hx hb dX11_init_66 rfl ?_
  have hP : va_P D vwCl (c_ws tc (n_ad h0) (nC_14 ++ [(0, 0, [0, 0, 0, 2])]) g) H := by rw [show nC_14 ++ [((0, 0, [0, 0, 0, 2]) : c_T)] = nC_15 from by decide +kernel]; exact hP
  have hz : H.size = h0 + (nC_14 ++ [((0, 0, [0, 0, 0, 2]) : c_T)]).length := by rw [show nC_14 ++ [((0, 0, [0, 0, 0, 2]) : c_T)] = nC_15 from by decide +kernel]; exact hz
  refine n_go (va_runIN (As := []) (rest := [.ref (n_ad h0 8), .ref (n_ad h0 0)]) ⟨hx, hb, hml, hown, hts⟩ (kX0_init (T0 := nC_14) (fun k hk => hg k (Nat.lt_of_le_of_lt (show 0 ≤ nC_14.length by decide +kernel) hk))) (⟨va_cnB 0 hts gX11_init_X0_init_n39 rfl rfl rfl (hC.2 _ (List.mem_of_getElem? (i := 0) rfl)) (hts _ (List.mem_of_getElem? (i := 16) rfl)) (by decide +kernel) ⟨Nat.le_of_ble_eq_true rfl, Nat.le_of_ble_eq_true rfl⟩, rfl, (hts _ (List.mem_of_getElem? (i := 53) rfl))⟩) (n_preS hK hP hE hC hS hz) rfl rfl hl.1 rfl (lv_room (Nat.le_of_ble_eq_true rfl)) dX11_init_67 ⟨Nat.le_of_ble_eq_true rfl, Nat.le_of_ble_eq_true rfl⟩) hS (fun H locs hP hz hS => ?_)
  rw [show nC_14 ++ ([(0, 0, [0, 0, 0, nC_14.length + 1 + 3]), (1, 20, [])] : List c_T) = nC_16 from by decide +kernel] at hP hz
  refine n_putF (T' := nC_17) (fl := [2, 4, 0, 5, 0, 2, 2, 2, 0, 6, 7, 8, 9, 10, 0, 2, 2, 2, 2]) hx hb hts i_X11_init_X11 tyX11 tyX11_ok nmX11 hown hK hP hS 0 rfl rfl 15 (by decide) (hts _ (List.mem_of_getElem? (i := 17) rfl)) (fun _ h9 => h9) rfl hin rfl (ty := (.object "NamingElders$Acts")) (by decide +kernel) rfl rfl (Nat.le_of_ble_eq_true rfl) (11) rfl (by decide +kernel) dX11_init_70 (fun H locs hP hS => ?_)
  refine n_hz hP (by decide) (by rw [hsz, show nC_0.length = 1 from by decide +kernel, show nC_17.length = 10 from by decide +kernel]) (fun hz => ?_)
  refine lv_aload_n hx hb dX11_init_73 rfl (lv_at hl 0 rfl) ?_
  refine lv_bipush (v := (6 : Int32)) hx hb dX11_init_74 (by decide) ?_
  refine n_newI hx hb (hts _ (List.mem_of_getElem? (i := 8) rfl)) hK hP hz hS (by rw [show nC_17.length = 10 from by decide +kernel]; exact (hg 10 (by decide)).1) 6 (by decide) (by decide) (by decide) (Nat.le_of_ble_eq_true rfl) (Nat.le_of_ble_eq_true rfl) dX11_init_76 (fun H hP hz hS => ?_)
  rw [show nC_17 ++ [((1, 6, []) : c_T)] = nC_18 from by decide +kernel] at hP hz
  rw [show nC_17.length = 10 from by decide +kernel]
  refine n_putF (T' := nC_19) (fl := [2, 4, 0, 5, 0, 2, 2, 2, 0, 6, 7, 8, 9, 10, 0, 11, 2, 2, 2]) hx hb hts i_X11_init_X11 tyX11 tyX11_ok nmX11 hown hK hP hS 0 rfl rfl 16 (by decide) (hts _ (List.mem_of_getElem? (i := 18) rfl)) (fun _ h9 => h9) rfl hin rfl (ty := (.array .int)) (by decide +kernel) rfl rfl (Nat.le_of_ble_eq_true rfl) (13) rfl (by decide +kernel) dX11_init_78 (fun H locs hP hS => ?_)
  refine n_hz hP (by decide) (by rw [hsz, show nC_0.length = 1 from by decide +kernel, show nC_19.length = 11 from by decide +kernel]) (fun hz => ?_)
  refine lv_aload_n hx hb dX11_init_81 rfl (lv_at hl 0 rfl) ?_
  refine lv_bipush (v := (6 : Int32)) hx hb dX11_init_82 (by decide) ?_
  refine n_newI hx hb (hts _ (List.mem_of_getElem? (i := 8) rfl)) hK hP hz hS (by rw [show nC_19.length = 11 from by decide +kernel]; exact (hg 11 (by decide)).1) 6 (by decide) (by decide) (by decide) (Nat.le_of_ble_eq_true rfl) (Nat.le_of_ble_eq_true rfl) dX11_init_84 (fun H hP hz hS => ?_)
  rw [show nC_19 ++ [((1, 6, []) : c_T)] = nC_20 from by decide +kernel] at hP hz
  rw [show nC_19.length = 11 from by decide +kernel]
  refine n_putF (T' := nC_21) (fl := [2, 4, 0, 5, 0, 2, 2, 2, 0, 6, 7, 8, 9, 10, 0, 11, 13, 2, 2]) hx hb hts i_X11_init_X11 tyX11 tyX11_ok nmX11 hown hK hP hS 0 rfl rfl 17 (by decide) (hts _ (List.mem_of_getElem? (i := 19) rfl)) (fun _ h9 => h9) rfl hin rfl (ty := (.array .int)) (by decide +kernel) rfl rfl (Nat.le_of_ble_eq_true rfl) (14) rfl (by decide +kernel) dX11_init_86 (fun H locs hP hS => ?_)
  refine n_hz hP (by decide) (by rw [hsz, show nC_0.length = 1 from by decide +kernel, show nC_21.length = 12 from by decide +kernel]) (fun hz => ?_)
  refine lv_aload_n hx hb dX11_init_89 rfl (lv_at hl 0 rfl) ?_
  refine lv_bipush (v := (6 : Int32)) hx hb dX11_init_90 (by decide) ?_
  refine lv_bipush (v := (60 : Int32)) hx hb dX11_init_92 (by decide) ?_
  refine n_multi hx hb hown (hts _ (List.mem_of_getElem? (i := 20) rfl)) hAO.2.2.use (hts _ (List.mem_of_getElem? (i := 21) rfl)) hK hP hz hS (by rw [show nC_21.length = 12 from by decide +kernel]; exact fun k hk => (hg k (by omega)).2) (Nat.le_of_ble_eq_true rfl) (Nat.le_of_ble_eq_true rfl) dX11_init_94 (fun H locs hP hz hS => ?_)
  rw [show nC_21.length = 12 from by decide +kernel] at hP hz
  rw [show nC_21.length = 12 from by decide +kernel]
  rw [show nC_21 ++ [((7, 6, [12 + 1 + 3, 12 + 2 + 3, 12 + 3 + 3, 12 + 4 + 3, 12 + 5 + 3, 12 + 6 + 3]) : c_T), (2, 60, []), (2, 60, []), (2, 60, []), (2, 60, []), (2, 60, []), (2, 60, [])] = nC_22 from by decide +kernel] at hP
  have hz : H.size = h0 + nC_22.length := by rw [hz, show nC_22.length = 19 from by decide +kernel]
  refine n_putF (T' := nC_23) (fl := [2, 4, 0, 5, 0, 2, 2, 2, 0, 6, 7, 8, 9, 10, 0, 11, 13, 14, 2]) hx hb hts i_X11_init_X11 tyX11 tyX11_ok nmX11 hown hK hP hS 0 rfl rfl 18 (by decide) (hts _ (List.mem_of_getElem? (i := 22) rfl)) (fun _ h9 => h9) rfl hin rfl (ty := (.array (.array .long))) (by decide +kernel) rfl rfl (Nat.le_of_ble_eq_true rfl) (15) rfl (by decide +kernel) dX11_init_98 (fun H locs hP hS => ?_)
  refine n_hz hP (by decide) (by rw [hsz, show nC_0.length = 1 from by decide +kernel, show nC_23.length = 19 from by decide +kernel]) (fun hz => ?_)
  refine lv_aload_n hx hb dX11_init_101 rfl (lv_at hl 0 rfl) ?_
  refine lv_bipush (v := (7 : Int32)) hx hb dX11_init_102 (by decide) ?_
  refine n_anew (kd := 5) (cA := tc 5) (N := 7) hx hb hown (hts _ (List.mem_of_getElem? (i := 23) rfl)) hAO.2.1.use (by obtain ⟨_, _, _, _, _, h9⟩ := (hK.2 4 _ rfl).2; exact h9) rfl hP hz hS (by decide) (by decide) (by decide) (Nat.le_of_ble_eq_true rfl) (Nat.le_of_ble_eq_true rfl) dX11_init_104 (fun H hP hz hS => ?_)
  rw [show nC_23 ++ [((5, 7, List.replicate 7 2) : c_T)] = nC_24 from by decide +kernel] at hP hz
  rw [show nC_23.length = 19 from by decide +kernel]
  refine lv_dup hx hb dX11_init_107 rfl ?_
  refine lv_iconst (v := (0 : Int32)) hx hb dX11_init_108 (by decide) ?_
  refine n_new (ci := 2) (fl := []) (C := RX2) (TT := TX2) (N := 0) hx hb hts i_X11_init_X2 tyX2 tyX2_ok hown (hts _ (List.mem_of_getElem? (i := 23) rfl)) (hts _ (List.mem_of_getElem? (i := 24) rfl)) (hts _ (List.mem_of_getElem? (i := 25) rfl)) hK hP hz hS rfl (by decide) (by rw [show nC_24.length = 20 from by decide +kernel]; exact (hg 20 (by decide)).1) (fun j hj => absurd hj (Nat.not_lt_zero j)) (Nat.le_of_ble_eq_true rfl) (Nat.le_of_ble_eq_true rfl) dX11_init_109 (fun H hP hz hS => ?_)
  rw [show nC_24 ++ [((0, 2, []) : c_T)] = nC_25 from by decide +kernel] at hP hz
  rw [show nC_24.length = 20 from by decide +kernel]
  refine lv_dup hx hb dX11_init_112 rfl ?_
  refine n_go (va_runIN (As := []) (rest := [.ref (n_ad h0 20), .int (0 : Int32), .ref (n_ad h0 19), .ref (n_ad h0 19), .ref (n_ad h0 0)]) ⟨hx, hb, hml, hown, hts⟩ (kX2_init) (⟨va_cnB 0 hts gX11_init_X2_init_n57 rfl rfl rfl (hC.2 _ (List.mem_of_getElem? (i := 1) rfl)) (hts _ (List.mem_of_getElem? (i := 25) rfl)) (by decide +kernel) ⟨Nat.le_of_ble_eq_true rfl, Nat.le_of_ble_eq_true rfl⟩, rfl, (hts _ (List.mem_of_getElem? (i := 57) rfl))⟩) (n_preS hK hP hE hC hS hz) rfl rfl hl.1 rfl (lv_room (Nat.le_of_ble_eq_true rfl)) dX11_init_113 ⟨Nat.le_of_ble_eq_true rfl, Nat.le_of_ble_eq_true rfl⟩) hS (fun H locs hP hz hS => ?_)
  refine n_aast (T' := nC_26) (kd := 5) (cA := tc 5) (Er := RX2) (C := RX2) (TT := TX2) (N := 0) (ci := 2) hx hb hK hP hS 19 4 rfl (fun _ => rfl) rfl 20 rfl rfl (vb_asgS) (k := 0) (by decide) (by unfold vp_in; decide) (by decide) (by decide +kernel) dX11_init_116 (fun H locs hP hS => ?_)
  refine n_hz hP (by decide) (by rw [hsz, show nC_0.length = 1 from by decide +kernel, show nC_26.length = 21 from by decide +kernel]) (fun hz => ?_)
  refine lv_dup hx hb dX11_init_117 rfl ?_
  refine lv_iconst (v := (1 : Int32)) hx hb dX11_init_118 (by decide) ?_
  refine n_new (ci := 1) (fl := []) (C := RX1) (TT := TX1) (N := 0) hx hb hts i_X11_init_X1 tyX1 tyX1_ok hown (hts _ (List.mem_of_getElem? (i := 26) rfl)) (hts _ (List.mem_of_getElem? (i := 27) rfl)) (hts _ (List.mem_of_getElem? (i := 28) rfl)) hK hP hz hS rfl (by decide) (by rw [show nC_26.length = 21 from by decide +kernel]; exact (hg 21 (by decide)).1) (fun j hj => absurd hj (Nat.not_lt_zero j)) (Nat.le_of_ble_eq_true rfl) (Nat.le_of_ble_eq_true rfl) dX11_init_119 (fun H hP hz hS => ?_)
  rw [show nC_26 ++ [((0, 1, []) : c_T)] = nC_27 from by decide +kernel] at hP hz
  rw [show nC_26.length = 21 from by decide +kernel]
  refine lv_dup hx hb dX11_init_122 rfl ?_
  refine n_go (va_runIN (As := []) (rest := [.ref (n_ad h0 21), .int (1 : Int32), .ref (n_ad h0 19), .ref (n_ad h0 19), .ref (n_ad h0 0)]) ⟨hx, hb, hml, hown, hts⟩ (kX1_init) (⟨va_cnB 0 hts gX11_init_X1_init_n60 rfl rfl rfl (hC.2 _ (List.mem_of_getElem? (i := 2) rfl)) (hts _ (List.mem_of_getElem? (i := 28) rfl)) (by decide +kernel) ⟨Nat.le_of_ble_eq_true rfl, Nat.le_of_ble_eq_true rfl⟩, rfl, (hts _ (List.mem_of_getElem? (i := 60) rfl))⟩) (n_preS hK hP hE hC hS hz) rfl rfl hl.1 rfl (lv_room (Nat.le_of_ble_eq_true rfl)) dX11_init_123 ⟨Nat.le_of_ble_eq_true rfl, Nat.le_of_ble_eq_true rfl⟩) hS (fun H locs hP hz hS => ?_)
  refine n_aast (T' := nC_28) (kd := 5) (cA := tc 5) (Er := RX2) (C := RX1) (TT := TX1) (N := 0) (ci := 1) hx hb hK hP hS 19 4 rfl (fun _ => rfl) rfl 21 rfl rfl (vb_asgC (hC.1 RX1 (by decide))) (k := 1) (by decide) (by unfold vp_in; decide) (by decide) (by decide +kernel) dX11_init_126 (fun H locs hP hS => ?_)
  refine n_hz hP (by decide) (by rw [hsz, show nC_0.length = 1 from by decide +kernel, show nC_28.length = 22 from by decide +kernel]) (fun hz => ?_)
  refine lv_dup hx hb dX11_init_127 rfl ?_
  refine lv_iconst (v := (2 : Int32)) hx hb dX11_init_128 (by decide) ?_
  refine n_new (ci := 9) (fl := []) (C := RX9) (TT := TX9) (N := 0) hx hb hts i_X11_init_X9 tyX9 tyX9_ok hown (hts _ (List.mem_of_getElem? (i := 29) rfl)) (hts _ (List.mem_of_getElem? (i := 30) rfl)) (hts _ (List.mem_of_getElem? (i := 31) rfl)) hK hP hz hS rfl (by decide) (by rw [show nC_28.length = 22 from by decide +kernel]; exact (hg 22 (by decide)).1) (fun j hj => absurd hj (Nat.not_lt_zero j)) (Nat.le_of_ble_eq_true rfl) (Nat.le_of_ble_eq_true rfl) dX11_init_129 (fun H hP hz hS => ?_)
  rw [show nC_28 ++ [((0, 9, []) : c_T)] = nC_29 from by decide +kernel] at hP hz
  rw [show nC_28.length = 22 from by decide +kernel]
  refine lv_dup hx hb dX11_init_132 rfl ?_
  refine n_go (va_runIN (As := []) (rest := [.ref (n_ad h0 22), .int (2 : Int32), .ref (n_ad h0 19), .ref (n_ad h0 19), .ref (n_ad h0 0)]) ⟨hx, hb, hml, hown, hts⟩ (kX9_init) (⟨va_cnB 0 hts gX11_init_X9_init_n63 rfl rfl rfl (hC.2 _ (List.mem_of_getElem? (i := 3) rfl)) (hts _ (List.mem_of_getElem? (i := 31) rfl)) (by decide +kernel) ⟨Nat.le_of_ble_eq_true rfl, Nat.le_of_ble_eq_true rfl⟩, rfl, (hts _ (List.mem_of_getElem? (i := 62) rfl))⟩) (n_preS hK hP hE hC hS hz) rfl rfl hl.1 rfl (lv_room (Nat.le_of_ble_eq_true rfl)) dX11_init_133 ⟨Nat.le_of_ble_eq_true rfl, Nat.le_of_ble_eq_true rfl⟩) hS (fun H locs hP hz hS => ?_)
  refine n_aast (T' := nC_30) (kd := 5) (cA := tc 5) (Er := RX2) (C := RX9) (TT := TX9) (N := 0) (ci := 9) hx hb hK hP hS 19 4 rfl (fun _ => rfl) rfl 22 rfl rfl (vb_asgC (hC.1 RX9 (by decide))) (k := 2) (by decide) (by unfold vp_in; decide) (by decide) (by decide +kernel) dX11_init_136 (fun H locs hP hS => ?_)
  refine n_hz hP (by decide) (by rw [hsz, show nC_0.length = 1 from by decide +kernel, show nC_30.length = 23 from by decide +kernel]) (fun hz => ?_)
  refine lv_dup hx hb dX11_init_137 rfl ?_
  refine lv_iconst (v := (3 : Int32)) hx hb dX11_init_138 (by decide) ?_
  refine n_new (ci := 6) (fl := []) (C := RX6) (TT := TX6) (N := 0) hx hb hts i_X11_init_X6 tyX6 tyX6_ok hown (hts _ (List.mem_of_getElem? (i := 32) rfl)) (hts _ (List.mem_of_getElem? (i := 33) rfl)) (hts _ (List.mem_of_getElem? (i := 34) rfl)) hK hP hz hS rfl (by decide) (by rw [show nC_30.length = 23 from by decide +kernel]; exact (hg 23 (by decide)).1) (fun j hj => absurd hj (Nat.not_lt_zero j)) (Nat.le_of_ble_eq_true rfl) (Nat.le_of_ble_eq_true rfl) dX11_init_139 (fun H hP hz hS => ?_)
  rw [show nC_30 ++ [((0, 6, []) : c_T)] = nC_31 from by decide +kernel] at hP hz
  rw [show nC_30.length = 23 from by decide +kernel]
  refine lv_dup hx hb dX11_init_142 rfl ?_
  refine n_go (va_runIN (As := []) (rest := [.ref (n_ad h0 23), .int (3 : Int32), .ref (n_ad h0 19), .ref (n_ad h0 19), .ref (n_ad h0 0)]) ⟨hx, hb, hml, hown, hts⟩ (kX6_init) (⟨va_cnB 0 hts gX11_init_X6_init_n66 rfl rfl rfl (hC.2 _ (List.mem_of_getElem? (i := 4) rfl)) (hts _ (List.mem_of_getElem? (i := 34) rfl)) (by decide +kernel) ⟨Nat.le_of_ble_eq_true rfl, Nat.le_of_ble_eq_true rfl⟩, rfl, (hts _ (List.mem_of_getElem? (i := 64) rfl))⟩) (n_preS hK hP hE hC hS hz) rfl rfl hl.1 rfl (lv_room (Nat.le_of_ble_eq_true rfl)) dX11_init_143 ⟨Nat.le_of_ble_eq_true rfl, Nat.le_of_ble_eq_true rfl⟩) hS (fun H locs hP hz hS => ?_)
  refine n_aast (T' := nC_32) (kd := 5) (cA := tc 5) (Er := RX2) (C := RX6) (TT := TX6) (N := 0) (ci := 6) hx hb hK hP hS 19 4 rfl (fun _ => rfl) rfl 23 rfl rfl (vb_asgC (hC.1 RX6 (by decide))) (k := 3) (by decide) (by unfold vp_in; decide) (by decide) (by decide +kernel) dX11_init_146 (fun H locs hP hS => ?_)
  refine n_hz hP (by decide) (by rw [hsz, show nC_0.length = 1 from by decide +kernel, show nC_32.length = 24 from by decide +kernel]) (fun hz => ?_)
  refine lv_dup hx hb dX11_init_147 rfl ?_
  refine lv_iconst (v := (4 : Int32)) hx hb dX11_init_148 (by decide) ?_
  refine n_new (ci := 3) (fl := []) (C := RX3) (TT := TX3) (N := 0) hx hb hts i_X11_init_X3 tyX3 tyX3_ok hown (hts _ (List.mem_of_getElem? (i := 35) rfl)) (hts _ (List.mem_of_getElem? (i := 36) rfl)) (hts _ (List.mem_of_getElem? (i := 37) rfl)) hK hP hz hS rfl (by decide) (by rw [show nC_32.length = 24 from by decide +kernel]; exact (hg 24 (by decide)).1) (fun j hj => absurd hj (Nat.not_lt_zero j)) (Nat.le_of_ble_eq_true rfl) (Nat.le_of_ble_eq_true rfl) dX11_init_149 (fun H hP hz hS => ?_)
  rw [show nC_32 ++ [((0, 3, []) : c_T)] = nC_33 from by decide +kernel] at hP hz
  rw [show nC_32.length = 24 from by decide +kernel]
  refine lv_dup hx hb dX11_init_152 rfl ?_
  refine n_go (va_runIN (As := []) (rest := [.ref (n_ad h0 24), .int (4 : Int32), .ref (n_ad h0 19), .ref (n_ad h0 19), .ref (n_ad h0 0)]) ⟨hx, hb, hml, hown, hts⟩ (kX3_init) (⟨va_cnB 0 hts gX11_init_X3_init_n69 rfl rfl rfl (hC.2 _ (List.mem_of_getElem? (i := 5) rfl)) (hts _ (List.mem_of_getElem? (i := 37) rfl)) (by decide +kernel) ⟨Nat.le_of_ble_eq_true rfl, Nat.le_of_ble_eq_true rfl⟩, rfl, (hts _ (List.mem_of_getElem? (i := 66) rfl))⟩) (n_preS hK hP hE hC hS hz) rfl rfl hl.1 rfl (lv_room (Nat.le_of_ble_eq_true rfl)) dX11_init_153 ⟨Nat.le_of_ble_eq_true rfl, Nat.le_of_ble_eq_true rfl⟩) hS (fun H locs hP hz hS => ?_)
  refine n_aast (T' := nC_34) (kd := 5) (cA := tc 5) (Er := RX2) (C := RX3) (TT := TX3) (N := 0) (ci := 3) hx hb hK hP hS 19 4 rfl (fun _ => rfl) rfl 24 rfl rfl (vb_asgC (hC.1 RX3 (by decide))) (k := 4) (by decide) (by unfold vp_in; decide) (by decide) (by decide +kernel) dX11_init_156 (fun H locs hP hS => ?_)
  refine n_hz hP (by decide) (by rw [hsz, show nC_0.length = 1 from by decide +kernel, show nC_34.length = 25 from by decide +kernel]) (fun hz => ?_)
  refine lv_dup hx hb dX11_init_157 rfl ?_
  refine lv_iconst (v := (5 : Int32)) hx hb dX11_init_158 (by decide) ?_
  refine n_new (ci := 4) (fl := []) (C := RX4) (TT := TX4) (N := 0) hx hb hts i_X11_init_X4 tyX4 tyX4_ok hown (hts _ (List.mem_of_getElem? (i := 38) rfl)) (hts _ (List.mem_of_getElem? (i := 39) rfl)) (hts _ (List.mem_of_getElem? (i := 40) rfl)) hK hP hz hS rfl (by decide) (by rw [show nC_34.length = 25 from by decide +kernel]; exact (hg 25 (by decide)).1) (fun j hj => absurd hj (Nat.not_lt_zero j)) (Nat.le_of_ble_eq_true rfl) (Nat.le_of_ble_eq_true rfl) dX11_init_159 (fun H hP hz hS => ?_)
  rw [show nC_34 ++ [((0, 4, []) : c_T)] = nC_35 from by decide +kernel] at hP hz
  rw [show nC_34.length = 25 from by decide +kernel]
  refine lv_dup hx hb dX11_init_162 rfl ?_
  refine n_go (va_runIN (As := []) (rest := [.ref (n_ad h0 25), .int (5 : Int32), .ref (n_ad h0 19), .ref (n_ad h0 19), .ref (n_ad h0 0)]) ⟨hx, hb, hml, hown, hts⟩ (kX4_init) (⟨va_cnB 0 hts gX11_init_X4_init_n72 rfl rfl rfl (hC.2 _ (List.mem_of_getElem? (i := 6) rfl)) (hts _ (List.mem_of_getElem? (i := 40) rfl)) (by decide +kernel) ⟨Nat.le_of_ble_eq_true rfl, Nat.le_of_ble_eq_true rfl⟩, rfl, (hts _ (List.mem_of_getElem? (i := 68) rfl))⟩) (n_preS hK hP hE hC hS hz) rfl rfl hl.1 rfl (lv_room (Nat.le_of_ble_eq_true rfl)) dX11_init_163 ⟨Nat.le_of_ble_eq_true rfl, Nat.le_of_ble_eq_true rfl⟩) hS (fun H locs hP hz hS => ?_)
  refine n_aast (T' := nC_36) (kd := 5) (cA := tc 5) (Er := RX2) (C := RX4) (TT := TX4) (N := 0) (ci := 4) hx hb hK hP hS 19 4 rfl (fun _ => rfl) rfl 25 rfl rfl (vb_asgC (hC.1 RX4 (by decide))) (k := 5) (by decide) (by unfold vp_in; decide) (by decide) (by decide +kernel) dX11_init_166 (fun H locs hP hS => ?_)
  refine n_hz hP (by decide) (by rw [hsz, show nC_0.length = 1 from by decide +kernel, show nC_36.length = 26 from by decide +kernel]) (fun hz => ?_)
  refine lv_dup hx hb dX11_init_167 rfl ?_
  refine lv_bipush (v := (6 : Int32)) hx hb dX11_init_168 (by decide) ?_
  refine n_new (ci := 8) (fl := []) (C := RX8) (TT := TX8) (N := 0) hx hb hts i_X11_init_X8 tyX8 tyX8_ok hown (hts _ (List.mem_of_getElem? (i := 41) rfl)) (hts _ (List.mem_of_getElem? (i := 42) rfl)) (hts _ (List.mem_of_getElem? (i := 43) rfl)) hK hP hz hS rfl (by decide) (by rw [show nC_36.length = 26 from by decide +kernel]; exact (hg 26 (by decide)).1) (fun j hj => absurd hj (Nat.not_lt_zero j)) (Nat.le_of_ble_eq_true rfl) (Nat.le_of_ble_eq_true rfl) dX11_init_170 (fun H hP hz hS => ?_)
  rw [show nC_36 ++ [((0, 8, []) : c_T)] = nC_37 from by decide +kernel] at hP hz
  rw [show nC_36.length = 26 from by decide +kernel]
  refine lv_dup hx hb dX11_init_173 rfl ?_
  refine n_go (va_runIN (As := []) (rest := [.ref (n_ad h0 26), .int (6 : Int32), .ref (n_ad h0 19), .ref (n_ad h0 19), .ref (n_ad h0 0)]) ⟨hx, hb, hml, hown, hts⟩ (kX8_init) (⟨va_cnB 0 hts gX11_init_X8_init_n75 rfl rfl rfl (hC.2 _ (List.mem_of_getElem? (i := 7) rfl)) (hts _ (List.mem_of_getElem? (i := 43) rfl)) (by decide +kernel) ⟨Nat.le_of_ble_eq_true rfl, Nat.le_of_ble_eq_true rfl⟩, rfl, (hts _ (List.mem_of_getElem? (i := 70) rfl))⟩) (n_preS hK hP hE hC hS hz) rfl rfl hl.1 rfl (lv_room (Nat.le_of_ble_eq_true rfl)) dX11_init_174 ⟨Nat.le_of_ble_eq_true rfl, Nat.le_of_ble_eq_true rfl⟩) hS (fun H locs hP hz hS => ?_)
  refine n_aast (T' := nC_38) (kd := 5) (cA := tc 5) (Er := RX2) (C := RX8) (TT := TX8) (N := 0) (ci := 8) hx hb hK hP hS 19 4 rfl (fun _ => rfl) rfl 26 rfl rfl (vb_asgC (hC.1 RX8 (by decide))) (k := 6) (by decide) (by unfold vp_in; decide) (by decide) (by decide +kernel) dX11_init_177 (fun H locs hP hS => ?_)
  refine n_hz hP (by decide) (by rw [hsz, show nC_0.length = 1 from by decide +kernel, show nC_38.length = 27 from by decide +kernel]) (fun hz => ?_)
  refine n_putF (T' := nC_39) (fl := [2, 4, 0, 5, 0, 2, 2, 2, 0, 6, 7, 8, 9, 10, 0, 11, 13, 14, 15]) hx hb hts i_X11_init_X11 tyX11 tyX11_ok nmX11 hown hK hP hS 0 rfl rfl 0 (by decide) (hts _ (List.mem_of_getElem? (i := 44) rfl)) (fun _ h9 => h9) rfl hin rfl (ty := (.array (.object "NamingElders$Child"))) (by decide +kernel) rfl rfl (Nat.le_of_ble_eq_true rfl) (22) rfl (by decide +kernel) dX11_init_178 (fun H locs hP hS => ?_)
  refine n_hz hP (by decide) (by rw [hsz, show nC_0.length = 1 from by decide +kernel, show nC_39.length = 27 from by decide +kernel]) (fun hz => ?_)
  refine lv_iconst (v := (0 : Int32)) hx hb dX11_init_181 (by decide) ?_
  refine lv_istore_n (lv' := [(1, .int (0 : Int32)), (0, .ref (n_ad h0 0))]) hx hb dX11_init_182 rfl hl (by decide) rfl (fun ls hl => ?_)
  refine lv_iload_n hx hb dX11_init_183 rfl (lv_at hl 0 rfl) ?_
  refine lv_bipush (v := (6 : Int32)) hx hb dX11_init_184 (by decide) ?_
  refine lv_icmp_ge (tgt := 208) hx hb dX11_init_186 (by decide) (fun c9 => absurd c9 (by decide)) (fun _ => ?_)
  refine lv_aload_n hx hb dX11_init_189 rfl (lv_at hl 1 rfl) ?_
  refine c_get (fl := [22, 4, 0, 5, 0, 2, 2, 2, 0, 6, 7, 8, 9, 10, 0, 11, 13, 14, 15]) hx hb hts i_X11_init_X11 hown hK hP 0 rfl rfl 3 (by decide) (hts _ (List.mem_of_getElem? (i := 7) rfl)) (fun _ h9 => h9) (f := 5) rfl (v := .ref (n_ad h0 2)) rfl dX11_init_190 ?_
  refine lv_iload_n hx hb dX11_init_193 rfl (lv_at hl 0 rfl) ?_
  refine n_new (ci := 10) (fl := [2, 0, 0, 2, 2, 2, 0, 0]) (C := RX10) (TT := TX10) (N := 8) hx hb hts i_X11_init_X10 tyX10 tyX10_ok hown (hts _ (List.mem_of_getElem? (i := 6) rfl)) (hts _ (List.mem_of_getElem? (i := 45) rfl)) (hts _ (List.mem_of_getElem? (i := 46) rfl)) hK hP hz hS rfl (by decide) (by rw [show nC_39.length = 27 from by decide +kernel]; exact (hg 27 (by decide)).1) (fun j hj => match j, hj with | 0, _ => rfl | 1, _ => rfl | 2, _ => rfl | 3, _ => rfl | 4, _ => rfl | 5, _ => rfl | 6, _ => rfl | 7, _ => rfl | q + 8, h => absurd h (by omega)) (Nat.le_of_ble_eq_true rfl) (Nat.le_of_ble_eq_true rfl) dX11_init_194 (fun H hP hz hS => ?_)
  rw [show nC_39 ++ [((0, 10, [2, 0, 0, 2, 2, 2, 0, 0]) : c_T)] = nC_40 from by decide +kernel] at hP hz
  rw [show nC_39.length = 27 from by decide +kernel]
  refine lv_dup hx hb dX11_init_197 rfl ?_
  have hP : va_P D vwCl (c_ws tc (n_ad h0) (nC_39 ++ [(0, 10, [2, 0, 0, 2, 2, 2, 0, 0])]) g) H := by rw [show nC_39 ++ [((0, 10, [2, 0, 0, 2, 2, 2, 0, 0]) : c_T)] = nC_40 from by decide +kernel]; exact hP
  have hz : H.size = h0 + (nC_39 ++ [((0, 10, [2, 0, 0, 2, 2, 2, 0, 0]) : c_T)]).length := by rw [show nC_39 ++ [((0, 10, [2, 0, 0, 2, 2, 2, 0, 0]) : c_T)] = nC_40 from by decide +kernel]; exact hz
  refine n_go (va_runIN (As := []) (rest := [.ref (n_ad h0 27), .int (0 : Int32), .ref (n_ad h0 2)]) ⟨hx, hb, hml, hown, hts⟩ (kX10_init (T0 := nC_39) (fun k hk => hg k (Nat.lt_of_le_of_lt (show 0 ≤ nC_39.length by decide +kernel) hk))) (⟨va_cnB 0 hts gX11_init_X10_init_n80 rfl rfl rfl (hC.2 _ (List.mem_of_getElem? (i := 14) rfl)) (hts _ (List.mem_of_getElem? (i := 46) rfl)) (by decide +kernel) ⟨Nat.le_of_ble_eq_true rfl, Nat.le_of_ble_eq_true rfl⟩, rfl, (hts _ (List.mem_of_getElem? (i := 72) rfl))⟩) (n_preS hK hP hE hC hS hz) rfl rfl hl.1 rfl (lv_room (Nat.le_of_ble_eq_true rfl)) dX11_init_198 ⟨Nat.le_of_ble_eq_true rfl, Nat.le_of_ble_eq_true rfl⟩) hS (fun H locs hP hz hS => ?_)
  rw [show nC_39 ++ ([(0, 10, [nC_39.length + 1 + 3, 0, 0, nC_39.length + 2 + 3, nC_39.length + 3 + 3, nC_39.length + 4 + 3, 0, 0]), (3, 100, []), (1, 100, []), (1, 100, []), (1, 100, [])] : List c_T) = nC_41 from by decide +kernel] at hP hz
  refine n_aast (T' := nC_42) (kd := 6) (cA := tc 6) (Er := RX10) (C := RX10) (TT := TX10) (N := 8) (ci := 10) hx hb hK hP hS 2 5 rfl (fun _ => rfl) rfl 27 rfl rfl (vb_asgS) (k := 0) (by decide) (by unfold vp_in; decide) (by decide) (by decide +kernel) dX11_init_201 (fun H locs hP hS => ?_)
  refine n_hz hP (by decide) (by rw [hsz, show nC_0.length = 1 from by decide +kernel, show nC_42.length = 32 from by decide +kernel]) (fun hz => ?_)
  refine lv_iinc (v := (1 : Int32)) (lv' := [(1, .int (1 : Int32)), (0, .ref (n_ad h0 0))]) hx hb dX11_init_202 hl (k := 0) rfl (by decide) (by decide) rfl (fun ls hl => ?_)
  refine lv_goto (tgt := 183) hx hb dX11_init_205 (by decide) ?_
  refine lv_iload_n hx hb dX11_init_183 rfl (lv_at hl 0 rfl) ?_
  refine lv_bipush (v := (6 : Int32)) hx hb dX11_init_184 (by decide) ?_
  refine lv_icmp_ge (tgt := 208) hx hb dX11_init_186 (by decide) (fun c9 => absurd c9 (by decide)) (fun _ => ?_)
  refine lv_aload_n hx hb dX11_init_189 rfl (lv_at hl 1 rfl) ?_
  refine c_get (fl := [22, 4, 0, 5, 0, 2, 2, 2, 0, 6, 7, 8, 9, 10, 0, 11, 13, 14, 15]) hx hb hts i_X11_init_X11 hown hK hP 0 rfl rfl 3 (by decide) (hts _ (List.mem_of_getElem? (i := 7) rfl)) (fun _ h9 => h9) (f := 5) rfl (v := .ref (n_ad h0 2)) rfl dX11_init_190 ?_
  refine lv_iload_n hx hb dX11_init_193 rfl (lv_at hl 0 rfl) ?_
  refine n_new (ci := 10) (fl := [2, 0, 0, 2, 2, 2, 0, 0]) (C := RX10) (TT := TX10) (N := 8) hx hb hts i_X11_init_X10 tyX10 tyX10_ok hown (hts _ (List.mem_of_getElem? (i := 6) rfl)) (hts _ (List.mem_of_getElem? (i := 45) rfl)) (hts _ (List.mem_of_getElem? (i := 46) rfl)) hK hP hz hS rfl (by decide) (by rw [show nC_42.length = 32 from by decide +kernel]; exact (hg 32 (by decide)).1) (fun j hj => match j, hj with | 0, _ => rfl | 1, _ => rfl | 2, _ => rfl | 3, _ => rfl | 4, _ => rfl | 5, _ => rfl | 6, _ => rfl | 7, _ => rfl | q + 8, h => absurd h (by omega)) (Nat.le_of_ble_eq_true rfl) (Nat.le_of_ble_eq_true rfl) dX11_init_194 (fun H hP hz hS => ?_)
  rw [show nC_42 ++ [((0, 10, [2, 0, 0, 2, 2, 2, 0, 0]) : c_T)] = nC_43 from by decide +kernel] at hP hz
  rw [show nC_42.length = 32 from by decide +kernel]
  refine lv_dup hx hb dX11_init_197 rfl ?_
  have hP : va_P D vwCl (c_ws tc (n_ad h0) (nC_42 ++ [(0, 10, [2, 0, 0, 2, 2, 2, 0, 0])]) g) H := by rw [show nC_42 ++ [((0, 10, [2, 0, 0, 2, 2, 2, 0, 0]) : c_T)] = nC_43 from by decide +kernel]; exact hP
  have hz : H.size = h0 + (nC_42 ++ [((0, 10, [2, 0, 0, 2, 2, 2, 0, 0]) : c_T)]).length := by rw [show nC_42 ++ [((0, 10, [2, 0, 0, 2, 2, 2, 0, 0]) : c_T)] = nC_43 from by decide +kernel]; exact hz
  refine n_go (va_runIN (As := []) (rest := [.ref (n_ad h0 32), .int (1 : Int32), .ref (n_ad h0 2)]) ⟨hx, hb, hml, hown, hts⟩ (kX10_init (T0 := nC_42) (fun k hk => hg k (Nat.lt_of_le_of_lt (show 0 ≤ nC_42.length by decide +kernel) hk))) (⟨va_cnB 0 hts gX11_init_X10_init_n80 rfl rfl rfl (hC.2 _ (List.mem_of_getElem? (i := 14) rfl)) (hts _ (List.mem_of_getElem? (i := 46) rfl)) (by decide +kernel) ⟨Nat.le_of_ble_eq_true rfl, Nat.le_of_ble_eq_true rfl⟩, rfl, (hts _ (List.mem_of_getElem? (i := 72) rfl))⟩) (n_preS hK hP hE hC hS hz) rfl rfl hl.1 rfl (lv_room (Nat.le_of_ble_eq_true rfl)) dX11_init_198 ⟨Nat.le_of_ble_eq_true rfl, Nat.le_of_ble_eq_true rfl⟩) hS (fun H locs hP hz hS => ?_)
  rw [show nC_42 ++ ([(0, 10, [nC_42.length + 1 + 3, 0, 0, nC_42.length + 2 + 3, nC_42.length + 3 + 3, nC_42.length + 4 + 3, 0, 0]), (3, 100, []), (1, 100, []), (1, 100, []), (1, 100, [])] : List c_T) = nC_44 from by decide +kernel] at hP hz
  refine n_aast (T' := nC_45) (kd := 6) (cA := tc 6) (Er := RX10) (C := RX10) (TT := TX10) (N := 8) (ci := 10) hx hb hK hP hS 2 5 rfl (fun _ => rfl) rfl 32 rfl rfl (vb_asgS) (k := 1) (by decide) (by unfold vp_in; decide) (by decide) (by decide +kernel) dX11_init_201 (fun H locs hP hS => ?_)
  refine n_hz hP (by decide) (by rw [hsz, show nC_0.length = 1 from by decide +kernel, show nC_45.length = 37 from by decide +kernel]) (fun hz => ?_)
  refine lv_iinc (v := (2 : Int32)) (lv' := [(1, .int (2 : Int32)), (0, .ref (n_ad h0 0))]) hx hb dX11_init_202 hl (k := 0) rfl (by decide) (by decide) rfl (fun ls hl => ?_)
  refine lv_goto (tgt := 183) hx hb dX11_init_205 (by decide) ?_
  refine lv_iload_n hx hb dX11_init_183 rfl (lv_at hl 0 rfl) ?_
  refine lv_bipush (v := (6 : Int32)) hx hb dX11_init_184 (by decide) ?_
  refine lv_icmp_ge (tgt := 208) hx hb dX11_init_186 (by decide) (fun c9 => absurd c9 (by decide)) (fun _ => ?_)
  refine lv_aload_n hx hb dX11_init_189 rfl (lv_at hl 1 rfl) ?_
  refine c_get (fl := [22, 4, 0, 5, 0, 2, 2, 2, 0, 6, 7, 8, 9, 10, 0, 11, 13, 14, 15]) hx hb hts i_X11_init_X11 hown hK hP 0 rfl rfl 3 (by decide) (hts _ (List.mem_of_getElem? (i := 7) rfl)) (fun _ h9 => h9) (f := 5) rfl (v := .ref (n_ad h0 2)) rfl dX11_init_190 ?_
  refine lv_iload_n hx hb dX11_init_193 rfl (lv_at hl 0 rfl) ?_
  refine n_new (ci := 10) (fl := [2, 0, 0, 2, 2, 2, 0, 0]) (C := RX10) (TT := TX10) (N := 8) hx hb hts i_X11_init_X10 tyX10 tyX10_ok hown (hts _ (List.mem_of_getElem? (i := 6) rfl)) (hts _ (List.mem_of_getElem? (i := 45) rfl)) (hts _ (List.mem_of_getElem? (i := 46) rfl)) hK hP hz hS rfl (by decide) (by rw [show nC_45.length = 37 from by decide +kernel]; exact (hg 37 (by decide)).1) (fun j hj => match j, hj with | 0, _ => rfl | 1, _ => rfl | 2, _ => rfl | 3, _ => rfl | 4, _ => rfl | 5, _ => rfl | 6, _ => rfl | 7, _ => rfl | q + 8, h => absurd h (by omega)) (Nat.le_of_ble_eq_true rfl) (Nat.le_of_ble_eq_true rfl) dX11_init_194 (fun H hP hz hS => ?_)
  rw [show nC_45 ++ [((0, 10, [2, 0, 0, 2, 2, 2, 0, 0]) : c_T)] = nC_46 from by decide +kernel] at hP hz
  rw [show nC_45.length = 37 from by decide +kernel]
  refine lv_dup hx hb dX11_init_197 rfl ?_
  have hP : va_P D vwCl (c_ws tc (n_ad h0) (nC_45 ++ [(0, 10, [2, 0, 0, 2, 2, 2, 0, 0])]) g) H := by rw [show nC_45 ++ [((0, 10, [2, 0, 0, 2, 2, 2, 0, 0]) : c_T)] = nC_46 from by decide +kernel]; exact hP
  have hz : H.size = h0 + (nC_45 ++ [((0, 10, [2, 0, 0, 2, 2, 2, 0, 0]) : c_T)]).length := by rw [show nC_45 ++ [((0, 10, [2, 0, 0, 2, 2, 2, 0, 0]) : c_T)] = nC_46 from by decide +kernel]; exact hz
  refine n_go (va_runIN (As := []) (rest := [.ref (n_ad h0 37), .int (2 : Int32), .ref (n_ad h0 2)]) ⟨hx, hb, hml, hown, hts⟩ (kX10_init (T0 := nC_45) (fun k hk => hg k (Nat.lt_of_le_of_lt (show 0 ≤ nC_45.length by decide +kernel) hk))) (⟨va_cnB 0 hts gX11_init_X10_init_n80 rfl rfl rfl (hC.2 _ (List.mem_of_getElem? (i := 14) rfl)) (hts _ (List.mem_of_getElem? (i := 46) rfl)) (by decide +kernel) ⟨Nat.le_of_ble_eq_true rfl, Nat.le_of_ble_eq_true rfl⟩, rfl, (hts _ (List.mem_of_getElem? (i := 72) rfl))⟩) (n_preS hK hP hE hC hS hz) rfl rfl hl.1 rfl (lv_room (Nat.le_of_ble_eq_true rfl)) dX11_init_198 ⟨Nat.le_of_ble_eq_true rfl, Nat.le_of_ble_eq_true rfl⟩) hS (fun H locs hP hz hS => ?_)
  rw [show nC_45 ++ ([(0, 10, [nC_45.length + 1 + 3, 0, 0, nC_45.length + 2 + 3, nC_45.length + 3 + 3, nC_45.length + 4 + 3, 0, 0]), (3, 100, []), (1, 100, []), (1, 100, []), (1, 100, [])] : List c_T) = nC_47 from by decide +kernel] at hP hz
  refine n_aast (T' := nC_48) (kd := 6) (cA := tc 6) (Er := RX10) (C := RX10) (TT := TX10) (N := 8) (ci := 10) hx hb hK hP hS 2 5 rfl (fun _ => rfl) rfl 37 rfl rfl (vb_asgS) (k := 2) (by decide) (by unfold vp_in; decide) (by decide) (by decide +kernel) dX11_init_201 (fun H locs hP hS => ?_)
  refine n_hz hP (by decide) (by rw [hsz, show nC_0.length = 1 from by decide +kernel, show nC_48.length = 42 from by decide +kernel]) (fun hz => ?_)
  refine lv_iinc (v := (3 : Int32)) (lv' := [(1, .int (3 : Int32)), (0, .ref (n_ad h0 0))]) hx hb dX11_init_202 hl (k := 0) rfl (by decide) (by decide) rfl (fun ls hl => ?_)
  refine lv_goto (tgt := 183) hx hb dX11_init_205 (by decide) ?_
  refine lv_iload_n hx hb dX11_init_183 rfl (lv_at hl 0 rfl) ?_
  refine lv_bipush (v := (6 : Int32)) hx hb dX11_init_184 (by decide) ?_
  refine lv_icmp_ge (tgt := 208) hx hb dX11_init_186 (by decide) (fun c9 => absurd c9 (by decide)) (fun _ => ?_)
  refine lv_aload_n hx hb dX11_init_189 rfl (lv_at hl 1 rfl) ?_
  refine c_get (fl := [22, 4, 0, 5, 0, 2, 2, 2, 0, 6, 7, 8, 9, 10, 0, 11, 13, 14, 15]) hx hb hts i_X11_init_X11 hown hK hP 0 rfl rfl 3 (by decide) (hts _ (List.mem_of_getElem? (i := 7) rfl)) (fun _ h9 => h9) (f := 5) rfl (v := .ref (n_ad h0 2)) rfl dX11_init_190 ?_
  refine lv_iload_n hx hb dX11_init_193 rfl (lv_at hl 0 rfl) ?_
  refine n_new (ci := 10) (fl := [2, 0, 0, 2, 2, 2, 0, 0]) (C := RX10) (TT := TX10) (N := 8) hx hb hts i_X11_init_X10 tyX10 tyX10_ok hown (hts _ (List.mem_of_getElem? (i := 6) rfl)) (hts _ (List.mem_of_getElem? (i := 45) rfl)) (hts _ (List.mem_of_getElem? (i := 46) rfl)) hK hP hz hS rfl (by decide) (by rw [show nC_48.length = 42 from by decide +kernel]; exact (hg 42 (by decide)).1) (fun j hj => match j, hj with | 0, _ => rfl | 1, _ => rfl | 2, _ => rfl | 3, _ => rfl | 4, _ => rfl | 5, _ => rfl | 6, _ => rfl | 7, _ => rfl | q + 8, h => absurd h (by omega)) (Nat.le_of_ble_eq_true rfl) (Nat.le_of_ble_eq_true rfl) dX11_init_194 (fun H hP hz hS => ?_)
  rw [show nC_48 ++ [((0, 10, [2, 0, 0, 2, 2, 2, 0, 0]) : c_T)] = nC_49 from by decide +kernel] at hP hz
  rw [show nC_48.length = 42 from by decide +kernel]
  refine lv_dup hx hb dX11_init_197 rfl ?_
  have hP : va_P D vwCl (c_ws tc (n_ad h0) (nC_48 ++ [(0, 10, [2, 0, 0, 2, 2, 2, 0, 0])]) g) H := by rw [show nC_48 ++ [((0, 10, [2, 0, 0, 2, 2, 2, 0, 0]) : c_T)] = nC_49 from by decide +kernel]; exact hP
  have hz : H.size = h0 + (nC_48 ++ [((0, 10, [2, 0, 0, 2, 2, 2, 0, 0]) : c_T)]).length := by rw [show nC_48 ++ [((0, 10, [2, 0, 0, 2, 2, 2, 0, 0]) : c_T)] = nC_49 from by decide +kernel]; exact hz
  refine n_go (va_runIN (As := []) (rest := [.ref (n_ad h0 42), .int (3 : Int32), .ref (n_ad h0 2)]) ⟨hx, hb, hml, hown, hts⟩ (kX10_init (T0 := nC_48) (fun k hk => hg k (Nat.lt_of_le_of_lt (show 0 ≤ nC_48.length by decide +kernel) hk))) (⟨va_cnB 0 hts gX11_init_X10_init_n80 rfl rfl rfl (hC.2 _ (List.mem_of_getElem? (i := 14) rfl)) (hts _ (List.mem_of_getElem? (i := 46) rfl)) (by decide +kernel) ⟨Nat.le_of_ble_eq_true rfl, Nat.le_of_ble_eq_true rfl⟩, rfl, (hts _ (List.mem_of_getElem? (i := 72) rfl))⟩) (n_preS hK hP hE hC hS hz) rfl rfl hl.1 rfl (lv_room (Nat.le_of_ble_eq_true rfl)) dX11_init_198 ⟨Nat.le_of_ble_eq_true rfl, Nat.le_of_ble_eq_true rfl⟩) hS (fun H locs hP hz hS => ?_)
  rw [show nC_48 ++ ([(0, 10, [nC_48.length + 1 + 3, 0, 0, nC_48.length + 2 + 3, nC_48.length + 3 + 3, nC_48.length + 4 + 3, 0, 0]), (3, 100, []), (1, 100, []), (1, 100, []), (1, 100, [])] : List c_T) = nC_50 from by decide +kernel] at hP hz
  refine n_aast (T' := nC_51) (kd := 6) (cA := tc 6) (Er := RX10) (C := RX10) (TT := TX10) (N := 8) (ci := 10) hx hb hK hP hS 2 5 rfl (fun _ => rfl) rfl 42 rfl rfl (vb_asgS) (k := 3) (by decide) (by unfold vp_in; decide) (by decide) (by decide +kernel) dX11_init_201 (fun H locs hP hS => ?_)
  refine n_hz hP (by decide) (by rw [hsz, show nC_0.length = 1 from by decide +kernel, show nC_51.length = 47 from by decide +kernel]) (fun hz => ?_)
  refine lv_iinc (v := (4 : Int32)) (lv' := [(1, .int (4 : Int32)), (0, .ref (n_ad h0 0))]) hx hb dX11_init_202 hl (k := 0) rfl (by decide) (by decide) rfl (fun ls hl => ?_)
  refine lv_goto (tgt := 183) hx hb dX11_init_205 (by decide) ?_
  refine lv_iload_n hx hb dX11_init_183 rfl (lv_at hl 0 rfl) ?_
  refine lv_bipush (v := (6 : Int32)) hx hb dX11_init_184 (by decide) ?_
  refine lv_icmp_ge (tgt := 208) hx hb dX11_init_186 (by decide) (fun c9 => absurd c9 (by decide)) (fun _ => ?_)
  refine lv_aload_n hx hb dX11_init_189 rfl (lv_at hl 1 rfl) ?_
  refine c_get (fl := [22, 4, 0, 5, 0, 2, 2, 2, 0, 6, 7, 8, 9, 10, 0, 11, 13, 14, 15]) hx hb hts i_X11_init_X11 hown hK hP 0 rfl rfl 3 (by decide) (hts _ (List.mem_of_getElem? (i := 7) rfl)) (fun _ h9 => h9) (f := 5) rfl (v := .ref (n_ad h0 2)) rfl dX11_init_190 ?_
  refine lv_iload_n hx hb dX11_init_193 rfl (lv_at hl 0 rfl) ?_
  refine n_new (ci := 10) (fl := [2, 0, 0, 2, 2, 2, 0, 0]) (C := RX10) (TT := TX10) (N := 8) hx hb hts i_X11_init_X10 tyX10 tyX10_ok hown (hts _ (List.mem_of_getElem? (i := 6) rfl)) (hts _ (List.mem_of_getElem? (i := 45) rfl)) (hts _ (List.mem_of_getElem? (i := 46) rfl)) hK hP hz hS rfl (by decide) (by rw [show nC_51.length = 47 from by decide +kernel]; exact (hg 47 (by decide)).1) (fun j hj => match j, hj with | 0, _ => rfl | 1, _ => rfl | 2, _ => rfl | 3, _ => rfl | 4, _ => rfl | 5, _ => rfl | 6, _ => rfl | 7, _ => rfl | q + 8, h => absurd h (by omega)) (Nat.le_of_ble_eq_true rfl) (Nat.le_of_ble_eq_true rfl) dX11_init_194 (fun H hP hz hS => ?_)
  rw [show nC_51 ++ [((0, 10, [2, 0, 0, 2, 2, 2, 0, 0]) : c_T)] = nC_52 from by decide +kernel] at hP hz
  rw [show nC_51.length = 47 from by decide +kernel]
  refine lv_dup hx hb dX11_init_197 rfl ?_
  have hP : va_P D vwCl (c_ws tc (n_ad h0) (nC_51 ++ [(0, 10, [2, 0, 0, 2, 2, 2, 0, 0])]) g) H := by rw [show nC_51 ++ [((0, 10, [2, 0, 0, 2, 2, 2, 0, 0]) : c_T)] = nC_52 from by decide +kernel]; exact hP
  have hz : H.size = h0 + (nC_51 ++ [((0, 10, [2, 0, 0, 2, 2, 2, 0, 0]) : c_T)]).length := by rw [show nC_51 ++ [((0, 10, [2, 0, 0, 2, 2, 2, 0, 0]) : c_T)] = nC_52 from by decide +kernel]; exact hz
  refine n_go (va_runIN (As := []) (rest := [.ref (n_ad h0 47), .int (4 : Int32), .ref (n_ad h0 2)]) ⟨hx, hb, hml, hown, hts⟩ (kX10_init (T0 := nC_51) (fun k hk => hg k (Nat.lt_of_le_of_lt (show 0 ≤ nC_51.length by decide +kernel) hk))) (⟨va_cnB 0 hts gX11_init_X10_init_n80 rfl rfl rfl (hC.2 _ (List.mem_of_getElem? (i := 14) rfl)) (hts _ (List.mem_of_getElem? (i := 46) rfl)) (by decide +kernel) ⟨Nat.le_of_ble_eq_true rfl, Nat.le_of_ble_eq_true rfl⟩, rfl, (hts _ (List.mem_of_getElem? (i := 72) rfl))⟩) (n_preS hK hP hE hC hS hz) rfl rfl hl.1 rfl (lv_room (Nat.le_of_ble_eq_true rfl)) dX11_init_198 ⟨Nat.le_of_ble_eq_true rfl, Nat.le_of_ble_eq_true rfl⟩) hS (fun H locs hP hz hS => ?_)
  rw [show nC_51 ++ ([(0, 10, [nC_51.length + 1 + 3, 0, 0, nC_51.length + 2 + 3, nC_51.length + 3 + 3, nC_51.length + 4 + 3, 0, 0]), (3, 100, []), (1, 100, []), (1, 100, []), (1, 100, [])] : List c_T) = nC_53 from by decide +kernel] at hP hz
  refine n_aast (T' := nC_54) (kd := 6) (cA := tc 6) (Er := RX10) (C := RX10) (TT := TX10) (N := 8) (ci := 10) hx hb hK hP hS 2 5 rfl (fun _ => rfl) rfl 47 rfl rfl (vb_asgS) (k := 4) (by decide) (by unfold vp_in; decide) (by decide) (by decide +kernel) dX11_init_201 (fun H locs hP hS => ?_)
  refine n_hz hP (by decide) (by rw [hsz, show nC_0.length = 1 from by decide +kernel, show nC_54.length = 52 from by decide +kernel]) (fun hz => ?_)
  refine lv_iinc (v := (5 : Int32)) (lv' := [(1, .int (5 : Int32)), (0, .ref (n_ad h0 0))]) hx hb dX11_init_202 hl (k := 0) rfl (by decide) (by decide) rfl (fun ls hl => ?_)
  refine lv_goto (tgt := 183) hx hb dX11_init_205 (by decide) ?_
  refine lv_iload_n hx hb dX11_init_183 rfl (lv_at hl 0 rfl) ?_
  refine lv_bipush (v := (6 : Int32)) hx hb dX11_init_184 (by decide) ?_
  refine lv_icmp_ge (tgt := 208) hx hb dX11_init_186 (by decide) (fun c9 => absurd c9 (by decide)) (fun _ => ?_)
  refine lv_aload_n hx hb dX11_init_189 rfl (lv_at hl 1 rfl) ?_
  refine c_get (fl := [22, 4, 0, 5, 0, 2, 2, 2, 0, 6, 7, 8, 9, 10, 0, 11, 13, 14, 15]) hx hb hts i_X11_init_X11 hown hK hP 0 rfl rfl 3 (by decide) (hts _ (List.mem_of_getElem? (i := 7) rfl)) (fun _ h9 => h9) (f := 5) rfl (v := .ref (n_ad h0 2)) rfl dX11_init_190 ?_
  refine lv_iload_n hx hb dX11_init_193 rfl (lv_at hl 0 rfl) ?_
  refine n_new (ci := 10) (fl := [2, 0, 0, 2, 2, 2, 0, 0]) (C := RX10) (TT := TX10) (N := 8) hx hb hts i_X11_init_X10 tyX10 tyX10_ok hown (hts _ (List.mem_of_getElem? (i := 6) rfl)) (hts _ (List.mem_of_getElem? (i := 45) rfl)) (hts _ (List.mem_of_getElem? (i := 46) rfl)) hK hP hz hS rfl (by decide) (by rw [show nC_54.length = 52 from by decide +kernel]; exact (hg 52 (by decide)).1) (fun j hj => match j, hj with | 0, _ => rfl | 1, _ => rfl | 2, _ => rfl | 3, _ => rfl | 4, _ => rfl | 5, _ => rfl | 6, _ => rfl | 7, _ => rfl | q + 8, h => absurd h (by omega)) (Nat.le_of_ble_eq_true rfl) (Nat.le_of_ble_eq_true rfl) dX11_init_194 (fun H hP hz hS => ?_)
  rw [show nC_54 ++ [((0, 10, [2, 0, 0, 2, 2, 2, 0, 0]) : c_T)] = nC_55 from by decide +kernel] at hP hz
  rw [show nC_54.length = 52 from by decide +kernel]
  refine lv_dup hx hb dX11_init_197 rfl ?_
  have hP : va_P D vwCl (c_ws tc (n_ad h0) (nC_54 ++ [(0, 10, [2, 0, 0, 2, 2, 2, 0, 0])]) g) H := by rw [show nC_54 ++ [((0, 10, [2, 0, 0, 2, 2, 2, 0, 0]) : c_T)] = nC_55 from by decide +kernel]; exact hP
  have hz : H.size = h0 + (nC_54 ++ [((0, 10, [2, 0, 0, 2, 2, 2, 0, 0]) : c_T)]).length := by rw [show nC_54 ++ [((0, 10, [2, 0, 0, 2, 2, 2, 0, 0]) : c_T)] = nC_55 from by decide +kernel]; exact hz
  refine n_go (va_runIN (As := []) (rest := [.ref (n_ad h0 52), .int (5 : Int32), .ref (n_ad h0 2)]) ⟨hx, hb, hml, hown, hts⟩ (kX10_init (T0 := nC_54) (fun k hk => hg k (Nat.lt_of_le_of_lt (show 0 ≤ nC_54.length by decide +kernel) hk))) (⟨va_cnB 0 hts gX11_init_X10_init_n80 rfl rfl rfl (hC.2 _ (List.mem_of_getElem? (i := 14) rfl)) (hts _ (List.mem_of_getElem? (i := 46) rfl)) (by decide +kernel) ⟨Nat.le_of_ble_eq_true rfl, Nat.le_of_ble_eq_true rfl⟩, rfl, (hts _ (List.mem_of_getElem? (i := 72) rfl))⟩) (n_preS hK hP hE hC hS hz) rfl rfl hl.1 rfl (lv_room (Nat.le_of_ble_eq_true rfl)) dX11_init_198 ⟨Nat.le_of_ble_eq_true rfl, Nat.le_of_ble_eq_true rfl⟩) hS (fun H locs hP hz hS => ?_)
  rw [show nC_54 ++ ([(0, 10, [nC_54.length + 1 + 3, 0, 0, nC_54.length + 2 + 3, nC_54.length + 3 + 3, nC_54.length + 4 + 3, 0, 0]), (3, 100, []), (1, 100, []), (1, 100, []), (1, 100, [])] : List c_T) = nC_56 from by decide +kernel] at hP hz
  refine n_aast (T' := nC_57) (kd := 6) (cA := tc 6) (Er := RX10) (C := RX10) (TT := TX10) (N := 8) (ci := 10) hx hb hK hP hS 2 5 rfl (fun _ => rfl) rfl 52 rfl rfl (vb_asgS) (k := 5) (by decide) (by unfold vp_in; decide) (by decide) (by decide +kernel) dX11_init_201 (fun H locs hP hS => ?_)
  refine n_hz hP (by decide) (by rw [hsz, show nC_0.length = 1 from by decide +kernel, show nC_57.length = 57 from by decide +kernel]) (fun hz => ?_)
  refine lv_iinc (v := (6 : Int32)) (lv' := [(1, .int (6 : Int32)), (0, .ref (n_ad h0 0))]) hx hb dX11_init_202 hl (k := 0) rfl (by decide) (by decide) rfl (fun ls hl => ?_)
  refine lv_goto (tgt := 183) hx hb dX11_init_205 (by decide) ?_
  refine lv_iload_n hx hb dX11_init_183 rfl (lv_at hl 0 rfl) ?_
  refine lv_bipush (v := (6 : Int32)) hx hb dX11_init_184 (by decide) ?_
  refine lv_icmp_ge (tgt := 208) hx hb dX11_init_186 (by decide) (fun _ => ?_) (fun c9 => absurd c9 (by decide))
  refine n_new (ci := 10) (fl := [2, 0, 0, 2, 2, 2, 0, 0]) (C := RX10) (TT := TX10) (N := 8) hx hb hts i_X11_init_X10 tyX10 tyX10_ok hown (hts _ (List.mem_of_getElem? (i := 6) rfl)) (hts _ (List.mem_of_getElem? (i := 45) rfl)) (hts _ (List.mem_of_getElem? (i := 46) rfl)) hK hP hz hS rfl (by decide) (by rw [show nC_57.length = 57 from by decide +kernel]; exact (hg 57 (by decide)).1) (fun j hj => match j, hj with | 0, _ => rfl | 1, _ => rfl | 2, _ => rfl | 3, _ => rfl | 4, _ => rfl | 5, _ => rfl | 6, _ => rfl | 7, _ => rfl | q + 8, h => absurd h (by omega)) (Nat.le_of_ble_eq_true rfl) (Nat.le_of_ble_eq_true rfl) dX11_init_208 (fun H hP hz hS => ?_)
  rw [show nC_57 ++ [((0, 10, [2, 0, 0, 2, 2, 2, 0, 0]) : c_T)] = nC_58 from by decide +kernel] at hP hz
  rw [show nC_57.length = 57 from by decide +kernel]
  refine lv_dup hx hb dX11_init_211 rfl ?_
  have hP : va_P D vwCl (c_ws tc (n_ad h0) (nC_57 ++ [(0, 10, [2, 0, 0, 2, 2, 2, 0, 0])]) g) H := by rw [show nC_57 ++ [((0, 10, [2, 0, 0, 2, 2, 2, 0, 0]) : c_T)] = nC_58 from by decide +kernel]; exact hP
  have hz : H.size = h0 + (nC_57 ++ [((0, 10, [2, 0, 0, 2, 2, 2, 0, 0]) : c_T)]).length := by rw [show nC_57 ++ [((0, 10, [2, 0, 0, 2, 2, 2, 0, 0]) : c_T)] = nC_58 from by decide +kernel]; exact hz
  refine n_go (va_runIN (As := []) (rest := [.ref (n_ad h0 57)]) ⟨hx, hb, hml, hown, hts⟩ (kX10_init (T0 := nC_57) (fun k hk => hg k (Nat.lt_of_le_of_lt (show 0 ≤ nC_57.length by decide +kernel) hk))) (⟨va_cnB 0 hts gX11_init_X10_init_n80 rfl rfl rfl (hC.2 _ (List.mem_of_getElem? (i := 14) rfl)) (hts _ (List.mem_of_getElem? (i := 46) rfl)) (by decide +kernel) ⟨Nat.le_of_ble_eq_true rfl, Nat.le_of_ble_eq_true rfl⟩, rfl, (hts _ (List.mem_of_getElem? (i := 72) rfl))⟩) (n_preS hK hP hE hC hS hz) rfl rfl hl.1 rfl (lv_room (Nat.le_of_ble_eq_true rfl)) dX11_init_212 ⟨Nat.le_of_ble_eq_true rfl, Nat.le_of_ble_eq_true rfl⟩) hS (fun H locs hP hz hS => ?_)
  rw [show nC_57 ++ ([(0, 10, [nC_57.length + 1 + 3, 0, 0, nC_57.length + 2 + 3, nC_57.length + 3 + 3, nC_57.length + 4 + 3, 0, 0]), (3, 100, []), (1, 100, []), (1, 100, []), (1, 100, [])] : List c_T) = nC_59 from by decide +kernel] at hP hz
  refine lv_astore_n (lv' := [(1, .ref (n_ad h0 57)), (0, .ref (n_ad h0 0))]) hx hb dX11_init_215 rfl hl (by decide) rfl (fun ls hl => ?_)
  refine lv_aload_n hx hb dX11_init_216 rfl (lv_at hl 1 rfl) ?_
  refine n_new (ci := 7) (fl := [2, 2, 2, 2, 0, 0, 0, 2, 2, 2, 2, 2, 2, 2, 2, 2, 2]) (C := RX7) (TT := TX7) (N := 17) hx hb hts i_X11_init_X7 tyX7 tyX7_ok hown (hts _ (List.mem_of_getElem? (i := 47) rfl)) (hts _ (List.mem_of_getElem? (i := 48) rfl)) (hts _ (List.mem_of_getElem? (i := 49) rfl)) hK hP hz hS rfl (by decide) (by rw [show nC_59.length = 62 from by decide +kernel]; exact (hg 62 (by decide)).1) (fun j hj => match j, hj with | 0, _ => rfl | 1, _ => rfl | 2, _ => rfl | 3, _ => rfl | 4, _ => rfl | 5, _ => rfl | 6, _ => rfl | 7, _ => rfl | 8, _ => rfl | 9, _ => rfl | 10, _ => rfl | 11, _ => rfl | 12, _ => rfl | 13, _ => rfl | 14, _ => rfl | 15, _ => rfl | 16, _ => rfl | q + 17, h => absurd h (by omega)) (Nat.le_of_ble_eq_true rfl) (Nat.le_of_ble_eq_true rfl) dX11_init_217 (fun H hP hz hS => ?_)
  rw [show nC_59 ++ [((0, 7, [2, 2, 2, 2, 0, 0, 0, 2, 2, 2, 2, 2, 2, 2, 2, 2, 2]) : c_T)] = nC_60 from by decide +kernel] at hP hz
  rw [show nC_59.length = 62 from by decide +kernel]
  refine lv_dup hx hb dX11_init_220 rfl ?_
  refine lv_aload_n hx hb dX11_init_221 rfl (lv_at hl 0 rfl) ?_
  have hP : va_P D vwCl (c_ws tc (n_ad h0) (nC_59 ++ [(0, 7, [2, 2, 2, 2, 0, 0, 0, 2, 2, 2, 2, 2, 2, 2, 2, 2, 2])]) g) H := by rw [show nC_59 ++ [((0, 7, [2, 2, 2, 2, 0, 0, 0, 2, 2, 2, 2, 2, 2, 2, 2, 2, 2]) : c_T)] = nC_60 from by decide +kernel]; exact hP
  have hz : H.size = h0 + (nC_59 ++ [((0, 7, [2, 2, 2, 2, 0, 0, 0, 2, 2, 2, 2, 2, 2, 2, 2, 2, 2]) : c_T)]).length := by rw [show nC_59 ++ [((0, 7, [2, 2, 2, 2, 0, 0, 0, 2, 2, 2, 2, 2, 2, 2, 2, 2, 2]) : c_T)] = nC_60 from by decide +kernel]; exact hz
  refine n_go (va_runI (As := [.ref (n_ad h0 57)]) (rest := [.ref (n_ad h0 62), .ref (n_ad h0 0)]) ⟨hx, hb, hml, hown, hts⟩ (c1) (cwI 1 hts gX11_init_X7_init rfl rfl rfl (hts _ (List.mem_of_getElem? (i := 49) rfl)) (hts _ (List.mem_of_getElem? (i := 79) rfl)) (hts _ (List.mem_of_getElem? (i := 80) rfl)) rfl (by decide +kernel) ⟨Nat.le_of_ble_eq_true rfl, Nat.le_of_ble_eq_true rfl⟩) (n_preS hK hP hE hC hS hz) rfl rfl hl.1 rfl (lv_room (Nat.le_of_ble_eq_true rfl)) dX11_init_222 ⟨Nat.le_of_ble_eq_true rfl, Nat.le_of_ble_eq_true rfl⟩) hS (fun H locs hP hz hS => ?_)
  rw [show nC_59 ++ ([(0, 7, [nC_59.length + 1 + 3, nC_59.length + 2 + 3, nC_59.length + 3 + 3, nC_59.length + 4 + 3, 0, 0, 0, nC_59.length + 5 + 3, nC_59.length + 6 + 3, nC_59.length + 7 + 3, nC_59.length + 8 + 3, nC_59.length + 9 + 3, nC_59.length + 10 + 3, nC_59.length + 11 + 3, nC_59.length + 15 + 3, nC_59.length + 19 + 3, 1]), (1, 6, []), (1, 6, []), (1, 6, []), (1, 6, []), (1, 6, []), (1, 6, []), (1, 6, []), (1, 6, []), (1, 6, []), (1, 24, []), (0, 5, [nC_59.length + 12 + 3, nC_59.length + 13 + 3, nC_59.length + 14 + 3, 0]), (1, 5, []), (1, 5, []), (1, 5, []), (0, 5, [nC_59.length + 16 + 3, nC_59.length + 17 + 3, nC_59.length + 18 + 3, 0]), (1, 10, []), (1, 10, []), (1, 10, []), (0, 5, [nC_59.length + 20 + 3, nC_59.length + 21 + 3, nC_59.length + 22 + 3, 0]), (1, 8, []), (1, 8, []), (1, 8, [])] : List c_T) = nC_61 from by decide +kernel] at hP hz
  refine n_putF (T' := nC_62) (fl := [22, 4, 0, 5, 0, 2, 2, 2, 0, 6, 7, 8, 9, 10, 0, 11, 13, 14, 15]) hx hb hts i_X11_init_X11 tyX11 tyX11_ok nmX11 hown hK hP hS 0 rfl rfl 5 (by decide) (hts _ (List.mem_of_getElem? (i := 50) rfl)) (fun _ h9 => h9) rfl hin rfl (ty := (.object "NamingElders$State")) (by decide +kernel) rfl rfl (Nat.le_of_ble_eq_true rfl) (65) rfl (by decide +kernel) dX11_init_225 (fun H locs hP hS => ?_)
  refine n_hz hP (by decide) (by rw [hsz, show nC_0.length = 1 from by decide +kernel, show nC_62.length = 85 from by decide +kernel]) (fun hz => ?_)
  refine lv_aload_n hx hb dX11_init_228 rfl (lv_at hl 1 rfl) ?_
  refine n_new (ci := 7) (fl := [2, 2, 2, 2, 0, 0, 0, 2, 2, 2, 2, 2, 2, 2, 2, 2, 2]) (C := RX7) (TT := TX7) (N := 17) hx hb hts i_X11_init_X7 tyX7 tyX7_ok hown (hts _ (List.mem_of_getElem? (i := 47) rfl)) (hts _ (List.mem_of_getElem? (i := 48) rfl)) (hts _ (List.mem_of_getElem? (i := 49) rfl)) hK hP hz hS rfl (by decide) (by rw [show nC_62.length = 85 from by decide +kernel]; exact (hg1 85 (by decide)).1) (fun j hj => match j, hj with | 0, _ => rfl | 1, _ => rfl | 2, _ => rfl | 3, _ => rfl | 4, _ => rfl | 5, _ => rfl | 6, _ => rfl | 7, _ => rfl | 8, _ => rfl | 9, _ => rfl | 10, _ => rfl | 11, _ => rfl | 12, _ => rfl | 13, _ => rfl | 14, _ => rfl | 15, _ => rfl | 16, _ => rfl | q + 17, h => absurd h (by omega)) (Nat.le_of_ble_eq_true rfl) (Nat.le_of_ble_eq_true rfl) dX11_init_229 (fun H hP hz hS => ?_)
  rw [show nC_62 ++ [((0, 7, [2, 2, 2, 2, 0, 0, 0, 2, 2, 2, 2, 2, 2, 2, 2, 2, 2]) : c_T)] = nC_63 from by decide +kernel] at hP hz
  rw [show nC_62.length = 85 from by decide +kernel]
  refine lv_dup hx hb dX11_init_232 rfl ?_
  refine lv_aload_n hx hb dX11_init_233 rfl (lv_at hl 0 rfl) ?_
  have hP : va_P D vwCl (c_ws tc (n_ad h0) (nC_62 ++ [(0, 7, [2, 2, 2, 2, 0, 0, 0, 2, 2, 2, 2, 2, 2, 2, 2, 2, 2])]) g1) H := by rw [show nC_62 ++ [((0, 7, [2, 2, 2, 2, 0, 0, 0, 2, 2, 2, 2, 2, 2, 2, 2, 2, 2]) : c_T)] = nC_63 from by decide +kernel]; exact hP
  have hz : H.size = h0 + (nC_62 ++ [((0, 7, [2, 2, 2, 2, 0, 0, 0, 2, 2, 2, 2, 2, 2, 2, 2, 2, 2]) : c_T)]).length := by rw [show nC_62 ++ [((0, 7, [2, 2, 2, 2, 0, 0, 0, 2, 2, 2, 2, 2, 2, 2, 2, 2, 2]) : c_T)] = nC_63 from by decide +kernel]; exact hz
  refine n_go (va_runI (As := [.ref (n_ad h0 57)]) (rest := [.ref (n_ad h0 85), .ref (n_ad h0 0)]) ⟨hx, hb, hml, hown, hts⟩ (c2) (cwI 1 hts gX11_init_X7_init rfl rfl rfl (hts _ (List.mem_of_getElem? (i := 49) rfl)) (hts _ (List.mem_of_getElem? (i := 79) rfl)) (hts _ (List.mem_of_getElem? (i := 80) rfl)) rfl (by decide +kernel) ⟨Nat.le_of_ble_eq_true rfl, Nat.le_of_ble_eq_true rfl⟩) (n_preS hK hP hE hC hS hz) rfl rfl hl.1 rfl (lv_room (Nat.le_of_ble_eq_true rfl)) dX11_init_234 ⟨Nat.le_of_ble_eq_true rfl, Nat.le_of_ble_eq_true rfl⟩) hS (fun H locs hP hz hS => ?_)
  rw [show nC_62 ++ ([(0, 7, [nC_62.length + 1 + 3, nC_62.length + 2 + 3, nC_62.length + 3 + 3, nC_62.length + 4 + 3, 0, 0, 0, nC_62.length + 5 + 3, nC_62.length + 6 + 3, nC_62.length + 7 + 3, nC_62.length + 8 + 3, nC_62.length + 9 + 3, nC_62.length + 10 + 3, nC_62.length + 11 + 3, nC_62.length + 15 + 3, nC_62.length + 19 + 3, 1]), (1, 6, []), (1, 6, []), (1, 6, []), (1, 6, []), (1, 6, []), (1, 6, []), (1, 6, []), (1, 6, []), (1, 6, []), (1, 24, []), (0, 5, [nC_62.length + 12 + 3, nC_62.length + 13 + 3, nC_62.length + 14 + 3, 0]), (1, 5, []), (1, 5, []), (1, 5, []), (0, 5, [nC_62.length + 16 + 3, nC_62.length + 17 + 3, nC_62.length + 18 + 3, 0]), (1, 10, []), (1, 10, []), (1, 10, []), (0, 5, [nC_62.length + 20 + 3, nC_62.length + 21 + 3, nC_62.length + 22 + 3, 0]), (1, 8, []), (1, 8, []), (1, 8, [])] : List c_T) = nC_64 from by decide +kernel] at hP hz
  refine n_putF (T' := nC_65) (fl := [22, 4, 0, 5, 0, 65, 2, 2, 0, 6, 7, 8, 9, 10, 0, 11, 13, 14, 15]) hx hb hts i_X11_init_X11 tyX11 tyX11_ok nmX11 hown hK hP hS 0 rfl rfl 6 (by decide) (hts _ (List.mem_of_getElem? (i := 51) rfl)) (fun _ h9 => h9) rfl hin rfl (ty := (.object "NamingElders$State")) (by decide +kernel) rfl rfl (Nat.le_of_ble_eq_true rfl) (88) rfl (by decide +kernel) dX11_init_237 (fun H locs hP hS => ?_)
  refine n_hz hP (by decide) (by rw [hsz, show nC_0.length = 1 from by decide +kernel, show nC_65.length = 108 from by decide +kernel]) (fun hz => ?_)
  refine lv_aload_n hx hb dX11_init_240 rfl (lv_at hl 1 rfl) ?_
  refine n_new (ci := 7) (fl := [2, 2, 2, 2, 0, 0, 0, 2, 2, 2, 2, 2, 2, 2, 2, 2, 2]) (C := RX7) (TT := TX7) (N := 17) hx hb hts i_X11_init_X7 tyX7 tyX7_ok hown (hts _ (List.mem_of_getElem? (i := 47) rfl)) (hts _ (List.mem_of_getElem? (i := 48) rfl)) (hts _ (List.mem_of_getElem? (i := 49) rfl)) hK hP hz hS rfl (by decide) (by rw [show nC_65.length = 108 from by decide +kernel]; exact (hg2 108 (by decide)).1) (fun j hj => match j, hj with | 0, _ => rfl | 1, _ => rfl | 2, _ => rfl | 3, _ => rfl | 4, _ => rfl | 5, _ => rfl | 6, _ => rfl | 7, _ => rfl | 8, _ => rfl | 9, _ => rfl | 10, _ => rfl | 11, _ => rfl | 12, _ => rfl | 13, _ => rfl | 14, _ => rfl | 15, _ => rfl | 16, _ => rfl | q + 17, h => absurd h (by omega)) (Nat.le_of_ble_eq_true rfl) (Nat.le_of_ble_eq_true rfl) dX11_init_241 (fun H hP hz hS => ?_)
  rw [show nC_65 ++ [((0, 7, [2, 2, 2, 2, 0, 0, 0, 2, 2, 2, 2, 2, 2, 2, 2, 2, 2]) : c_T)] = nC_66 from by decide +kernel] at hP hz
  rw [show nC_65.length = 108 from by decide +kernel]
  refine lv_dup hx hb dX11_init_244 rfl ?_
  refine lv_aload_n hx hb dX11_init_245 rfl (lv_at hl 0 rfl) ?_
  have hP : va_P D vwCl (c_ws tc (n_ad h0) (nC_65 ++ [(0, 7, [2, 2, 2, 2, 0, 0, 0, 2, 2, 2, 2, 2, 2, 2, 2, 2, 2])]) g2) H := by rw [show nC_65 ++ [((0, 7, [2, 2, 2, 2, 0, 0, 0, 2, 2, 2, 2, 2, 2, 2, 2, 2, 2]) : c_T)] = nC_66 from by decide +kernel]; exact hP
  have hz : H.size = h0 + (nC_65 ++ [((0, 7, [2, 2, 2, 2, 0, 0, 0, 2, 2, 2, 2, 2, 2, 2, 2, 2, 2]) : c_T)]).length := by rw [show nC_65 ++ [((0, 7, [2, 2, 2, 2, 0, 0, 0, 2, 2, 2, 2, 2, 2, 2, 2, 2, 2]) : c_T)] = nC_66 from by decide +kernel]; exact hz
  refine n_go (va_runI (As := [.ref (n_ad h0 57)]) (rest := [.ref (n_ad h0 108), .ref (n_ad h0 0)]) ⟨hx, hb, hml, hown, hts⟩ (c3) (cwI 1 hts gX11_init_X7_init rfl rfl rfl (hts _ (List.mem_of_getElem? (i := 49) rfl)) (hts _ (List.mem_of_getElem? (i := 79) rfl)) (hts _ (List.mem_of_getElem? (i := 80) rfl)) rfl (by decide +kernel) ⟨Nat.le_of_ble_eq_true rfl, Nat.le_of_ble_eq_true rfl⟩) (n_preS hK hP hE hC hS hz) rfl rfl hl.1 rfl (lv_room (Nat.le_of_ble_eq_true rfl)) dX11_init_246 ⟨Nat.le_of_ble_eq_true rfl, Nat.le_of_ble_eq_true rfl⟩) hS (fun H locs hP hz hS => ?_)
  rw [show nC_65 ++ ([(0, 7, [nC_65.length + 1 + 3, nC_65.length + 2 + 3, nC_65.length + 3 + 3, nC_65.length + 4 + 3, 0, 0, 0, nC_65.length + 5 + 3, nC_65.length + 6 + 3, nC_65.length + 7 + 3, nC_65.length + 8 + 3, nC_65.length + 9 + 3, nC_65.length + 10 + 3, nC_65.length + 11 + 3, nC_65.length + 15 + 3, nC_65.length + 19 + 3, 1]), (1, 6, []), (1, 6, []), (1, 6, []), (1, 6, []), (1, 6, []), (1, 6, []), (1, 6, []), (1, 6, []), (1, 6, []), (1, 24, []), (0, 5, [nC_65.length + 12 + 3, nC_65.length + 13 + 3, nC_65.length + 14 + 3, 0]), (1, 5, []), (1, 5, []), (1, 5, []), (0, 5, [nC_65.length + 16 + 3, nC_65.length + 17 + 3, nC_65.length + 18 + 3, 0]), (1, 10, []), (1, 10, []), (1, 10, []), (0, 5, [nC_65.length + 20 + 3, nC_65.length + 21 + 3, nC_65.length + 22 + 3, 0]), (1, 8, []), (1, 8, []), (1, 8, [])] : List c_T) = nC_67 from by decide +kernel] at hP hz
  refine n_putF (T' := nC_68) (fl := [22, 4, 0, 5, 0, 65, 88, 2, 0, 6, 7, 8, 9, 10, 0, 11, 13, 14, 15]) hx hb hts i_X11_init_X11 tyX11 tyX11_ok nmX11 hown hK hP hS 0 rfl rfl 7 (by decide) (hts _ (List.mem_of_getElem? (i := 52) rfl)) (fun _ h9 => h9) rfl hin rfl (ty := (.object "NamingElders$State")) (by decide +kernel) rfl rfl (Nat.le_of_ble_eq_true rfl) (111) rfl (by decide +kernel) dX11_init_249 (fun H locs hP hS => ?_)
  refine n_hz hP (by decide) (by rw [hsz, show nC_0.length = 1 from by decide +kernel, show nC_68.length = 131 from by decide +kernel]) (fun hz => ?_)
  refine lv_aload_n hx hb dX11_init_252 rfl (lv_at hl 1 rfl) ?_
  refine c_get (fl := [22, 4, 0, 5, 0, 65, 88, 111, 0, 6, 7, 8, 9, 10, 0, 11, 13, 14, 15]) hx hb hts i_X11_init_X11 hown hK hP 0 rfl rfl 16 (by decide) (hts _ (List.mem_of_getElem? (i := 18) rfl)) (fun _ h9 => h9) (f := 13) rfl (v := .ref (n_ad h0 10)) rfl dX11_init_253 ?_
  refine lv_bipush (v := (-5 : Int32)) hx hb dX11_init_256 (by decide) ?_
  refine c_gov (va_runS (As := [.ref (n_ad h0 10), .int (-5 : Int32)]) (rest := []) ⟨hx, hb, hml, hown, hts⟩ (kJ7_fill_53178 (n_D h0 _) f9) (va_cwS 2 hts gX11_init_J7_fill_53178 rfl rfl rfl (by decide +kernel) ⟨Nat.le_of_ble_eq_true rfl, Nat.le_of_ble_eq_true rfl⟩) (c_preS hK hP hE hS) rfl rfl hl.1 rfl (lv_room (Nat.le_of_ble_eq_true rfl)) dX11_init_258 ⟨Nat.le_of_ble_eq_true rfl, Nat.le_of_ble_eq_true rfl⟩) hS (fun H locs hP hS => ?_)
  refine n_hz hP (by decide) (by rw [hsz, show nC_0.length = 1 from by decide +kernel, show nC_68.length = 131 from by decide +kernel]) (fun hz => ?_)
  exact n_vret hx hb hr hlk hP hz hS rfl rfl dX11_init_261
