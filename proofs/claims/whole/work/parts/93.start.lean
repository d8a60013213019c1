/-! THE CLAIM OUT OF ONE WALK OF THE LAW'S BODY. Your part is whole_start (and what it stands on); all else here is the same for every law, but numbers. -/
def R_law : String := "NamingEldersLaw"
def lw_P (b : Addr) (xs : List Int32) (args : Array Value) (s : State) : Prop := args = #[.ref b] ∧ s.IntsAt b xs ∧ xs.length ≤ 3072 ∧ (Jvm.Cond.and given_1 narrow_1).before args s = true
def lw_Q (_ : Array Value) (s : State) (o : Outcome) (t : State) : Prop := o = .returned (some (.int 1)) ∧ Framed s o t [] 600000 7302250
def lw_Z (below : List Frame) (a : Array Value) (s : State) : State → Prop := fun t => ∃ o, t.status = .running ∧ Ended t below o ∧ lw_Q a s o t
/-- the law's own end, with 1 on the stack, nothing written that was there before, its room as the claim has it -/
theorem lw_ret {p : Program} {l : Launch} {e : Env} {s : State} {m : MethodId} {below : List Frame} {meth : Method} {c : Code} {b : Nat} (hx : p.tables.exec = Jvm.exec) (hb : c.code = code) (hr : meth.sig.returnType = ret) (hlocks : meth.locks = false) {pc : Nat} {H : Heap} {ls : Array Slot} (hdg : decode code pc = .ok (.ireturn, 1)) : W p l e room_1 s m #[Value.ref b] below meth c H [] 600000 7302250 (lw_Z below #[Value.ref b] s) (F0 m pc ls [.int 1]) := by
  intro T hT X
  obtain ⟨fs, hret, hrun, hended, hW, hframe⟩ := X.leave (v := some (.int 1)) (hlocks := hlocks) (fun h => by rw [hr] at h; cases h)
  have hmeth' : T.vm.method? m = some meth := X.method'
  refine ⟨T.setFrames fs, ?_, .returned (some (.int 1)), hrun, hended, rfl, ⟨_, rfl⟩, hW, hframe⟩
  jvm_step X.here [X.here.top, hx, hb, hdg, hmeth', hr, ret, narrow_b1]
  (try refine ⟨rfl, ?_⟩); (try refine ⟨rfl, ?_⟩)
  first | (intro acts; rw [hret _ acts rfl rfl rfl]) | rw [hret _ _ rfl rfl rfl]
  exact Steps.refl _
/-- what holds at the law's entry: the machine, the code, the tables' words (any of lw_tbl by 'hts w (by decide +kernel)'), the script of L ints xs at the cell b, what the Statement gives of the start (any of its parts by flat_of_before) -/
def lw_At (p : Program) (s : State) (m : MethodId) (meth : Method) (c : Code) (b L : Nat) (xs : Nat → Int32) : Prop :=
  p.tables.exec = Jvm.exec ∧ c.code = code ∧ meth.sig.returnType = ret ∧ c.maxLocals = 4 ∧ s.vm.findClass R_law = some m.cls ∧ (∀ w ∈ lw_tbl, w.before #[Value.ref b] s = true) ∧ va_X b L xs s s.heap ∧ b < s.heap.size ∧ meth.locks = false ∧ (Jvm.Cond.and given_1 narrow_1).before #[Value.ref b] s = true
section N2
variable {p : Program} {l : Launch} {e : Env} {R : Room} {s : State} {m : MethodId} {args : Array Value} {below : List Frame} {meth : Method} {c : Code} {H : Heap} {locs : List Loc} {cells slots : Nat} {Q : State → Prop}
variable {cc : ByteArray} {pc : Nat} {ls : Array Slot} {rest st0 As : List Value} {D : va_G} {tc : Nat → ClassId} {h0 : Nat} {T T' : List c_T} {g g' : c_G} {w2 : va_W}
theorem n_new2 (hexec : p.tables.exec = Jvm.exec) (hb : c.code = cc) {own C : String} {TT : u_T} {N ci index : Nat} {Ts : List Cond} (hts : ∀ w ∈ Ts, w.before args s = true) (hin : ∀ w ∈ u_ws C TT N, w ∈ Ts) (ty : Nat → FieldType) (hty : ∀ k, k < N → parseFieldDescriptor (TT k).2.2.1 = some (ty k)) (hown : s.vm.findClass own = some m.cls) (hcl : (Cond.classLink own index C).before args s = true) (hinst : (Cond.instantiable C N).before args s = true) (hini : (Cond.initialized C).before args s = true)
    (hK : va_K D vwCl (c_tys tc) s) (hP : va_P D vwCl (c_ws tc (n_ad h0) T g) H) (hz : H.size = h0 + T.length) {A : Nat → Prop} (hS : va_S A s.heap H locs) (hc : vwCl[ci]? = some (C, TT, N)) {fl : List Nat} (h02 : ∀ x ∈ fl, x = 0 ∨ x = 2) (hg0 : ∀ j, g.1 T.length j = 0) (hfs : ∀ j, j < N → defaultValue (ty j) = vp_V (c_fs (fun _ => 0) (fun _ => 0) 0 0 fl) j) (hcells : cells + 1 ≤ R.cells) (hslots : slots + N ≤ R.slots) (hP2 : va_P D vwCl w2 H) (hdg : decode cc pc = .ok (.new index, 3))
    (kk : ∀ H1 : Heap, va_P D vwCl (c_ws tc (n_ad h0) (T ++ [(0, ci, fl)]) g) H1 → H1.size = h0 + (T ++ [((0, ci, fl) : c_T)]).length → va_S A s.heap H1 locs → va_P D vwCl w2 H1 → W p l e R s m args below meth c H1 locs (cells + 1) (slots + N) Q (F0 m (pc + 3) ls (.ref (n_ad h0 T.length) :: rest))) : W p l e R s m args below meth c H locs cells slots Q (F0 m pc ls rest) := by
  have hKn := hK.1 ci _ hc
  refine W.newcK hexec hb hown hcl hinst hini rfl hdg hcells hslots hKn.2.1 hz fun H1 kC hkC e1 z1 o1 => ?_
  rw [← hz] at z1 o1
  refine kk H1 (n_push hP hz o1 ⟨_, hc, (u_born ty hts hin hKn hkC e1 hty).to fun k hk => ?_⟩) ?_ (n_pushS hS z1 o1) (hP2.kept fun k q hq => o1 q.1 (hP2 k q hq).lt)
  · rw [hfs k hk]
    show _ = vp_V (c_fs (n_ad h0) (g.1 T.length) (g.2.2 T.length) 0 fl) k
    rw [n_fl0 (ad2 := fun _ => 0) (I2 := fun _ => 0) (r2 := 0) hg0 fl 0 h02]
  · rw [z1, hz, List.length_append]
    rfl
end N2
theorem l_preS {s : State} {H : Heap} {D : va_G} {tc : Nat → ClassId} {h1 : Nat} {T : List c_T} {g : c_G} {E : (Nat → Nat) × (Nat → Nat) × Nat} {locs : List Loc} {A : Nat → Prop} {av : List Value} (hK : va_K D vwCl (c_tys tc) s) (hP : va_P D vwCl (c_ws tc (n_ad h1) T g) H) (hE : c_E A E s s.heap) (hC : n_C s) (hS : va_S A s.heap H locs) (hA : ∀ q, n_A h1 q → A q) (hz : H.size = h1 + T.length) : PreS s H (va_Pc av (n_Pn D tc h1 E T g)) av :=
  ⟨fun a U gg mk q => ⟨q.1, ⟨q.2.1.1, va_K.moved (u := U) (U := U.calling gg mk a) (Vm.Alike.refl U.vm) q.2.1.2.1, c_E.same (u := U) (U := U.calling gg mk a) rfl q.2.1.2.2⟩, q.2.2.1, n_C.same (s := U) (U := U.calling gg mk a) rfl q.2.2.2⟩, fun U hU hW => ⟨rfl, ⟨by rw [hU]; exact hP, va_K.moved hW.alike hK, by rw [hU]; exact ((hE.kept hS.2.1).narrow hA).warm hW⟩, by rw [hU]; exact hz, hC.warm hW⟩⟩
set_option maxRecDepth 100000 in
set_option maxHeartbeats 8000000 in
theorem whole_start {p : Program} {e : Env} {s : State} {m : MethodId} {below : List Frame} {meth : Method} {c : Code} (l : Launch) (hflags : l.flags = flags0) {b L : Nat} {xs : Nat → Int32} (hL : L ≤ 3072) (C0 : lw_At p s m meth c b L xs) : W p l e room_1 s m #[Value.ref b] below meth c s.heap [] 0 0 (lw_Z below #[Value.ref b] s) (entryFrame m ([Value.ref b] : List Value).toArray 4) := by
  obtain ⟨hx, hb, hr, hml, hown, hts, hX, hbl, hlocks, hgv⟩ := id C0
  obtain ⟨D, tc, hK⟩ := l_know hts
  obtain ⟨E, hE⟩ := l_E hts hgv
  have hC := l_nC hts hgv
  have hAO : n_AO s := ⟨va_AO.of (hts (.arrayOver (.object "NamingElders$Valley")) (List.mem_of_getElem? (i := 94) (by decide +kernel))), va_AO.of (hts (.arrayOver (.object "NamingElders$Child")) (List.mem_of_getElem? (i := 125) (by decide +kernel))), n_A0.of (hts (.arrayOver (.array .long)) (List.mem_of_getElem? (i := 123) (by decide +kernel)))⟩
  have hl := lv_entry ([.ref b]) (n := 4) (Nat.le_of_ble_eq_true rfl)
  rw [lg_entry_eq]
  generalize (lg_sl ([.ref b]) ++ List.replicate (4 - (lg_sl ([.ref b])).length) Slot.unset).toArray = ls at hl ⊢
  have hl : lv_has ls 4 [(0, .ref b)] := hl
  have hS : va_S (n_A s.heap.size) s.heap s.heap [] := va_S.rf
  have hP : va_P D vwCl (c_ws tc (n_ad s.heap.size) ([] : List c_T) nG_0) s.heap := fun k q h => by cases h
  obtain ⟨g9, z9, a9, b9, k11⟩ := kN11_init (l := l) (D := D) (tc := tc) (h0 := s.heap.size) (E := E) (g := nG_0) nZ_0 (fun _ => rfl)
  refine n_new (T := ([] : List c_T)) (g := nG_0) (ci := 11) (fl := [2, 2, 0, 2, 0, 2, 2, 2, 0, 2, 2, 2, 2, 2, 0, 2, 2, 2, 2]) (C := RX11) (TT := TX11) (N := 19) hx hb hts lin_X11 tyX11 tyX11_ok hown (hts (.classLink RL 7 RX11) (List.mem_of_getElem? (i := 85) (by decide +kernel))) (hts (.instantiable RX11 19) (List.mem_of_getElem? (i := 86) (by decide +kernel))) (hts (.initialized RX11) (List.mem_of_getElem? (i := 63) (by decide +kernel))) hK hP rfl hS rfl (by decide) (fun _ => rfl) (fun j hj => match j, hj with | 0, _ => rfl | 1, _ => rfl | 2, _ => rfl | 3, _ => rfl | 4, _ => rfl | 5, _ => rfl | 6, _ => rfl | 7, _ => rfl | 8, _ => rfl | 9, _ => rfl | 10, _ => rfl | 11, _ => rfl | 12, _ => rfl | 13, _ => rfl | 14, _ => rfl | 15, _ => rfl | 16, _ => rfl | 17, _ => rfl | 18, _ => rfl | q + 19, h => absurd h (by omega)) (Nat.le_of_ble_eq_true rfl) (Nat.le_of_ble_eq_true rfl) dL_law_0 (fun H hP hz hS => ?_)
  rw [show ([] : List c_T) ++ [((0, 11, [2, 2, 0, 2, 0, 2, 2, 2, 0, 2, 2, 2, 2, 2, 0, 2, 2, 2, 2]) : c_T)] = nC_0 from by decide +kernel] at hP hz
  refine lv_dup hx hb dL_law_3 rfl ?_
  refine n_go (va_runI (As := []) (rest := [.ref (n_ad s.heap.size 0)]) ⟨hx, hb, hml, hown, hts⟩ k11 (cwI 0 hts ggL_law_X11_init rfl rfl rfl (hts (.initialized RX11) (List.mem_of_getElem? (i := 63) (by decide +kernel))) (hts (.methodLink RL 9 yX11_init) (List.mem_of_getElem? (i := 87) (by decide +kernel))) (hts (.instanceMethod yX11_init) (List.mem_of_getElem? (i := 88) (by decide +kernel))) rfl (by decide +kernel) ⟨Nat.le_of_ble_eq_true rfl, Nat.le_of_ble_eq_true rfl⟩) ⟨fun a U gg mk q => ⟨q.1, ((n_preS (D := D) (av := [.ref (n_ad s.heap.size 0)]) hK hP hE hC hS hz).1 a U gg mk ⟨q.1, q.2.1⟩).2, n_AO.moved (u := U) (U := U.calling gg mk a) (Vm.Alike.refl U.vm) q.2.2⟩, fun U hU hW => ⟨rfl, ((n_preS (D := D) (av := [.ref (n_ad s.heap.size 0)]) hK hP hE hC hS hz).2 U hU hW).2, hAO.moved hW.alike⟩⟩ rfl rfl hl.1 rfl (lv_room (Nat.le_of_ble_eq_true rfl)) dL_law_4 ⟨Nat.le_of_ble_eq_true rfl, Nat.le_of_ble_eq_true rfl⟩) hS (fun H locs hPC hz hS => ?_)
  rw [show TK.length = 131 from by decide +kernel] at hz
  have hPC := n_conv (fun s => by rw [z9]; rfl) hPC
  rw [show n_ad s.heap.size 0 = n_aC s.heap.size 0 from n_aC0.symm]
  refine lv_astore_n (lv' := [(1, .ref (n_aC s.heap.size 0)), (0, .ref b)]) hx hb dL_law_7 rfl hl (by decide) rfl (fun ls hl => ?_)
  have hP : va_P D vwCl (c_ws tc (n_ad (s.heap.size + 131)) ([] : List c_T) nG_0) H := fun k q h => by cases h
  have hPC0 := hPC
  refine n_new2 (T := ([] : List c_T)) (g := nG_0) (ci := 12) (fl := [2, 2, 2, 0, 2, 0, 2, 2, 0, 2, 0, 0, 0, 0, 0, 0, 2, 2, 2, 2, 2, 2, 2, 0, 2, 2, 2, 0, 2, 2, 2, 2]) (C := RX12) (TT := TX12) (N := 32) hx hb hts lin_X12 tyX12 tyX12_ok hown (hts (.classLink RL 10 RX12) (List.mem_of_getElem? (i := 925) (by decide +kernel))) (hts (.instantiable RX12 32) (List.mem_of_getElem? (i := 926) (by decide +kernel))) (hts (.initialized RX12) (List.mem_of_getElem? (i := 76) (by decide +kernel))) hK hP hz hS rfl (by decide) (fun _ => rfl) (fun j hj => match j, hj with | 0, _ => rfl | 1, _ => rfl | 2, _ => rfl | 3, _ => rfl | 4, _ => rfl | 5, _ => rfl | 6, _ => rfl | 7, _ => rfl | 8, _ => rfl | 9, _ => rfl | 10, _ => rfl | 11, _ => rfl | 12, _ => rfl | 13, _ => rfl | 14, _ => rfl | 15, _ => rfl | 16, _ => rfl | 17, _ => rfl | 18, _ => rfl | 19, _ => rfl | 20, _ => rfl | 21, _ => rfl | 22, _ => rfl | 23, _ => rfl | 24, _ => rfl | 25, _ => rfl | 26, _ => rfl | 27, _ => rfl | 28, _ => rfl | 29, _ => rfl | 30, _ => rfl | 31, _ => rfl | q + 32, h => absurd h (by omega)) (Nat.le_of_ble_eq_true rfl) (Nat.le_of_ble_eq_true rfl) hPC dL_law_8 (fun H hP hz hS hPC => ?_)
  rw [show ([] : List c_T) ++ [((0, 12, [2, 2, 2, 0, 2, 0, 2, 2, 0, 2, 0, 0, 0, 0, 0, 0, 2, 2, 2, 2, 2, 2, 2, 0, 2, 2, 2, 0, 2, 2, 2, 2]) : c_T)] = nM_0 from by decide +kernel] at hP hz
  refine lv_dup hx hb dL_law_11 rfl ?_
  refine va_callv (va_runI (As := []) (rest := [.ref (n_ad (s.heap.size + 131) 0)]) ⟨hx, hb, hml, hown, hts⟩ (kX12_init (l := l) (D := D) (tc := tc) (h0 := s.heap.size + 131) (E := E)) (cwI 0 hts ggL_law_X12_init rfl rfl rfl (hts (.initialized RX12) (List.mem_of_getElem? (i := 76) (by decide +kernel))) (hts (.methodLink RL 12 yX12_init) (List.mem_of_getElem? (i := 927) (by decide +kernel))) (hts (.instanceMethod yX12_init) (List.mem_of_getElem? (i := 928) (by decide +kernel))) rfl (by decide +kernel) ⟨Nat.le_of_ble_eq_true rfl, Nat.le_of_ble_eq_true rfl⟩) (l_preS hK hP hE hC hS l_s2 hz) rfl rfl hl.1 rfl (lv_room (Nat.le_of_ble_eq_true rfl)) dL_law_12 ⟨Nat.le_of_ble_eq_true rfl, Nat.le_of_ble_eq_true rfl⟩) hS (fun q _ h => l_s2 q h) (fun q h => l_s2 q h) (fun u t H1 locs ht _ _ hB _ hk hS => ?_)
  rw [ht] at hB
  have hPC1 : va_P D vwCl (c_ws tc (n_aC s.heap.size) TC (n_rg g9)) H1 := hPC.kept fun k q hq => hk q.1 (hPC k q hq).lt (l_n2 k q hq)
  have hPM := hB.1
  refine lv_astore_n (lv' := [(2, .ref (n_ad (s.heap.size + 131) 0)), (1, .ref (n_aC s.heap.size 0)), (0, .ref b)]) hx hb dL_law_15 rfl hl (by decide) rfl (fun ls hl => ?_)
  refine lv_iconst (v := nI 0) hx hb dL_law_16 (by decide) ?_
  refine lv_istore_n (lv' := l_lv b s.heap.size 0) hx hb dL_law_17 rfl hl (by decide) rfl (fun ls hl => ?_)
  have C1 : l_C p s m c D tc s.heap.size E b L xs := ⟨hx, hb, hml, hown, hts, hK, hE, hX, hbl, rfl, hL⟩
  refine l_loop C1 (by exact Nat.le_of_ble_eq_true rfl) (by exact Nat.le_of_ble_eq_true rfl) (fun H locs ls hS => ?_) (L + 1) 0 (n_rg g9) nG_76 H1 locs ls (by omega) (by decide) ⟨hPC1, hPM, hS, hl, p_R1 a9 b9⟩
  refine va_forget hS.2.2 ?_
  refine W.widen (k := 600000) (n := 7302250) (Nat.le_of_ble_eq_true rfl) (Nat.le_of_ble_eq_true rfl) ?_
  refine lv_iconst (v := (1 : Int32)) hx hb dL_law_1389 (by decide) ?_
  exact lw_ret hx hb hr hlocks dL_law_1390
