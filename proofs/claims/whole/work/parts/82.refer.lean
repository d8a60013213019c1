theorem n_Zsi {n m a j : Nat} {v : Int32} {g : c_G} (h : n_Zg n g) (hm : n ≤ m) (ha : a ≤ m) : n_Zg m (c_si g a j v) := by
  intro k hk
  refine ⟨fun i => ?_, (h k (by omega)).2⟩
  show (c_sr g a _).1 k i = 0
  rw [c_sr_ne (by omega)]
  exact (h k (by omega)).1 i
section NC1
variable {p : Program} {l : Launch} {e : Env} {R : Room} {s : State} {m : MethodId} {args : Array Value} {below : List Frame} {meth : Method} {c : Code} {H : Heap} {locs : List Loc} {cells slots : Nat} {Q : State → Prop}
variable {cc : ByteArray} {pc : Nat} {ls : Array Slot} {rest : List Value} {D : va_G} {A : Nat → Prop} {H0 : Heap} {tc : Nat → ClassId} {ad : Nat → Nat} {T : List c_T} {g : c_G} {h0 : Nat} {E : (Nat → Nat) × (Nat → Nat) × Nat}
theorem n_cast1 (hexec : p.tables.exec = Jvm.exec) (hb : c.code = cc) (hK : va_K D vwCl (c_tys tc) s) (hP : va_P D vwCl (c_ws tc ad T g) H) (hD : c_D A ad T) (hS : va_S A H0 H locs) (h : Nat) {n : Nat} (ht : T[h]? = some (4, n, [])) {i x : Int32} {j : Nat} (hj : i.toNatClampNeg = j) (hin : vp_in i n) (hx : vp_nar .char x = x) {g1 : c_G} (eg : g1 = c_si g h j x) (hdg : decode cc pc = .ok (.castore, 1))
    (kk : ∀ (H1 : Heap) (locs1 : List Loc), va_P D vwCl (c_ws tc ad T g1) H1 → va_S A H0 H1 locs1 → W p l e R s m args below meth c H1 locs1 cells slots Q (F0 m (pc + 1) ls rest)) : W p l e R s m args below meth c H locs cells slots Q (F0 m pc ls (.int x :: .int i :: .ref (ad h) :: rest)) := by
  subst hj
  subst eg
  have e2 : c_cell tc ad (c_si g h i.toNatClampNeg x) h (4, n, []) = .inl (tc 4, n, .inl (upd (g.1 h) i.toNatClampNeg (vp_nar .char x))) := by
    rw [hx]
    show (Sum.inl (tc 4, n, .inl ((c_si g h i.toNatClampNeg x).1 h)) : va_E) = _
    rw [show (c_si g h i.toNatClampNeg x).1 h = upd (g.1 h) i.toNatClampNeg x from c_sr_at]
  refine va_cast hexec hb hK hP (hD.D tc g) hS h 3 (c_ws_at h ht) rfl hin hdg (fun H1 locs1 q1 _ q3 => kk H1 locs1 ?_ q3)
  rw [c_ws_set (tc := tc) (ad := ad) (g := g) (g' := c_si g h i.toNatClampNeg x) h ht e2 (fun a ha => c_sr_ne ha) (fun a _ => rfl) (fun a _ => rfl)] at q1
  exact q1
theorem n_ofS {y : MethodName} {ws ws' : List Cond} {rm : Room} {av : List Value} {bytes : ByteArray} {maxL mc ms : Nat} {ret : Option FieldType} {Qc : Array Value → State → Outcome → State → Prop} (hy : plainName y.cls = true) (hw : ws = Cond.code y bytes maxL ret :: ws') (hn : (lg_sl av).length ≤ maxL)
    (body : ∀ (p : Program) (e : Env) (s : State) (m : MethodId) (below : List Frame) (meth : Method) (c : Code) (ls : Array Slot), c_C p s m meth c D tc (n_A h0) E y.cls ws bytes maxL ret av.toArray →
      va_P D vwCl (c_ws tc (n_ad h0) T g) s.heap → s.heap.size = h0 + T.length → va_S (n_A h0) s.heap s.heap [] → lv_has ls maxL (lv_args 0 av) →
      W p l e rm s m av.toArray below meth c s.heap [] 0 0 (MQ below Qc av.toArray s mc ms (n_A h0)) (F0 m 0 ls [])) :
    Met l y ws rm (va_Pc av (n_Pn D tc h0 E T g)) Qc mc ms (n_A h0) := by
  refine Met.ofW (cc := bytes) (maxL := maxL) (ret := ret) hy hw ?_
  intro p e s m args below meth c s₁ B hml hv
  obtain ⟨rfl, ⟨hP, hK, hE⟩, hz, hC⟩ := hv
  have hl := lv_entry av (n := maxL) hn
  have h0 := body p e s m below meth c _ ⟨B.exec, B.bytes, B.returns, hml, atoms_spec (ws := ws) B.pre, findClass_of_methodNamed B.named, B.notSynchronized, hK, hE⟩ hP hz va_S.rf hl
  rw [lg_entry_eq]
  exact h0
end NC1
def nG_0 : c_G := (fun _ _ => 0, fun _ _ => 0, fun _ => 57)
theorem nZ_0 : n_Zg 0 nG_0 := fun _ _ => ⟨fun _ => rfl, fun _ => rfl⟩
theorem i_X12_init_X12 : ∀ w ∈ u_ws RX12 TX12 32, w ∈ wsX12_init := c_inP [32, 33, 34, 35, 36, 37, 38, 39, 40, 41, 42, 43, 44, 45, 46, 47, 48, 49, 50, 51, 52, 53, 54, 55, 56, 57, 58, 59, 60, 61, 62, 63] (by decide +kernel)
def nM_0 : List c_T := [(0, 12, [2, 2, 2, 0, 2, 0, 2, 2, 0, 2, 0, 0, 0, 0, 0, 0, 2, 2, 2, 2, 2, 2, 2, 0, 2, 2, 2, 0, 2, 2, 2, 2])]
def nM_1 : List c_T := [(0, 12, [2, 2, 2, 0, 2, 0, 2, 2, 0, 2, 0, 0, 0, 0, 0, 0, 2, 2, 2, 2, 2, 2, 2, 0, 2, 2, 2, 0, 2, 2, 2, 2]), (1, 136, [])]
def nM_2 : List c_T := [(0, 12, [4, 2, 2, 0, 2, 0, 2, 2, 0, 2, 0, 0, 0, 0, 0, 0, 2, 2, 2, 2, 2, 2, 2, 0, 2, 2, 2, 0, 2, 2, 2, 2]), (1, 136, [])]
def nM_3 : List c_T := [(0, 12, [4, 2, 2, 0, 2, 0, 2, 2, 0, 2, 0, 0, 0, 0, 0, 0, 2, 2, 2, 2, 2, 2, 2, 0, 2, 2, 2, 0, 2, 2, 2, 2]), (1, 136, []), (1, 272, [])]
def nM_4 : List c_T := [(0, 12, [4, 5, 2, 0, 2, 0, 2, 2, 0, 2, 0, 0, 0, 0, 0, 0, 2, 2, 2, 2, 2, 2, 2, 0, 2, 2, 2, 0, 2, 2, 2, 2]), (1, 136, []), (1, 272, [])]
def nM_5 : List c_T := [(0, 12, [4, 5, 2, 0, 2, 0, 2, 2, 0, 2, 0, 0, 0, 0, 0, 0, 2, 2, 2, 2, 2, 2, 2, 0, 2, 2, 2, 0, 2, 2, 2, 2]), (1, 136, []), (1, 272, []), (1, 136, [])]
def nM_6 : List c_T := [(0, 12, [4, 5, 6, 0, 2, 0, 2, 2, 0, 2, 0, 0, 0, 0, 0, 0, 2, 2, 2, 2, 2, 2, 2, 0, 2, 2, 2, 0, 2, 2, 2, 2]), (1, 136, []), (1, 272, []), (1, 136, [])]
def nM_7 : List c_T := [(0, 12, [4, 5, 6, 0, 2, 0, 2, 2, 0, 2, 0, 0, 0, 0, 0, 0, 2, 2, 2, 2, 2, 2, 2, 0, 2, 2, 2, 0, 2, 2, 2, 2]), (1, 136, []), (1, 272, []), (1, 136, []), (1, 100, [])]
def nM_8 : List c_T := [(0, 12, [4, 5, 6, 0, 7, 0, 2, 2, 0, 2, 0, 0, 0, 0, 0, 0, 2, 2, 2, 2, 2, 2, 2, 0, 2, 2, 2, 0, 2, 2, 2, 2]), (1, 136, []), (1, 272, []), (1, 136, []), (1, 100, [])]
def nM_9 : List c_T := [(0, 12, [4, 5, 6, 0, 7, 0, 2, 2, 0, 2, 0, 0, 0, 0, 0, 0, 2, 2, 2, 2, 2, 2, 2, 0, 2, 2, 2, 0, 2, 2, 2, 2]), (1, 136, []), (1, 272, []), (1, 136, []), (1, 100, []), (1, 600, [])]
def nM_10 : List c_T := [(0, 12, [4, 5, 6, 0, 7, 0, 8, 2, 0, 2, 0, 0, 0, 0, 0, 0, 2, 2, 2, 2, 2, 2, 2, 0, 2, 2, 2, 0, 2, 2, 2, 2]), (1, 136, []), (1, 272, []), (1, 136, []), (1, 100, []), (1, 600, [])]
def nM_11 : List c_T := [(0, 12, [4, 5, 6, 0, 7, 0, 8, 2, 0, 2, 0, 0, 0, 0, 0, 0, 2, 2, 2, 2, 2, 2, 2, 0, 2, 2, 2, 0, 2, 2, 2, 2]), (1, 136, []), (1, 272, []), (1, 136, []), (1, 100, []), (1, 600, []), (1, 6, [])]
def nM_12 : List c_T := [(0, 12, [4, 5, 6, 0, 7, 0, 8, 9, 0, 2, 0, 0, 0, 0, 0, 0, 2, 2, 2, 2, 2, 2, 2, 0, 2, 2, 2, 0, 2, 2, 2, 2]), (1, 136, []), (1, 272, []), (1, 136, []), (1, 100, []), (1, 600, []), (1, 6, [])]
def nM_13 : List c_T := [(0, 12, [4, 5, 6, 0, 7, 0, 8, 9, 0, 2, 0, 0, 0, 0, 0, 0, 2, 2, 2, 2, 2, 2, 2, 0, 2, 2, 2, 0, 2, 2, 2, 2]), (1, 136, []), (1, 272, []), (1, 136, []), (1, 100, []), (1, 600, []), (1, 6, []), (1, 100, [])]
def nM_14 : List c_T := [(0, 12, [4, 5, 6, 0, 7, 0, 8, 9, 0, 10, 0, 0, 0, 0, 0, 0, 2, 2, 2, 2, 2, 2, 2, 0, 2, 2, 2, 0, 2, 2, 2, 2]), (1, 136, []), (1, 272, []), (1, 136, []), (1, 100, []), (1, 600, []), (1, 6, []), (1, 100, [])]
def nM_15 : List c_T := [(0, 12, [4, 5, 6, 0, 7, 0, 8, 9, 0, 10, 0, 0, 0, 0, 0, 0, 2, 2, 2, 2, 2, 2, 2, 0, 2, 2, 2, 0, 2, 2, 2, 2]), (1, 136, []), (1, 272, []), (1, 136, []), (1, 100, []), (1, 600, []), (1, 6, []), (1, 100, []), (1, 6, [])]
def nM_16 : List c_T := [(0, 12, [4, 5, 6, 0, 7, 0, 8, 9, 0, 10, 0, 0, 0, 0, 0, 0, 11, 2, 2, 2, 2, 2, 2, 0, 2, 2, 2, 0, 2, 2, 2, 2]), (1, 136, []), (1, 272, []), (1, 136, []), (1, 100, []), (1, 600, []), (1, 6, []), (1, 100, []), (1, 6, [])]
def nM_17 : List c_T := [(0, 12, [4, 5, 6, 0, 7, 0, 8, 9, 0, 10, 0, 0, 0, 0, 0, 0, 11, 2, 2, 2, 2, 2, 2, 0, 2, 2, 2, 0, 2, 2, 2, 2]), (1, 136, []), (1, 272, []), (1, 136, []), (1, 100, []), (1, 600, []), (1, 6, []), (1, 100, []), (1, 6, []), (4, 6, [])]
def nM_18 : List c_T := [(0, 12, [4, 5, 6, 0, 7, 0, 8, 9, 0, 10, 0, 0, 0, 0, 0, 0, 11, 12, 2, 2, 2, 2, 2, 0, 2, 2, 2, 0, 2, 2, 2, 2]), (1, 136, []), (1, 272, []), (1, 136, []), (1, 100, []), (1, 600, []), (1, 6, []), (1, 100, []), (1, 6, []), (4, 6, [])]
def nM_19 : List c_T := [(0, 12, [4, 5, 6, 0, 7, 0, 8, 9, 0, 10, 0, 0, 0, 0, 0, 0, 11, 12, 2, 2, 2, 2, 2, 0, 2, 2, 2, 0, 2, 2, 2, 2]), (1, 136, []), (1, 272, []), (1, 136, []), (1, 100, []), (1, 600, []), (1, 6, []), (1, 100, []), (1, 6, []), (4, 6, []), (4, 3, [])]
def nM_20 : List c_T := [(0, 12, [4, 5, 6, 0, 7, 0, 8, 9, 0, 10, 0, 0, 0, 0, 0, 0, 11, 12, 13, 2, 2, 2, 2, 0, 2, 2, 2, 0, 2, 2, 2, 2]), (1, 136, []), (1, 272, []), (1, 136, []), (1, 100, []), (1, 600, []), (1, 6, []), (1, 100, []), (1, 6, []), (4, 6, []), (4, 3, [])]
def nM_21 : List c_T := [(0, 12, [4, 5, 6, 0, 7, 0, 8, 9, 0, 10, 0, 0, 0, 0, 0, 0, 11, 12, 13, 2, 2, 2, 2, 0, 2, 2, 2, 0, 2, 2, 2, 2]), (1, 136, []), (1, 272, []), (1, 136, []), (1, 100, []), (1, 600, []), (1, 6, []), (1, 100, []), (1, 6, []), (4, 6, []), (4, 3, []), (4, 15, [])]
def nM_22 : List c_T := [(0, 12, [4, 5, 6, 0, 7, 0, 8, 9, 0, 10, 0, 0, 0, 0, 0, 0, 11, 12, 13, 14, 2, 2, 2, 0, 2, 2, 2, 0, 2, 2, 2, 2]), (1, 136, []), (1, 272, []), (1, 136, []), (1, 100, []), (1, 600, []), (1, 6, []), (1, 100, []), (1, 6, []), (4, 6, []), (4, 3, []), (4, 15, [])]
def nM_23 : List c_T := [(0, 12, [4, 5, 6, 0, 7, 0, 8, 9, 0, 10, 0, 0, 0, 0, 0, 0, 11, 12, 13, 14, 2, 2, 2, 0, 2, 2, 2, 0, 2, 2, 2, 2]), (1, 136, []), (1, 272, []), (1, 136, []), (1, 100, []), (1, 600, []), (1, 6, []), (1, 100, []), (1, 6, []), (4, 6, []), (4, 3, []), (4, 15, []), (1, 72, [])]
def nM_24 : List c_T := [(0, 12, [4, 5, 6, 0, 7, 0, 8, 9, 0, 10, 0, 0, 0, 0, 0, 0, 11, 12, 13, 14, 15, 2, 2, 0, 2, 2, 2, 0, 2, 2, 2, 2]), (1, 136, []), (1, 272, []), (1, 136, []), (1, 100, []), (1, 600, []), (1, 6, []), (1, 100, []), (1, 6, []), (4, 6, []), (4, 3, []), (4, 15, []), (1, 72, [])]
def nM_25 : List c_T := [(0, 12, [4, 5, 6, 0, 7, 0, 8, 9, 0, 10, 0, 0, 0, 0, 0, 0, 11, 12, 13, 14, 15, 2, 2, 0, 2, 2, 2, 0, 2, 2, 2, 2]), (1, 136, []), (1, 272, []), (1, 136, []), (1, 100, []), (1, 600, []), (1, 6, []), (1, 100, []), (1, 6, []), (4, 6, []), (4, 3, []), (4, 15, []), (1, 72, []), (1, 6, [])]
def nM_26 : List c_T := [(0, 12, [4, 5, 6, 0, 7, 0, 8, 9, 0, 10, 0, 0, 0, 0, 0, 0, 11, 12, 13, 14, 15, 16, 2, 0, 2, 2, 2, 0, 2, 2, 2, 2]), (1, 136, []), (1, 272, []), (1, 136, []), (1, 100, []), (1, 600, []), (1, 6, []), (1, 100, []), (1, 6, []), (4, 6, []), (4, 3, []), (4, 15, []), (1, 72, []), (1, 6, [])]
def nM_27 : List c_T := [(0, 12, [4, 5, 6, 0, 7, 0, 8, 9, 0, 10, 0, 0, 0, 0, 0, 0, 11, 12, 13, 14, 15, 16, 2, 0, 2, 2, 2, 0, 2, 2, 2, 2]), (1, 136, []), (1, 272, []), (1, 136, []), (1, 100, []), (1, 600, []), (1, 6, []), (1, 100, []), (1, 6, []), (4, 6, []), (4, 3, []), (4, 15, []), (1, 72, []), (1, 6, []), (1, 6, [])]
def nM_28 : List c_T := [(0, 12, [4, 5, 6, 0, 7, 0, 8, 9, 0, 10, 0, 0, 0, 0, 0, 0, 11, 12, 13, 14, 15, 16, 17, 0, 2, 2, 2, 0, 2, 2, 2, 2]), (1, 136, []), (1, 272, []), (1, 136, []), (1, 100, []), (1, 600, []), (1, 6, []), (1, 100, []), (1, 6, []), (4, 6, []), (4, 3, []), (4, 15, []), (1, 72, []), (1, 6, []), (1, 6, [])]
def nM_29 : List c_T := [(0, 12, [4, 5, 6, 0, 7, 0, 8, 9, 0, 10, 0, 0, 0, 0, 0, 0, 11, 12, 13, 14, 15, 16, 17, 0, 2, 2, 2, 0, 2, 2, 2, 2]), (1, 136, []), (1, 272, []), (1, 136, []), (1, 100, []), (1, 600, []), (1, 6, []), (1, 100, []), (1, 6, []), (4, 6, []), (4, 3, []), (4, 15, []), (1, 72, []), (1, 6, []), (1, 6, []), (1, 7, [])]
def nM_30 : List c_T := [(0, 12, [4, 5, 6, 0, 7, 0, 8, 9, 0, 10, 0, 0, 0, 0, 0, 0, 11, 12, 13, 14, 15, 16, 17, 0, 18, 2, 2, 0, 2, 2, 2, 2]), (1, 136, []), (1, 272, []), (1, 136, []), (1, 100, []), (1, 600, []), (1, 6, []), (1, 100, []), (1, 6, []), (4, 6, []), (4, 3, []), (4, 15, []), (1, 72, []), (1, 6, []), (1, 6, []), (1, 7, [])]
def nM_31 : List c_T := [(0, 12, [4, 5, 6, 0, 7, 0, 8, 9, 0, 10, 0, 0, 0, 0, 0, 0, 11, 12, 13, 14, 15, 16, 17, 0, 18, 2, 2, 0, 2, 2, 2, 2]), (1, 136, []), (1, 272, []), (1, 136, []), (1, 100, []), (1, 600, []), (1, 6, []), (1, 100, []), (1, 6, []), (4, 6, []), (4, 3, []), (4, 15, []), (1, 72, []), (1, 6, []), (1, 6, []), (1, 7, []), (1, 21, [])]
def nM_32 : List c_T := [(0, 12, [4, 5, 6, 0, 7, 0, 8, 9, 0, 10, 0, 0, 0, 0, 0, 0, 11, 12, 13, 14, 15, 16, 17, 0, 18, 19, 2, 0, 2, 2, 2, 2]), (1, 136, []), (1, 272, []), (1, 136, []), (1, 100, []), (1, 600, []), (1, 6, []), (1, 100, []), (1, 6, []), (4, 6, []), (4, 3, []), (4, 15, []), (1, 72, []), (1, 6, []), (1, 6, []), (1, 7, []), (1, 21, [])]
def nM_33 : List c_T := [(0, 12, [4, 5, 6, 0, 7, 0, 8, 9, 0, 10, 0, 0, 0, 0, 0, 0, 11, 12, 13, 14, 15, 16, 17, 0, 18, 19, 2, 0, 2, 2, 2, 2]), (1, 136, []), (1, 272, []), (1, 136, []), (1, 100, []), (1, 600, []), (1, 6, []), (1, 100, []), (1, 6, []), (4, 6, []), (4, 3, []), (4, 15, []), (1, 72, []), (1, 6, []), (1, 6, []), (1, 7, []), (1, 21, []), (1, 20, [])]
def nM_34 : List c_T := [(0, 12, [4, 5, 6, 0, 7, 0, 8, 9, 0, 10, 0, 0, 0, 0, 0, 0, 11, 12, 13, 14, 15, 16, 17, 0, 18, 19, 20, 0, 2, 2, 2, 2]), (1, 136, []), (1, 272, []), (1, 136, []), (1, 100, []), (1, 600, []), (1, 6, []), (1, 100, []), (1, 6, []), (4, 6, []), (4, 3, []), (4, 15, []), (1, 72, []), (1, 6, []), (1, 6, []), (1, 7, []), (1, 21, []), (1, 20, [])]
def nM_35 : List c_T := [(0, 12, [4, 5, 6, 0, 7, 0, 8, 9, 0, 10, 0, 0, 0, 0, 0, 0, 11, 12, 13, 14, 15, 16, 17, 0, 18, 19, 20, 0, 2, 2, 2, 2]), (1, 136, []), (1, 272, []), (1, 136, []), (1, 100, []), (1, 600, []), (1, 6, []), (1, 100, []), (1, 6, []), (4, 6, []), (4, 3, []), (4, 15, []), (1, 72, []), (1, 6, []), (1, 6, []), (1, 7, []), (1, 21, []), (1, 20, []), (1, 6, [])]
def nM_36 : List c_T := [(0, 12, [4, 5, 6, 0, 7, 0, 8, 9, 0, 10, 0, 0, 0, 0, 0, 0, 11, 12, 13, 14, 15, 16, 17, 0, 18, 19, 20, 0, 21, 2, 2, 2]), (1, 136, []), (1, 272, []), (1, 136, []), (1, 100, []), (1, 600, []), (1, 6, []), (1, 100, []), (1, 6, []), (4, 6, []), (4, 3, []), (4, 15, []), (1, 72, []), (1, 6, []), (1, 6, []), (1, 7, []), (1, 21, []), (1, 20, []), (1, 6, [])]
def nM_37 : List c_T := [(0, 12, [4, 5, 6, 0, 7, 0, 8, 9, 0, 10, 0, 0, 0, 0, 0, 0, 11, 12, 13, 14, 15, 16, 17, 0, 18, 19, 20, 0, 21, 2, 2, 2]), (1, 136, []), (1, 272, []), (1, 136, []), (1, 100, []), (1, 600, []), (1, 6, []), (1, 100, []), (1, 6, []), (4, 6, []), (4, 3, []), (4, 15, []), (1, 72, []), (1, 6, []), (1, 6, []), (1, 7, []), (1, 21, []), (1, 20, []), (1, 6, []), (1, 6, [])]
def nM_38 : List c_T := [(0, 12, [4, 5, 6, 0, 7, 0, 8, 9, 0, 10, 0, 0, 0, 0, 0, 0, 11, 12, 13, 14, 15, 16, 17, 0, 18, 19, 20, 0, 21, 22, 2, 2]), (1, 136, []), (1, 272, []), (1, 136, []), (1, 100, []), (1, 600, []), (1, 6, []), (1, 100, []), (1, 6, []), (4, 6, []), (4, 3, []), (4, 15, []), (1, 72, []), (1, 6, []), (1, 6, []), (1, 7, []), (1, 21, []), (1, 20, []), (1, 6, []), (1, 6, [])]
def nM_39 : List c_T := [(0, 12, [4, 5, 6, 0, 7, 0, 8, 9, 0, 10, 0, 0, 0, 0, 0, 0, 11, 12, 13, 14, 15, 16, 17, 0, 18, 19, 20, 0, 21, 22, 2, 2]), (1, 136, []), (1, 272, []), (1, 136, []), (1, 100, []), (1, 600, []), (1, 6, []), (1, 100, []), (1, 6, []), (4, 6, []), (4, 3, []), (4, 15, []), (1, 72, []), (1, 6, []), (1, 6, []), (1, 7, []), (1, 21, []), (1, 20, []), (1, 6, []), (1, 6, []), (2, 360, [])]
def nM_40 : List c_T := [(0, 12, [4, 5, 6, 0, 7, 0, 8, 9, 0, 10, 0, 0, 0, 0, 0, 0, 11, 12, 13, 14, 15, 16, 17, 0, 18, 19, 20, 0, 21, 22, 23, 2]), (1, 136, []), (1, 272, []), (1, 136, []), (1, 100, []), (1, 600, []), (1, 6, []), (1, 100, []), (1, 6, []), (4, 6, []), (4, 3, []), (4, 15, []), (1, 72, []), (1, 6, []), (1, 6, []), (1, 7, []), (1, 21, []), (1, 20, []), (1, 6, []), (1, 6, []), (2, 360, [])]
def nM_41 : List c_T := [(0, 12, [4, 5, 6, 0, 7, 0, 8, 9, 0, 10, 0, 0, 0, 0, 0, 0, 11, 12, 13, 14, 15, 16, 17, 0, 18, 19, 20, 0, 21, 22, 23, 2]), (1, 136, []), (1, 272, []), (1, 136, []), (1, 100, []), (1, 600, []), (1, 6, []), (1, 100, []), (1, 6, []), (4, 6, []), (4, 3, []), (4, 15, []), (1, 72, []), (1, 6, []), (1, 6, []), (1, 7, []), (1, 21, []), (1, 20, []), (1, 6, []), (1, 6, []), (2, 360, []), (2, 60, [])]
def nM_42 : List c_T := [(0, 12, [4, 5, 6, 0, 7, 0, 8, 9, 0, 10, 0, 0, 0, 0, 0, 0, 11, 12, 13, 14, 15, 16, 17, 0, 18, 19, 20, 0, 21, 22, 23, 24]), (1, 136, []), (1, 272, []), (1, 136, []), (1, 100, []), (1, 600, []), (1, 6, []), (1, 100, []), (1, 6, []), (4, 6, []), (4, 3, []), (4, 15, []), (1, 72, []), (1, 6, []), (1, 6, []), (1, 7, []), (1, 21, []), (1, 20, []), (1, 6, []), (1, 6, []), (2, 360, []), (2, 60, [])]
def nG_1 : c_G := c_si nG_0 1 0 (5 : Int32)
theorem nZ_1 : n_Zg 1 nG_1 := n_Zsi nZ_0 (by decide) (by decide)
def nG_2 : c_G := c_si nG_1 1 1 (-1 : Int32)
theorem nZ_2 : n_Zg 1 nG_2 := n_Zsi nZ_1 (by decide) (by decide)
def nG_3 : c_G := c_si nG_2 1 2 (-1 : Int32)
theorem nZ_3 : n_Zg 1 nG_3 := n_Zsi nZ_2 (by decide) (by decide)
def nG_4 : c_G := c_si nG_3 1 4 (5 : Int32)
theorem nZ_4 : n_Zg 1 nG_4 := n_Zsi nZ_3 (by decide) (by decide)
def nG_5 : c_G := c_si nG_4 1 5 (-1 : Int32)
theorem nZ_5 : n_Zg 1 nG_5 := n_Zsi nZ_4 (by decide) (by decide)
def nG_6 : c_G := c_si nG_5 1 6 (-1 : Int32)
theorem nZ_6 : n_Zg 1 nG_6 := n_Zsi nZ_5 (by decide) (by decide)
def nG_7 : c_G := c_si nG_6 1 8 (5 : Int32)
theorem nZ_7 : n_Zg 1 nG_7 := n_Zsi nZ_6 (by decide) (by decide)
def nG_8 : c_G := c_si nG_7 1 9 (-1 : Int32)
theorem nZ_8 : n_Zg 1 nG_8 := n_Zsi nZ_7 (by decide) (by decide)
def nG_9 : c_G := c_si nG_8 1 10 (-1 : Int32)
theorem nZ_9 : n_Zg 1 nG_9 := n_Zsi nZ_8 (by decide) (by decide)
def nG_10 : c_G := c_si nG_9 1 12 (5 : Int32)
theorem nZ_10 : n_Zg 1 nG_10 := n_Zsi nZ_9 (by decide) (by decide)
def nG_11 : c_G := c_si nG_10 1 13 (-1 : Int32)
theorem nZ_11 : n_Zg 1 nG_11 := n_Zsi nZ_10 (by decide) (by decide)
def nG_12 : c_G := c_si nG_11 1 14 (-1 : Int32)
theorem nZ_12 : n_Zg 1 nG_12 := n_Zsi nZ_11 (by decide) (by decide)
def nG_13 : c_G := c_si nG_12 1 16 (5 : Int32)
theorem nZ_13 : n_Zg 1 nG_13 := n_Zsi nZ_12 (by decide) (by decide)
def nG_14 : c_G := c_si nG_13 1 17 (-1 : Int32)
theorem nZ_14 : n_Zg 1 nG_14 := n_Zsi nZ_13 (by decide) (by decide)
def nG_15 : c_G := c_si nG_14 1 18 (-1 : Int32)
theorem nZ_15 : n_Zg 1 nG_15 := n_Zsi nZ_14 (by decide) (by decide)
def nG_16 : c_G := c_si nG_15 1 20 (5 : Int32)
theorem nZ_16 : n_Zg 1 nG_16 := n_Zsi nZ_15 (by decide) (by decide)
def nG_17 : c_G := c_si nG_16 1 21 (-1 : Int32)
theorem nZ_17 : n_Zg 1 nG_17 := n_Zsi nZ_16 (by decide) (by decide)
def nG_18 : c_G := c_si nG_17 1 22 (-1 : Int32)
theorem nZ_18 : n_Zg 1 nG_18 := n_Zsi nZ_17 (by decide) (by decide)
def nG_19 : c_G := c_si nG_18 9 0 (112 : Int32)
theorem nZ_19 : n_Zg 9 nG_19 := n_Zsi nZ_18 (by decide) (by decide)
def nG_20 : c_G := c_si nG_19 9 1 (107 : Int32)
theorem nZ_20 : n_Zg 9 nG_20 := n_Zsi nZ_19 (by decide) (by decide)
def nG_21 : c_G := c_si nG_20 9 2 (118 : Int32)
theorem nZ_21 : n_Zg 9 nG_21 := n_Zsi nZ_20 (by decide) (by decide)
def nG_22 : c_G := c_si nG_21 9 3 (120 : Int32)
theorem nZ_22 : n_Zg 9 nG_22 := n_Zsi nZ_21 (by decide) (by decide)
def nG_23 : c_G := c_si nG_22 9 4 (108 : Int32)
theorem nZ_23 : n_Zg 9 nG_23 := n_Zsi nZ_22 (by decide) (by decide)
def nG_24 : c_G := c_si nG_23 9 5 (97 : Int32)
theorem nZ_24 : n_Zg 9 nG_24 := n_Zsi nZ_23 (by decide) (by decide)
def nG_25 : c_G := c_si nG_24 10 0 (115 : Int32)
theorem nZ_25 : n_Zg 10 nG_25 := n_Zsi nZ_24 (by decide) (by decide)
def nG_26 : c_G := c_si nG_25 10 1 (106 : Int32)
theorem nZ_26 : n_Zg 10 nG_26 := n_Zsi nZ_25 (by decide) (by decide)
def nG_27 : c_G := c_si nG_26 10 2 (108 : Int32)
theorem nZ_27 : n_Zg 10 nG_27 := n_Zsi nZ_26 (by decide) (by decide)
def nG_28 : c_G := c_si nG_27 11 0 (115 : Int32)
theorem nZ_28 : n_Zg 11 nG_28 := n_Zsi nZ_27 (by decide) (by decide)
def nG_29 : c_G := c_si nG_28 11 1 (117 : Int32)
theorem nZ_29 : n_Zg 11 nG_29 := n_Zsi nZ_28 (by decide) (by decide)
def nG_30 : c_G := c_si nG_29 11 2 (105 : Int32)
theorem nZ_30 : n_Zg 11 nG_30 := n_Zsi nZ_29 (by decide) (by decide)
def nG_31 : c_G := c_si nG_30 11 3 (116 : Int32)
theorem nZ_31 : n_Zg 11 nG_31 := n_Zsi nZ_30 (by decide) (by decide)
def nG_32 : c_G := c_si nG_31 11 4 (0 : Int32)
theorem nZ_32 : n_Zg 11 nG_32 := n_Zsi nZ_31 (by decide) (by decide)
def nG_33 : c_G := c_si nG_32 11 5 (106 : Int32)
theorem nZ_33 : n_Zg 11 nG_33 := n_Zsi nZ_32 (by decide) (by decide)
def nG_34 : c_G := c_si nG_33 11 6 (97 : Int32)
theorem nZ_34 : n_Zg 11 nG_34 := n_Zsi nZ_33 (by decide) (by decide)
def nG_35 : c_G := c_si nG_34 11 7 (114 : Int32)
theorem nZ_35 : n_Zg 11 nG_35 := n_Zsi nZ_34 (by decide) (by decide)
def nG_36 : c_G := c_si nG_35 11 8 (0 : Int32)
theorem nZ_36 : n_Zg 11 nG_36 := n_Zsi nZ_35 (by decide) (by decide)
def nG_37 : c_G := c_si nG_36 11 9 (0 : Int32)
theorem nZ_37 : n_Zg 11 nG_37 := n_Zsi nZ_36 (by decide) (by decide)
def nG_38 : c_G := c_si nG_37 11 10 (108 : Int32)
theorem nZ_38 : n_Zg 11 nG_38 := n_Zsi nZ_37 (by decide) (by decide)
def nG_39 : c_G := c_si nG_38 11 11 (101 : Int32)
theorem nZ_39 : n_Zg 11 nG_39 := n_Zsi nZ_38 (by decide) (by decide)
def nG_40 : c_G := c_si nG_39 11 12 (97 : Int32)
theorem nZ_40 : n_Zg 11 nG_40 := n_Zsi nZ_39 (by decide) (by decide)
def nG_41 : c_G := c_si nG_40 11 13 (114 : Int32)
theorem nZ_41 : n_Zg 11 nG_41 := n_Zsi nZ_40 (by decide) (by decide)
def nG_42 : c_G := c_si nG_41 11 14 (110 : Int32)
theorem nZ_42 : n_Zg 11 nG_42 := n_Zsi nZ_41 (by decide) (by decide)
def nG_43 : c_G := c_si nG_42 15 0 (-1 : Int32)
theorem nZ_43 : n_Zg 15 nG_43 := n_Zsi nZ_42 (by decide) (by decide)
def nG_44 : c_G := c_si nG_43 15 1 (0 : Int32)
theorem nZ_44 : n_Zg 15 nG_44 := n_Zsi nZ_43 (by decide) (by decide)
def nG_45 : c_G := c_si nG_44 15 2 (0 : Int32)
theorem nZ_45 : n_Zg 15 nG_45 := n_Zsi nZ_44 (by decide) (by decide)
def nG_46 : c_G := c_si nG_45 15 3 (0 : Int32)
theorem nZ_46 : n_Zg 15 nG_46 := n_Zsi nZ_45 (by decide) (by decide)
def nG_47 : c_G := c_si nG_46 15 4 (1 : Int32)
theorem nZ_47 : n_Zg 15 nG_47 := n_Zsi nZ_46 (by decide) (by decide)
def nG_48 : c_G := c_si nG_47 15 5 (2 : Int32)
theorem nZ_48 : n_Zg 15 nG_48 := n_Zsi nZ_47 (by decide) (by decide)
def nG_49 : c_G := c_si nG_48 15 6 (3 : Int32)
theorem nZ_49 : n_Zg 15 nG_49 := n_Zsi nZ_48 (by decide) (by decide)
def nG_50 : c_G := c_si nG_49 16 0 (10 : Int32)
theorem nZ_50 : n_Zg 16 nG_50 := n_Zsi nZ_49 (by decide) (by decide)
def nG_51 : c_G := c_si nG_50 16 1 (11 : Int32)
theorem nZ_51 : n_Zg 16 nG_51 := n_Zsi nZ_50 (by decide) (by decide)
def nG_52 : c_G := c_si nG_51 16 2 (12 : Int32)
theorem nZ_52 : n_Zg 16 nG_52 := n_Zsi nZ_51 (by decide) (by decide)
def nG_53 : c_G := c_si nG_52 16 3 (0 : Int32)
theorem nZ_53 : n_Zg 16 nG_53 := n_Zsi nZ_52 (by decide) (by decide)
def nG_54 : c_G := c_si nG_53 16 4 (20 : Int32)
theorem nZ_54 : n_Zg 16 nG_54 := n_Zsi nZ_53 (by decide) (by decide)
def nG_55 : c_G := c_si nG_54 16 5 (0 : Int32)
theorem nZ_55 : n_Zg 16 nG_55 := n_Zsi nZ_54 (by decide) (by decide)
def nG_56 : c_G := c_si nG_55 16 6 (30 : Int32)
theorem nZ_56 : n_Zg 16 nG_56 := n_Zsi nZ_55 (by decide) (by decide)
def nG_57 : c_G := c_si nG_56 16 7 (0 : Int32)
theorem nZ_57 : n_Zg 16 nG_57 := n_Zsi nZ_56 (by decide) (by decide)
def nG_58 : c_G := c_si nG_57 16 8 (0 : Int32)
theorem nZ_58 : n_Zg 16 nG_58 := n_Zsi nZ_57 (by decide) (by decide)
def nG_59 : c_G := c_si nG_58 16 9 (0 : Int32)
theorem nZ_59 : n_Zg 16 nG_59 := n_Zsi nZ_58 (by decide) (by decide)
def nG_60 : c_G := c_si nG_59 16 10 (0 : Int32)
theorem nZ_60 : n_Zg 16 nG_60 := n_Zsi nZ_59 (by decide) (by decide)
def nG_61 : c_G := c_si nG_60 16 11 (40 : Int32)
theorem nZ_61 : n_Zg 16 nG_61 := n_Zsi nZ_60 (by decide) (by decide)
def nG_62 : c_G := c_si nG_61 16 12 (50 : Int32)
theorem nZ_62 : n_Zg 16 nG_62 := n_Zsi nZ_61 (by decide) (by decide)
def nG_63 : c_G := c_si nG_62 16 13 (51 : Int32)
theorem nZ_63 : n_Zg 16 nG_63 := n_Zsi nZ_62 (by decide) (by decide)
def nG_64 : c_G := c_si nG_63 16 14 (0 : Int32)
theorem nZ_64 : n_Zg 16 nG_64 := n_Zsi nZ_63 (by decide) (by decide)
def nG_65 : c_G := c_si nG_64 16 15 (0 : Int32)
theorem nZ_65 : n_Zg 16 nG_65 := n_Zsi nZ_64 (by decide) (by decide)
def nG_66 : c_G := c_si nG_65 16 16 (0 : Int32)
theorem nZ_66 : n_Zg 16 nG_66 := n_Zsi nZ_65 (by decide) (by decide)
def nG_67 : c_G := c_si nG_66 16 17 (60 : Int32)
theorem nZ_67 : n_Zg 16 nG_67 := n_Zsi nZ_66 (by decide) (by decide)
def nG_68 : c_G := c_si nG_67 16 18 (71 : Int32)
theorem nZ_68 : n_Zg 16 nG_68 := n_Zsi nZ_67 (by decide) (by decide)
def nG_69 : c_G := c_si nG_68 16 19 (70 : Int32)
theorem nZ_69 : n_Zg 16 nG_69 := n_Zsi nZ_68 (by decide) (by decide)
def nG_70 : c_G := c_si nG_69 16 20 (0 : Int32)
theorem nZ_70 : n_Zg 16 nG_70 := n_Zsi nZ_69 (by decide) (by decide)
def nG_71 : c_G := c_si nG_70 18 0 (-1 : Int32)
theorem nZ_71 : n_Zg 18 nG_71 := n_Zsi nZ_70 (by decide) (by decide)
def nG_72 : c_G := c_si nG_71 18 1 (-1 : Int32)
theorem nZ_72 : n_Zg 18 nG_72 := n_Zsi nZ_71 (by decide) (by decide)
def nG_73 : c_G := c_si nG_72 18 2 (-1 : Int32)
theorem nZ_73 : n_Zg 18 nG_73 := n_Zsi nZ_72 (by decide) (by decide)
def nG_74 : c_G := c_si nG_73 18 3 (-1 : Int32)
theorem nZ_74 : n_Zg 18 nG_74 := n_Zsi nZ_73 (by decide) (by decide)
def nG_75 : c_G := c_si nG_74 18 4 (-1 : Int32)
theorem nZ_75 : n_Zg 18 nG_75 := n_Zsi nZ_74 (by decide) (by decide)
def nG_76 : c_G := c_si nG_75 18 5 (-1 : Int32)
theorem nZ_76 : n_Zg 18 nG_76 := n_Zsi nZ_75 (by decide) (by decide)
set_option maxRecDepth 100000 in
set_option maxHeartbeats 4000000 in
theorem kX12_fresh {l : Launch} {D : va_G} {tc : Nat → ClassId} {h0 : Nat} {E : (Nat → Nat) × (Nat → Nat) × Nat} : Met l yX12_fresh wsX12_fresh (n_rm 0 1 136) (va_Pc ([] : List Value) (n_Pn D tc h0 E nM_0 nG_0)) (va_Qr (fun (_ : Unit) => True) (fun _ a t => a = n_ad h0 1 ∧ va_P D vwCl (c_ws tc (n_ad h0) nM_1 nG_18) t.heap ∧ t.heap.size = h0 + nM_1.length) (n_A h0)) 1 136 (n_A h0) := by
  refine n_ofS (bytes := cX12_fresh) (maxL := 2) (by decide) rfl (Nat.le_of_ble_eq_true rfl) ?_
  intro p e s m below meth c ls K hP hsz hS hl
  obtain ⟨hx, hb, hr, hml, hts, hown, hlk, hK, hE⟩ := id K
  have hl : lv_has ls 2 [] := hl
  have hz := hsz
  refine lv_sipush (v := (136 : Int32)) hx hb dX12_fresh_0 (by decide) ?_
  refine n_newI hx hb (hts _ (List.mem_of_getElem? (i := 1) rfl)) hK hP hz hS (by rw [show nM_0.length = 1 from by decide +kernel]; exact (nZ_0 1 (by decide)).1) 136 (by decide) (by decide) (by decide) (Nat.le_of_ble_eq_true rfl) (Nat.le_of_ble_eq_true rfl) dX12_fresh_3 (fun H hP hz hS => ?_)
  rw [show nM_0 ++ [((1, 136, []) : c_T)] = nM_1 from by decide +kernel] at hP hz
  rw [show nM_0.length = 1 from by decide +kernel]
  refine lv_astore_n (lv' := [(0, .ref (n_ad h0 1))]) hx hb dX12_fresh_5 rfl hl (by decide) rfl (fun ls hl => ?_)
  refine lv_iconst (v := (0 : Int32)) hx hb dX12_fresh_6 (by decide) ?_
  refine lv_istore_n (lv' := [(1, .int (0 : Int32)), (0, .ref (n_ad h0 1))]) hx hb dX12_fresh_7 rfl hl (by decide) rfl (fun ls hl => ?_)
  refine lv_iload_n hx hb dX12_fresh_8 rfl (lv_at hl 0 rfl) ?_
  refine lv_bipush (v := (6 : Int32)) hx hb dX12_fresh_9 (by decide) ?_
  refine lv_icmp_ge (tgt := 42) hx hb dX12_fresh_11 (by decide) (fun c9 => absurd c9 (by decide)) (fun _ => ?_)
  refine lv_aload_n hx hb dX12_fresh_14 rfl (lv_at hl 1 rfl) ?_
  refine lv_iconst (v := (4 : Int32)) hx hb dX12_fresh_15 (by decide) ?_
  refine lv_iload_n hx hb dX12_fresh_16 rfl (lv_at hl 0 rfl) ?_
  refine lv_imul hx hb dX12_fresh_17 ?_
  refine lv_iconst (v := (5 : Int32)) hx hb dX12_fresh_18 (by decide) ?_
  refine c_iast (g1 := nG_1) hx hb hK hP (n_D h0 _) hS 1 (n := 136) rfl (j := 0) (by decide) (by unfold vp_in; decide) rfl dX12_fresh_19 (fun H locs hP hS => ?_)
  refine lv_aload_n hx hb dX12_fresh_20 rfl (lv_at hl 1 rfl) ?_
  refine lv_iconst (v := (4 : Int32)) hx hb dX12_fresh_21 (by decide) ?_
  refine lv_iload_n hx hb dX12_fresh_22 rfl (lv_at hl 0 rfl) ?_
  refine lv_imul hx hb dX12_fresh_23 ?_
  refine lv_iconst (v := (1 : Int32)) hx hb dX12_fresh_24 (by decide) ?_
  refine lv_iadd hx hb dX12_fresh_25 ?_
  refine lv_iconst (v := (-1 : Int32)) hx hb dX12_fresh_26 (by decide) ?_
  refine c_iast (g1 := nG_2) hx hb hK hP (n_D h0 _) hS 1 (n := 136) rfl (j := 1) (by decide) (by unfold vp_in; decide) rfl dX12_fresh_27 (fun H locs hP hS => ?_)
  refine lv_aload_n hx hb dX12_fresh_28 rfl (lv_at hl 1 rfl) ?_
  refine lv_iconst (v := (4 : Int32)) hx hb dX12_fresh_29 (by decide) ?_
  refine lv_iload_n hx hb dX12_fresh_30 rfl (lv_at hl 0 rfl) ?_
  refine lv_imul hx hb dX12_fresh_31 ?_
  refine lv_iconst (v := (2 : Int32)) hx hb dX12_fresh_32 (by decide) ?_
  refine lv_iadd hx hb dX12_fresh_33 ?_
  refine lv_iconst (v := (-1 : Int32)) hx hb dX12_fresh_34 (by decide) ?_
  refine c_iast (g1 := nG_3) hx hb hK hP (n_D h0 _) hS 1 (n := 136) rfl (j := 2) (by decide) (by unfold vp_in; decide) rfl dX12_fresh_35 (fun H locs hP hS => ?_)
  refine lv_iinc (v := (1 : Int32)) (lv' := [(1, .int (1 : Int32)), (0, .ref (n_ad h0 1))]) hx hb dX12_fresh_36 hl (k := 0) rfl (by decide) (by decide) rfl (fun ls hl => ?_)
  refine lv_goto (tgt := 8) hx hb dX12_fresh_39 (by decide) ?_
  refine lv_iload_n hx hb dX12_fresh_8 rfl (lv_at hl 0 rfl) ?_
  refine lv_bipush (v := (6 : Int32)) hx hb dX12_fresh_9 (by decide) ?_
  refine lv_icmp_ge (tgt := 42) hx hb dX12_fresh_11 (by decide) (fun c9 => absurd c9 (by decide)) (fun _ => ?_)
  refine lv_aload_n hx hb dX12_fresh_14 rfl (lv_at hl 1 rfl) ?_
  refine lv_iconst (v := (4 : Int32)) hx hb dX12_fresh_15 (by decide) ?_
  refine lv_iload_n hx hb dX12_fresh_16 rfl (lv_at hl 0 rfl) ?_
  refine lv_imul hx hb dX12_fresh_17 ?_
  refine lv_iconst (v := (5 : Int32)) hx hb dX12_fresh_18 (by decide) ?_
  refine c_iast (g1 := nG_4) hx hb hK hP (n_D h0 _) hS 1 (n := 136) rfl (j := 4) (by decide) (by unfold vp_in; decide) rfl dX12_fresh_19 (fun H locs hP hS => ?_)
  refine lv_aload_n hx hb dX12_fresh_20 rfl (lv_at hl 1 rfl) ?_
  refine lv_iconst (v := (4 : Int32)) hx hb dX12_fresh_21 (by decide) ?_
  refine lv_iload_n hx hb dX12_fresh_22 rfl (lv_at hl 0 rfl) ?_
  refine lv_imul hx hb dX12_fresh_23 ?_
  refine lv_iconst (v := (1 : Int32)) hx hb dX12_fresh_24 (by decide) ?_
  refine lv_iadd hx hb dX12_fresh_25 ?_
  refine lv_iconst (v := (-1 : Int32)) hx hb dX12_fresh_26 (by decide) ?_
  refine c_iast (g1 := nG_5) hx hb hK hP (n_D h0 _) hS 1 (n := 136) rfl (j := 5) (by decide) (by unfold vp_in; decide) rfl dX12_fresh_27 (fun H locs hP hS => ?_)
  refine lv_aload_n hx hb dX12_fresh_28 rfl (lv_at hl 1 rfl) ?_
  refine lv_iconst (v := (4 : Int32)) hx hb dX12_fresh_29 (by decide) ?_
  refine lv_iload_n hx hb dX12_fresh_30 rfl (lv_at hl 0 rfl) ?_
  refine lv_imul hx hb dX12_fresh_31 ?_
  refine lv_iconst (v := (2 : Int32)) hx hb dX12_fresh_32 (by decide) ?_
  refine lv_iadd hx hb dX12_fresh_33 ?_
  refine lv_iconst (v := (-1 : Int32)) hx hb dX12_fresh_34 (by decide) ?_
  refine c_iast (g1 := nG_6) hx hb hK hP (n_D h0 _) hS 1 (n := 136) rfl (j := 6) (by decide) (by unfold vp_in; decide) rfl dX12_fresh_35 (fun H locs hP hS => ?_)
  refine lv_iinc (v := (2 : Int32)) (lv' := [(1, .int (2 : Int32)), (0, .ref (n_ad h0 1))]) hx hb dX12_fresh_36 hl (k := 0) rfl (by decide) (by decide) rfl (fun ls hl => ?_)
  refine lv_goto (tgt := 8) hx hb dX12_fresh_39 (by decide) ?_
  refine lv_iload_n hx hb dX12_fresh_8 rfl (lv_at hl 0 rfl) ?_
  refine lv_bipush (v := (6 : Int32)) hx hb dX12_fresh_9 (by decide) ?_
  refine lv_icmp_ge (tgt := 42) hx hb dX12_fresh_11 (by decide) (fun c9 => absurd c9 (by decide)) (fun _ => ?_)
  refine lv_aload_n hx hb dX12_fresh_14 rfl (lv_at hl 1 rfl) ?_
  refine lv_iconst (v := (4 : Int32)) hx hb dX12_fresh_15 (by decide) ?_
  refine lv_iload_n hx hb dX12_fresh_16 rfl (lv_at hl 0 rfl) ?_
  refine lv_imul hx hb dX12_fresh_17 ?_
  refine lv_iconst (v := (5 : Int32)) hx hb dX12_fresh_18 (by decide) ?_
  refine c_iast (g1 := nG_7) hx hb hK hP (n_D h0 _) hS 1 (n := 136) rfl (j := 8) (by decide) (by unfold vp_in; decide) rfl dX12_fresh_19 (fun H locs hP hS => ?_)
  refine lv_aload_n hx hb dX12_fresh_20 rfl (lv_at hl 1 rfl) ?_
  refine lv_iconst (v := (4 : Int32)) hx hb dX12_fresh_21 (by decide) ?_
  refine lv_iload_n hx hb dX12_fresh_22 rfl (lv_at hl 0 rfl) ?_
  refine lv_imul hx hb dX12_fresh_23 ?_
  refine lv_iconst (v := (1 : Int32)) hx hb dX12_fresh_24 (by decide) ?_
  refine lv_iadd hx hb dX12_fresh_25 ?_
  refine lv_iconst (v := (-1 : Int32)) hx hb dX12_fresh_26 (by decide) ?_
  refine c_iast (g1 := nG_8) hx hb hK hP (n_D h0 _) hS 1 (n := 136) rfl (j := 9) (by decide) (by unfold vp_in; decide) rfl dX12_fresh_27 (fun H locs hP hS => ?_)
  refine lv_aload_n hx hb dX12_fresh_28 rfl (lv_at hl 1 rfl) ?_
  refine lv_iconst (v := (4 : Int32)) hx hb dX12_fresh_29 (by decide) ?_
  refine lv_iload_n hx hb dX12_fresh_30 rfl (lv_at hl 0 rfl) ?_
  refine lv_imul hx hb dX12_fresh_31 ?_
  refine lv_iconst (v := (2 : Int32)) hx hb dX12_fresh_32 (by decide) ?_
  refine lv_iadd hx hb dX12_fresh_33 ?_
  refine lv_iconst (v := (-1 : Int32)) hx hb dX12_fresh_34 (by decide) ?_
  refine c_iast (g1 := nG_9) hx hb hK hP (n_D h0 _) hS 1 (n := 136) rfl (j := 10) (by decide) (by unfold vp_in; decide) rfl dX12_fresh_35 (fun H locs hP hS => ?_)
  refine lv_iinc (v := (3 : Int32)) (lv' := [(1, .int (3 : Int32)), (0, .ref (n_ad h0 1))]) hx hb dX12_fresh_36 hl (k := 0) rfl (by decide) (by decide) rfl (fun ls hl => ?_)
  refine lv_goto (tgt := 8) hx hb dX12_fresh_39 (by decide) ?_
  refine lv_iload_n hx hb dX12_fresh_8 rfl (lv_at hl 0 rfl) ?_
  refine lv_bipush (v := (6 : Int32)) hx hb dX12_fresh_9 (by decide) ?_
  refine lv_icmp_ge (tgt := 42) hx hb dX12_fresh_11 (by decide) (fun c9 => absurd c9 (by decide)) (fun _ => ?_)
  refine lv_aload_n hx hb dX12_fresh_14 rfl (lv_at hl 1 rfl) ?_
  refine lv_iconst (v := (4 : Int32)) hx hb dX12_fresh_15 (by decide) ?_
  refine lv_iload_n hx hb dX12_fresh_16 rfl (lv_at hl 0 rfl) ?_
  refine lv_imul hx hb dX12_fresh_17 ?_
  refine lv_iconst (v := (5 : Int32)) hx hb dX12_fresh_18 (by decide) ?_
  refine c_iast (g1 := nG_10) hx hb hK hP (n_D h0 _) hS 1 (n := 136) rfl (j := 12) (by decide) (by unfold vp_in; decide) rfl dX12_fresh_19 (fun H locs hP hS => ?_)
  refine lv_aload_n hx hb dX12_fresh_20 rfl (lv_at hl 1 rfl) ?_
  refine lv_iconst (v := (4 : Int32)) hx hb dX12_fresh_21 (by decide) ?_
  refine lv_iload_n hx hb dX12_fresh_22 rfl (lv_at hl 0 rfl) ?_
  refine lv_imul hx hb dX12_fresh_23 ?_
  refine lv_iconst (v := (1 : Int32)) hx hb dX12_fresh_24 (by decide) ?_
  refine lv_iadd hx hb dX12_fresh_25 ?_
  refine lv_iconst (v := (-1 : Int32)) hx hb dX12_fresh_26 (by decide) ?_
  refine c_iast (g1 := nG_11) hx hb hK hP (n_D h0 _) hS 1 (n := 136) rfl (j := 13) (by decide) (by unfold vp_in; decide) rfl dX12_fresh_27 (fun H locs hP hS => ?_)
  refine lv_aload_n hx hb dX12_fresh_28 rfl (lv_at hl 1 rfl) ?_
  refine lv_iconst (v := (4 : Int32)) hx hb dX12_fresh_29 (by decide) ?_
  refine lv_iload_n hx hb dX12_fresh_30 rfl (lv_at hl 0 rfl) ?_
  refine lv_imul hx hb dX12_fresh_31 ?_
  refine lv_iconst (v := (2 : Int32)) hx hb dX12_fresh_32 (by decide) ?_
  refine lv_iadd hx hb dX12_fresh_33 ?_
  refine lv_iconst (v := (-1 : Int32)) hx hb dX12_fresh_34 (by decide) ?_
  refine c_iast (g1 := nG_12) hx hb hK hP (n_D h0 _) hS 1 (n := 136) rfl (j := 14) (by decide) (by unfold vp_in; decide) rfl dX12_fresh_35 (fun H locs hP hS => ?_)
  refine lv_iinc (v := (4 : Int32)) (lv' := [(1, .int (4 : Int32)), (0, .ref (n_ad h0 1))]) hx hb dX12_fresh_36 hl (k := 0) rfl (by decide) (by decide) rfl (fun ls hl => ?_)
  refine lv_goto (tgt := 8) hx hb dX12_fresh_39 (by decide) ?_
  refine lv_iload_n hx hb dX12_fresh_8 rfl (lv_at hl 0 rfl) ?_
  refine lv_bipush (v := (6 : Int32)) hx hb dX12_fresh_9 (by decide) ?_
  refine lv_icmp_ge (tgt := 42) hx hb dX12_fresh_11 (by decide) (fun c9 => absurd c9 (by decide)) (fun _ => ?_)
  refine lv_aload_n hx hb dX12_fresh_14 rfl (lv_at hl 1 rfl) ?_
  refine lv_iconst (v := (4 : Int32)) hx hb dX12_fresh_15 (by decide) ?_
  refine lv_iload_n hx hb dX12_fresh_16 rfl (lv_at hl 0 rfl) ?_
  refine lv_imul hx hb dX12_fresh_17 ?_
  refine lv_iconst (v := (5 : Int32)) hx hb dX12_fresh_18 (by decide) ?_
  refine c_iast (g1 := nG_13) hx hb hK hP (n_D h0 _) hS 1 (n := 136) rfl (j := 16) (by decide) (by unfold vp_in; decide) rfl dX12_fresh_19 (fun H locs hP hS => ?_)
  refine lv_aload_n hx hb dX12_fresh_20 rfl (lv_at hl 1 rfl) ?_
  refine lv_iconst (v := (4 : Int32)) hx hb dX12_fresh_21 (by decide) ?_
  refine lv_iload_n hx hb dX12_fresh_22 rfl (lv_at hl 0 rfl) ?_
  refine lv_imul hx hb dX12_fresh_23 ?_
  refine lv_iconst (v := (1 : Int32)) hx hb dX12_fresh_24 (by decide) ?_
  refine lv_iadd hx hb dX12_fresh_25 ?_
  refine lv_iconst (v := (-1 : Int32)) hx hb dX12_fresh_26 (by decide) ?_
  refine c_iast (g1 := nG_14) hx hb hK hP (n_D h0 _) hS 1 (n := 136) rfl (j := 17) (by decide) (by unfold vp_in; decide) rfl dX12_fresh_27 (fun H locs hP hS => ?_)
  refine lv_aload_n hx hb dX12_fresh_28 rfl (lv_at hl 1 rfl) ?_
  refine lv_iconst (v := (4 : Int32)) hx hb dX12_fresh_29 (by decide) ?_
  refine lv_iload_n hx hb dX12_fresh_30 rfl (lv_at hl 0 rfl) ?_
  refine lv_imul hx hb dX12_fresh_31 ?_
  refine lv_iconst (v := (2 : Int32)) hx hb dX12_fresh_32 (by decide) ?_
  refine lv_iadd hx hb dX12_fresh_33 ?_
  refine lv_iconst (v := (-1 : Int32)) hx hb dX12_fresh_34 (by decide) ?_
  refine c_iast (g1 := nG_15) hx hb hK hP (n_D h0 _) hS 1 (n := 136) rfl (j := 18) (by decide) (by unfold vp_in; decide) rfl dX12_fresh_35 (fun H locs hP hS => ?_)
  refine lv_iinc (v := (5 : Int32)) (lv' := [(1, .int (5 : Int32)), (0, .ref (n_ad h0 1))]) hx hb dX12_fresh_36 hl (k := 0) rfl (by decide) (by decide) rfl (fun ls hl => ?_)
  refine lv_goto (tgt := 8) hx hb dX12_fresh_39 (by decide) ?_
  refine lv_iload_n hx hb dX12_fresh_8 rfl (lv_at hl 0 rfl) ?_
  refine lv_bipush (v := (6 : Int32)) hx hb dX12_fresh_9 (by decide) ?_
  refine lv_icmp_ge (tgt := 42) hx hb dX12_fresh_11 (by decide) (fun c9 => absurd c9 (by decide)) (fun _ => ?_)
  refine lv_aload_n hx hb dX12_fresh_14 rfl (lv_at hl 1 rfl) ?_
  refine lv_iconst (v := (4 : Int32)) hx hb dX12_fresh_15 (by decide) ?_
  refine lv_iload_n hx hb dX12_fresh_16 rfl (lv_at hl 0 rfl) ?_
  refine lv_imul hx hb dX12_fresh_17 ?_
  refine lv_iconst (v := (5 : Int32)) hx hb dX12_fresh_18 (by decide) ?_
  refine c_iast (g1 := nG_16) hx hb hK hP (n_D h0 _) hS 1 (n := 136) rfl (j := 20) (by decide) (by unfold vp_in; decide) rfl dX12_fresh_19 (fun H locs hP hS => ?_)
  refine lv_aload_n hx hb dX12_fresh_20 rfl (lv_at hl 1 rfl) ?_
  refine lv_iconst (v := (4 : Int32)) hx hb dX12_fresh_21 (by decide) ?_
  refine lv_iload_n hx hb dX12_fresh_22 rfl (lv_at hl 0 rfl) ?_
  refine lv_imul hx hb dX12_fresh_23 ?_
  refine lv_iconst (v := (1 : Int32)) hx hb dX12_fresh_24 (by decide) ?_
  refine lv_iadd hx hb dX12_fresh_25 ?_
  refine lv_iconst (v := (-1 : Int32)) hx hb dX12_fresh_26 (by decide) ?_
  refine c_iast (g1 := nG_17) hx hb hK hP (n_D h0 _) hS 1 (n := 136) rfl (j := 21) (by decide) (by unfold vp_in; decide) rfl dX12_fresh_27 (fun H locs hP hS => ?_)
  refine lv_aload_n hx hb dX12_fresh_28 rfl (lv_at hl 1 rfl) ?_
  refine lv_iconst (v := (4 : Int32)) hx hb dX12_fresh_29 (by decide) ?_
  refine lv_iload_n hx hb dX12_fresh_30 rfl (lv_at hl 0 rfl) ?_
  refine lv_imul hx hb dX12_fresh_31 ?_
  refine lv_iconst (v := (2 : Int32)) hx hb dX12_fresh_32 (by decide) ?_
  refine lv_iadd hx hb dX12_fresh_33 ?_
  refine lv_iconst (v := (-1 : Int32)) hx hb dX12_fresh_34 (by decide) ?_
  refine c_iast (g1 := nG_18) hx hb hK hP (n_D h0 _) hS 1 (n := 136) rfl (j := 22) (by decide) (by unfold vp_in; decide) rfl dX12_fresh_35 (fun H locs hP hS => ?_)
  refine lv_iinc (v := (6 : Int32)) (lv' := [(1, .int (6 : Int32)), (0, .ref (n_ad h0 1))]) hx hb dX12_fresh_36 hl (k := 0) rfl (by decide) (by decide) rfl (fun ls hl => ?_)
  refine lv_goto (tgt := 8) hx hb dX12_fresh_39 (by decide) ?_
  refine lv_iload_n hx hb dX12_fresh_8 rfl (lv_at hl 0 rfl) ?_
  refine lv_bipush (v := (6 : Int32)) hx hb dX12_fresh_9 (by decide) ?_
  refine lv_icmp_ge (tgt := 42) hx hb dX12_fresh_11 (by decide) (fun _ => ?_) (fun c9 => absurd c9 (by decide))
  refine lv_aload_n hx hb dX12_fresh_42 rfl (lv_at hl 1 rfl) ?_
  refine n_hz hP (by decide) (by rw [hsz, show nM_0.length = 1 from by decide +kernel, show nM_1.length = 2 from by decide +kernel]) (fun hz => ?_)
  exact W.aret hx hb hr (Or.inr ⟨_, rfl⟩) (Or.inr ⟨_, rfl⟩) (fun t ht hW => ⟨⟨(), n_ad h0 1, rfl, trivial, rfl, by rw [ht]; exact hP, by rw [ht]; exact hz⟩, hS.F ht⟩) hS.2.2 dX12_fresh_43 hlk
set_option maxRecDepth 100000 in
set_option maxHeartbeats 4000000 in
theorem kX12_init {l : Launch} {D : va_G} {tc : Nat → ClassId} {h0 : Nat} {E : (Nat → Nat) × (Nat → Nat) × Nat} : n_M l yX12_init wsX12_init 1 21 1944 D tc h0 E ([.ref (n_ad h0 0)] : List Value) nM_0 TM nG_0 nG_76 := by
  show n_M l yX12_init wsX12_init 1 21 1944 D tc h0 E ([.ref (n_ad h0 0)] : List Value) nM_0 nM_42 nG_0 nG_76
  refine n_ofW (bytes := cX12_init) (maxL := 1) (by decide) rfl rfl (Nat.le_of_ble_eq_true rfl) ?_
  intro p e s m below meth c ls K hP hsz hS hl
  obtain ⟨⟨hx, hb, hr, hml, hts, hown, hlk, hK, hE⟩, hC, hin⟩ := id K
  have hl : lv_has ls 1 [(0, .ref (n_ad h0 0))] := hl
  have hz := hsz
  refine lv_aload_n hx hb dX12_init_0 rfl (lv_at hl 0 rfl) ?_
  refine W.objInit hx hb hown (hts _ (List.mem_of_getElem? (i := 1) rfl)) (hts _ (List.mem_of_getElem? (i := 2) rfl)) (hts _ (List.mem_of_getElem? (i := 3) rfl)) rfl (by rw [hml]; exact hl.1) rfl dX12_init_1 (Nat.le_of_ble_eq_true rfl) (Nat.le_of_ble_eq_true rfl) ?_
  refine W.eq (g2 := F0 m 4 ls []) rfl ?_
  refine lv_aload_n hx hb dX12_init_4 rfl (lv_at hl 0 rfl) ?_
  refine va_callr (va_runS (As := []) (rest := [.ref (n_ad h0 0)]) ⟨hx, hb, hml, hown, hts⟩ kX12_fresh (va_cwS 0 hts gX12_init_X12_fresh rfl rfl rfl (by decide +kernel) ⟨Nat.le_of_ble_eq_true rfl, Nat.le_of_ble_eq_true rfl⟩) (n_preS hK hP hE hC hS hz) rfl rfl hl.1 rfl (lv_room (Nat.le_of_ble_eq_true rfl)) dX12_init_5 ⟨Nat.le_of_ble_eq_true rfl, Nat.le_of_ble_eq_true rfl⟩) hS (fun q _ h => h) (fun q h => h) (fun u ra t H locs ht _ _ hB _ _ hS => ?_)
  rw [ht] at hB
  obtain ⟨rfl, hP, hz⟩ := hB
  refine n_putF (T' := nM_2) (fl := [2, 2, 2, 0, 2, 0, 2, 2, 0, 2, 0, 0, 0, 0, 0, 0, 2, 2, 2, 2, 2, 2, 2, 0, 2, 2, 2, 0, 2, 2, 2, 2]) hx hb hts i_X12_init_X12 tyX12 tyX12_ok nmX12 hown hK hP hS 0 rfl rfl 0 (by decide) (hts _ (List.mem_of_getElem? (i := 4) rfl)) (fun _ h9 => h9) rfl hin rfl (ty := (.array .int)) (by decide +kernel) rfl rfl (Nat.le_of_ble_eq_true rfl) (4) rfl (by decide +kernel) dX12_init_8 (fun H locs hP hS => ?_)
  refine n_hz hP (by decide) (by rw [hsz, show nM_0.length = 1 from by decide +kernel, show nM_2.length = 2 from by decide +kernel]) (fun hz => ?_)
  refine lv_aload_n hx hb dX12_init_11 rfl (lv_at hl 0 rfl) ?_
  refine lv_sipush (v := (272 : Int32)) hx hb dX12_init_12 (by decide) ?_
  refine n_newI hx hb (hts _ (List.mem_of_getElem? (i := 5) rfl)) hK hP hz hS (by rw [show nM_2.length = 2 from by decide +kernel]; exact (nZ_18 2 (by decide)).1) 272 (by decide) (by decide) (by decide) (Nat.le_of_ble_eq_true rfl) (Nat.le_of_ble_eq_true rfl) dX12_init_15 (fun H hP hz hS => ?_)
  rw [show nM_2 ++ [((1, 272, []) : c_T)] = nM_3 from by decide +kernel] at hP hz
  rw [show nM_2.length = 2 from by decide +kernel]
  refine n_putF (T' := nM_4) (fl := [4, 2, 2, 0, 2, 0, 2, 2, 0, 2, 0, 0, 0, 0, 0, 0, 2, 2, 2, 2, 2, 2, 2, 0, 2, 2, 2, 0, 2, 2, 2, 2]) hx hb hts i_X12_init_X12 tyX12 tyX12_ok nmX12 hown hK hP hS 0 rfl rfl 1 (by decide) (hts _ (List.mem_of_getElem? (i := 6) rfl)) (fun _ h9 => h9) rfl hin rfl (ty := (.array .int)) (by decide +kernel) rfl rfl (Nat.le_of_ble_eq_true rfl) (5) rfl (by decide +kernel) dX12_init_17 (fun H locs hP hS => ?_)
  refine n_hz hP (by decide) (by rw [hsz, show nM_0.length = 1 from by decide +kernel, show nM_4.length = 3 from by decide +kernel]) (fun hz => ?_)
  refine lv_aload_n hx hb dX12_init_20 rfl (lv_at hl 0 rfl) ?_
  refine lv_sipush (v := (136 : Int32)) hx hb dX12_init_21 (by decide) ?_
  refine n_newI hx hb (hts _ (List.mem_of_getElem? (i := 5) rfl)) hK hP hz hS (by rw [show nM_4.length = 3 from by decide +kernel]; exact (nZ_18 3 (by decide)).1) 136 (by decide) (by decide) (by decide) (Nat.le_of_ble_eq_true rfl) (Nat.le_of_ble_eq_true rfl) dX12_init_24 (fun H hP hz hS => ?_)
  rw [show nM_4 ++ [((1, 136, []) : c_T)] = nM_5 from by decide +kernel] at hP hz
  rw [show nM_4.length = 3 from by decide +kernel]
  refine n_putF (T' := nM_6) (fl := [4, 5, 2, 0, 2, 0, 2, 2, 0, 2, 0, 0, 0, 0, 0, 0, 2, 2, 2, 2, 2, 2, 2, 0, 2, 2, 2, 0, 2, 2, 2, 2]) hx hb hts i_X12_init_X12 tyX12 tyX12_ok nmX12 hown hK hP hS 0 rfl rfl 2 (by decide) (hts _ (List.mem_of_getElem? (i := 7) rfl)) (fun _ h9 => h9) rfl hin rfl (ty := (.array .int)) (by decide +kernel) rfl rfl (Nat.le_of_ble_eq_true rfl) (6) rfl (by decide +kernel) dX12_init_26 (fun H locs hP hS => ?_)
  refine n_hz hP (by decide) (by rw [hsz, show nM_0.length = 1 from by decide +kernel, show nM_6.length = 4 from by decide +kernel]) (fun hz => ?_)
  refine lv_aload_n hx hb dX12_init_29 rfl (lv_at hl 0 rfl) ?_
  refine lv_bipush (v := (100 : Int32)) hx hb dX12_init_30 (by decide) ?_
  refine n_newI hx hb (hts _ (List.mem_of_getElem? (i := 5) rfl)) hK hP hz hS (by rw [show nM_6.length = 4 from by decide +kernel]; exact (nZ_18 4 (by decide)).1) 100 (by decide) (by decide) (by decide) (Nat.le_of_ble_eq_true rfl) (Nat.le_of_ble_eq_true rfl) dX12_init_32 (fun H hP hz hS => ?_)
  rw [show nM_6 ++ [((1, 100, []) : c_T)] = nM_7 from by decide +kernel] at hP hz
  rw [show nM_6.length = 4 from by decide +kernel]
  refine n_putF (T' := nM_8) (fl := [4, 5, 6, 0, 2, 0, 2, 2, 0, 2, 0, 0, 0, 0, 0, 0, 2, 2, 2, 2, 2, 2, 2, 0, 2, 2, 2, 0, 2, 2, 2, 2]) hx hb hts i_X12_init_X12 tyX12 tyX12_ok nmX12 hown hK hP hS 0 rfl rfl 4 (by decide) (hts _ (List.mem_of_getElem? (i := 8) rfl)) (fun _ h9 => h9) rfl hin rfl (ty := (.array .int)) (by decide +kernel) rfl rfl (Nat.le_of_ble_eq_true rfl) (7) rfl (by decide +kernel) dX12_init_34 (fun H locs hP hS => ?_)
  refine n_hz hP (by decide) (by rw [hsz, show nM_0.length = 1 from by decide +kernel, show nM_8.length = 5 from by decide +kernel]) (fun hz => ?_)
  refine lv_aload_n hx hb dX12_init_37 rfl (lv_at hl 0 rfl) ?_
  refine lv_sipush (v := (600 : Int32)) hx hb dX12_init_38 (by decide) ?_
  refine n_newI hx hb (hts _ (List.mem_of_getElem? (i := 5) rfl)) hK hP hz hS (by rw [show nM_8.length = 5 from by decide +kernel]; exact (nZ_18 5 (by decide)).1) 600 (by decide) (by decide) (by decide) (Nat.le_of_ble_eq_true rfl) (Nat.le_of_ble_eq_true rfl) dX12_init_41 (fun H hP hz hS => ?_)
  rw [show nM_8 ++ [((1, 600, []) : c_T)] = nM_9 from by decide +kernel] at hP hz
  rw [show nM_8.length = 5 from by decide +kernel]
  refine n_putF (T' := nM_10) (fl := [4, 5, 6, 0, 7, 0, 2, 2, 0, 2, 0, 0, 0, 0, 0, 0, 2, 2, 2, 2, 2, 2, 2, 0, 2, 2, 2, 0, 2, 2, 2, 2]) hx hb hts i_X12_init_X12 tyX12 tyX12_ok nmX12 hown hK hP hS 0 rfl rfl 6 (by decide) (hts _ (List.mem_of_getElem? (i := 9) rfl)) (fun _ h9 => h9) rfl hin rfl (ty := (.array .int)) (by decide +kernel) rfl rfl (Nat.le_of_ble_eq_true rfl) (8) rfl (by decide +kernel) dX12_init_43 (fun H locs hP hS => ?_)
  refine n_hz hP (by decide) (by rw [hsz, show nM_0.length = 1 from by decide +kernel, show nM_10.length = 6 from by decide +kernel]) (fun hz => ?_)
  refine lv_aload_n hx hb dX12_init_46 rfl (lv_at hl 0 rfl) ?_
  refine lv_bipush (v := (6 : Int32)) hx hb dX12_init_47 (by decide) ?_
  refine n_newI hx hb (hts _ (List.mem_of_getElem? (i := 5) rfl)) hK hP hz hS (by rw [show nM_10.length = 6 from by decide +kernel]; exact (nZ_18 6 (by decide)).1) 6 (by decide) (by decide) (by decide) (Nat.le_of_ble_eq_true rfl) (Nat.le_of_ble_eq_true rfl) dX12_init_49 (fun H hP hz hS => ?_)
  rw [show nM_10 ++ [((1, 6, []) : c_T)] = nM_11 from by decide +kernel] at hP hz
  rw [show nM_10.length = 6 from by decide +kernel]
  refine n_putF (T' := nM_12) (fl := [4, 5, 6, 0, 7, 0, 8, 2, 0, 2, 0, 0, 0, 0, 0, 0, 2, 2, 2, 2, 2, 2, 2, 0, 2, 2, 2, 0, 2, 2, 2, 2]) hx hb hts i_X12_init_X12 tyX12 tyX12_ok nmX12 hown hK hP hS 0 rfl rfl 7 (by decide) (hts _ (List.mem_of_getElem? (i := 10) rfl)) (fun _ h9 => h9) rfl hin rfl (ty := (.array .int)) (by decide +kernel) rfl rfl (Nat.le_of_ble_eq_true rfl) (9) rfl (by decide +kernel) dX12_init_51 (fun H locs hP hS => ?_)
  refine n_hz hP (by decide) (by rw [hsz, show nM_0.length = 1 from by decide +kernel, show nM_12.length = 7 from by decide +kernel]) (fun hz => ?_)
  refine lv_aload_n hx hb dX12_init_54 rfl (lv_at hl 0 rfl) ?_
  refine lv_bipush (v := (100 : Int32)) hx hb dX12_init_55 (by decide) ?_
  refine n_newI hx hb (hts _ (List.mem_of_getElem? (i := 5) rfl)) hK hP hz hS (by rw [show nM_12.length = 7 from by decide +kernel]; exact (nZ_18 7 (by decide)).1) 100 (by decide) (by decide) (by decide) (Nat.le_of_ble_eq_true rfl) (Nat.le_of_ble_eq_true rfl) dX12_init_57 (fun H hP hz hS => ?_)
  rw [show nM_12 ++ [((1, 100, []) : c_T)] = nM_13 from by decide +kernel] at hP hz
  rw [show nM_12.length = 7 from by decide +kernel]
  refine n_putF (T' := nM_14) (fl := [4, 5, 6, 0, 7, 0, 8, 9, 0, 2, 0, 0, 0, 0, 0, 0, 2, 2, 2, 2, 2, 2, 2, 0, 2, 2, 2, 0, 2, 2, 2, 2]) hx hb hts i_X12_init_X12 tyX12 tyX12_ok nmX12 hown hK hP hS 0 rfl rfl 9 (by decide) (hts _ (List.mem_of_getElem? (i := 11) rfl)) (fun _ h9 => h9) rfl hin rfl (ty := (.array .int)) (by decide +kernel) rfl rfl (Nat.le_of_ble_eq_true rfl) (10) rfl (by decide +kernel) dX12_init_59 (fun H locs hP hS => ?_)
  refine n_hz hP (by decide) (by rw [hsz, show nM_0.length = 1 from by decide +kernel, show nM_14.length = 8 from by decide +kernel]) (fun hz => ?_)
  refine lv_aload_n hx hb dX12_init_62 rfl (lv_at hl 0 rfl) ?_
  refine lv_bipush (v := (6 : Int32)) hx hb dX12_init_63 (by decide) ?_
  refine n_newI hx hb (hts _ (List.mem_of_getElem? (i := 5) rfl)) hK hP hz hS (by rw [show nM_14.length = 8 from by decide +kernel]; exact (nZ_18 8 (by decide)).1) 6 (by decide) (by decide) (by decide) (Nat.le_of_ble_eq_true rfl) (Nat.le_of_ble_eq_true rfl) dX12_init_65 (fun H hP hz hS => ?_)
  rw [show nM_14 ++ [((1, 6, []) : c_T)] = nM_15 from by decide +kernel] at hP hz
  rw [show nM_14.length = 8 from by decide +kernel]
  refine n_putF (T' := nM_16) (fl := [4, 5, 6, 0, 7, 0, 8, 9, 0, 10, 0, 0, 0, 0, 0, 0, 2, 2, 2, 2, 2, 2, 2, 0, 2, 2, 2, 0, 2, 2, 2, 2]) hx hb hts i_X12_init_X12 tyX12 tyX12_ok nmX12 hown hK hP hS 0 rfl rfl 16 (by decide) (hts _ (List.mem_of_getElem? (i := 12) rfl)) (fun _ h9 => h9) rfl hin rfl (ty := (.array .int)) (by decide +kernel) rfl rfl (Nat.le_of_ble_eq_true rfl) (11) rfl (by decide +kernel) dX12_init_67 (fun H locs hP hS => ?_)
  refine n_hz hP (by decide) (by rw [hsz, show nM_0.length = 1 from by decide +kernel, show nM_16.length = 9 from by decide +kernel]) (fun hz => ?_)
  refine lv_aload_n hx hb dX12_init_70 rfl (lv_at hl 0 rfl) ?_
  refine lv_bipush (v := (6 : Int32)) hx hb dX12_init_71 (by decide) ?_
  refine n_newC hx hb (hts _ (List.mem_of_getElem? (i := 13) rfl)) hK hP hz hS (by rw [show nM_16.length = 9 from by decide +kernel]; exact (nZ_18 9 (by decide)).1) 6 (by decide) (by decide) (by decide) (Nat.le_of_ble_eq_true rfl) (Nat.le_of_ble_eq_true rfl) dX12_init_73 (fun H hP hz hS => ?_)
  rw [show nM_16 ++ [((4, 6, []) : c_T)] = nM_17 from by decide +kernel] at hP hz
  rw [show nM_16.length = 9 from by decide +kernel]
  refine lv_dup hx hb dX12_init_75 rfl ?_
  refine lv_iconst (v := (0 : Int32)) hx hb dX12_init_76 (by decide) ?_
  refine lv_bipush (v := (112 : Int32)) hx hb dX12_init_77 (by decide) ?_
  refine n_cast1 (g1 := nG_19) hx hb hK hP (n_D h0 _) hS 9 (n := 6) rfl (j := 0) (by decide) (by unfold vp_in; decide) (by decide) rfl dX12_init_79 (fun H locs hP hS => ?_)
  refine lv_dup hx hb dX12_init_80 rfl ?_
  refine lv_iconst (v := (1 : Int32)) hx hb dX12_init_81 (by decide) ?_
  refine lv_bipush (v := (107 : Int32)) hx hb dX12_init_82 (by decide) ?_
  refine n_cast1 (g1 := nG_20) hx hb hK hP (n_D h0 _) hS 9 (n := 6) rfl (j := 1) (by decide) (by unfold vp_in; decide) (by decide) rfl dX12_init_84 (fun H locs hP hS => ?_)
  refine lv_dup hx hb dX12_init_85 rfl ?_
  refine lv_iconst (v := (2 : Int32)) hx hb dX12_init_86 (by decide) ?_
  refine lv_bipush (v := (118 : Int32)) hx hb dX12_init_87 (by decide) ?_
  refine n_cast1 (g1 := nG_21) hx hb hK hP (n_D h0 _) hS 9 (n := 6) rfl (j := 2) (by decide) (by unfold vp_in; decide) (by decide) rfl dX12_init_89 (fun H locs hP hS => ?_)
  refine lv_dup hx hb dX12_init_90 rfl ?_
  refine lv_iconst (v := (3 : Int32)) hx hb dX12_init_91 (by decide) ?_
  refine lv_bipush (v := (120 : Int32)) hx hb dX12_init_92 (by decide) ?_
  refine n_cast1 (g1 := nG_22) hx hb hK hP (n_D h0 _) hS 9 (n := 6) rfl (j := 3) (by decide) (by unfold vp_in; decide) (by decide) rfl dX12_init_94 (fun H locs hP hS => ?_)
  refine lv_dup hx hb dX12_init_95 rfl ?_
  refine lv_iconst (v := (4 : Int32)) hx hb dX12_init_96 (by decide) ?_
  refine lv_bipush (v := (108 : Int32)) hx hb dX12_init_97 (by decide) ?_
  refine n_cast1 (g1 := nG_23) hx hb hK hP (n_D h0 _) hS 9 (n := 6) rfl (j := 4) (by decide) (by unfold vp_in; decide) (by decide) rfl dX12_init_99 (fun H locs hP hS => ?_)
  refine lv_dup hx hb dX12_init_100 rfl ?_
  refine lv_iconst (v := (5 : Int32)) hx hb dX12_init_101 (by decide) ?_
  refine lv_bipush (v := (97 : Int32)) hx hb dX12_init_102 (by decide) ?_
  refine n_cast1 (g1 := nG_24) hx hb hK hP (n_D h0 _) hS 9 (n := 6) rfl (j := 5) (by decide) (by unfold vp_in; decide) (by decide) rfl dX12_init_104 (fun H locs hP hS => ?_)
  refine n_putF (T' := nM_18) (fl := [4, 5, 6, 0, 7, 0, 8, 9, 0, 10, 0, 0, 0, 0, 0, 0, 11, 2, 2, 2, 2, 2, 2, 0, 2, 2, 2, 0, 2, 2, 2, 2]) hx hb hts i_X12_init_X12 tyX12 tyX12_ok nmX12 hown hK hP hS 0 rfl rfl 17 (by decide) (hts _ (List.mem_of_getElem? (i := 14) rfl)) (fun _ h9 => h9) rfl hin rfl (ty := (.array .char)) (by decide +kernel) rfl rfl (Nat.le_of_ble_eq_true rfl) (12) rfl (by decide +kernel) dX12_init_105 (fun H locs hP hS => ?_)
  refine n_hz hP (by decide) (by rw [hsz, show nM_0.length = 1 from by decide +kernel, show nM_18.length = 10 from by decide +kernel]) (fun hz => ?_)
  refine lv_aload_n hx hb dX12_init_108 rfl (lv_at hl 0 rfl) ?_
  refine lv_iconst (v := (3 : Int32)) hx hb dX12_init_109 (by decide) ?_
  refine n_newC hx hb (hts _ (List.mem_of_getElem? (i := 13) rfl)) hK hP hz hS (by rw [show nM_18.length = 10 from by decide +kernel]; exact (nZ_24 10 (by decide)).1) 3 (by decide) (by decide) (by decide) (Nat.le_of_ble_eq_true rfl) (Nat.le_of_ble_eq_true rfl) dX12_init_110 (fun H hP hz hS => ?_)
  rw [show nM_18 ++ [((4, 3, []) : c_T)] = nM_19 from by decide +kernel] at hP hz
  rw [show nM_18.length = 10 from by decide +kernel]
  refine lv_dup hx hb dX12_init_112 rfl ?_
  refine lv_iconst (v := (0 : Int32)) hx hb dX12_init_113 (by decide) ?_
  refine lv_bipush (v := (115 : Int32)) hx hb dX12_init_114 (by decide) ?_
  refine n_cast1 (g1 := nG_25) hx hb hK hP (n_D h0 _) hS 10 (n := 3) rfl (j := 0) (by decide) (by unfold vp_in; decide) (by decide) rfl dX12_init_116 (fun H locs hP hS => ?_)
  refine lv_dup hx hb dX12_init_117 rfl ?_
  refine lv_iconst (v := (1 : Int32)) hx hb dX12_init_118 (by decide) ?_
  refine lv_bipush (v := (106 : Int32)) hx hb dX12_init_119 (by decide) ?_
  refine n_cast1 (g1 := nG_26) hx hb hK hP (n_D h0 _) hS 10 (n := 3) rfl (j := 1) (by decide) (by unfold vp_in; decide) (by decide) rfl dX12_init_121 (fun H locs hP hS => ?_)
  refine lv_dup hx hb dX12_init_122 rfl ?_
  refine lv_iconst (v := (2 : Int32)) hx hb dX12_init_123 (by decide) ?_
  refine lv_bipush (v := (108 : Int32)) hx hb dX12_init_124 (by decide) ?_
  refine n_cast1 (g1 := nG_27) hx hb hK hP (n_D h0 _) hS 10 (n := 3) rfl (j := 2) (by decide) (by unfold vp_in; decide) (by decide) rfl dX12_init_126 (fun H locs hP hS => ?_)
  refine n_putF (T' := nM_20) (fl := [4, 5, 6, 0, 7, 0, 8, 9, 0, 10, 0, 0, 0, 0, 0, 0, 11, 12, 2, 2, 2, 2, 2, 0, 2, 2, 2, 0, 2, 2, 2, 2]) hx hb hts i_X12_init_X12 tyX12 tyX12_ok nmX12 hown hK hP hS 0 rfl rfl 18 (by decide) (hts _ (List.mem_of_getElem? (i := 15) rfl)) (fun _ h9 => h9) rfl hin rfl (ty := (.array .char)) (by decide +kernel) rfl rfl (Nat.le_of_ble_eq_true rfl) (13) rfl (by decide +kernel) dX12_init_127 (fun H locs hP hS => ?_)
  refine n_hz hP (by decide) (by rw [hsz, show nM_0.length = 1 from by decide +kernel, show nM_20.length = 11 from by decide +kernel]) (fun hz => ?_)
  refine lv_aload_n hx hb dX12_init_130 rfl (lv_at hl 0 rfl) ?_
  refine lv_bipush (v := (15 : Int32)) hx hb dX12_init_131 (by decide) ?_
  refine n_newC hx hb (hts _ (List.mem_of_getElem? (i := 13) rfl)) hK hP hz hS (by rw [show nM_20.length = 11 from by decide +kernel]; exact (nZ_27 11 (by decide)).1) 15 (by decide) (by decide) (by decide) (Nat.le_of_ble_eq_true rfl) (Nat.le_of_ble_eq_true rfl) dX12_init_133 (fun H hP hz hS => ?_)
  rw [show nM_20 ++ [((4, 15, []) : c_T)] = nM_21 from by decide +kernel] at hP hz
  rw [show nM_20.length = 11 from by decide +kernel]
  refine lv_dup hx hb dX12_init_135 rfl ?_
  refine lv_iconst (v := (0 : Int32)) hx hb dX12_init_136 (by decide) ?_
  refine lv_bipush (v := (115 : Int32)) hx hb dX12_init_137 (by decide) ?_
  refine n_cast1 (g1 := nG_28) hx hb hK hP (n_D h0 _) hS 11 (n := 15) rfl (j := 0) (by decide) (by unfold vp_in; decide) (by decide) rfl dX12_init_139 (fun H locs hP hS => ?_)
  refine lv_dup hx hb dX12_init_140 rfl ?_
  refine lv_iconst (v := (1 : Int32)) hx hb dX12_init_141 (by decide) ?_
  refine lv_bipush (v := (117 : Int32)) hx hb dX12_init_142 (by decide) ?_
  refine n_cast1 (g1 := nG_29) hx hb hK hP (n_D h0 _) hS 11 (n := 15) rfl (j := 1) (by decide) (by unfold vp_in; decide) (by decide) rfl dX12_init_144 (fun H locs hP hS => ?_)
  refine lv_dup hx hb dX12_init_145 rfl ?_
  refine lv_iconst (v := (2 : Int32)) hx hb dX12_init_146 (by decide) ?_
  refine lv_bipush (v := (105 : Int32)) hx hb dX12_init_147 (by decide) ?_
  refine n_cast1 (g1 := nG_30) hx hb hK hP (n_D h0 _) hS 11 (n := 15) rfl (j := 2) (by decide) (by unfold vp_in; decide) (by decide) rfl dX12_init_149 (fun H locs hP hS => ?_)
  refine lv_dup hx hb dX12_init_150 rfl ?_
  refine lv_iconst (v := (3 : Int32)) hx hb dX12_init_151 (by decide) ?_
  refine lv_bipush (v := (116 : Int32)) hx hb dX12_init_152 (by decide) ?_
  refine n_cast1 (g1 := nG_31) hx hb hK hP (n_D h0 _) hS 11 (n := 15) rfl (j := 3) (by decide) (by unfold vp_in; decide) (by decide) rfl dX12_init_154 (fun H locs hP hS => ?_)
  refine lv_dup hx hb dX12_init_155 rfl ?_
  refine lv_iconst (v := (4 : Int32)) hx hb dX12_init_156 (by decide) ?_
  refine lv_iconst (v := (0 : Int32)) hx hb dX12_init_157 (by decide) ?_
  refine n_cast1 (g1 := nG_32) hx hb hK hP (n_D h0 _) hS 11 (n := 15) rfl (j := 4) (by decide) (by unfold vp_in; decide) (by decide) rfl dX12_init_158 (fun H locs hP hS => ?_)
  refine lv_dup hx hb dX12_init_159 rfl ?_
  refine lv_iconst (v := (5 : Int32)) hx hb dX12_init_160 (by decide) ?_
  refine lv_bipush (v := (106 : Int32)) hx hb dX12_init_161 (by decide) ?_
  refine n_cast1 (g1 := nG_33) hx hb hK hP (n_D h0 _) hS 11 (n := 15) rfl (j := 5) (by decide) (by unfold vp_in; decide) (by decide) rfl dX12_init_163 (fun H locs hP hS => ?_)
  refine lv_dup hx hb dX12_init_164 rfl ?_
  refine lv_bipush (v := (6 : Int32)) hx hb dX12_init_165 (by decide) ?_
  refine lv_bipush (v := (97 : Int32)) hx hb dX12_init_167 (by decide) ?_
  refine n_cast1 (g1 := nG_34) hx hb hK hP (n_D h0 _) hS 11 (n := 15) rfl (j := 6) (by decide) (by unfold vp_in; decide) (by decide) rfl dX12_init_169 (fun H locs hP hS => ?_)
  refine lv_dup hx hb dX12_init_170 rfl ?_
  refine lv_bipush (v := (7 : Int32)) hx hb dX12_init_171 (by decide) ?_
  refine lv_bipush (v := (114 : Int32)) hx hb dX12_init_173 (by decide) ?_
  refine n_cast1 (g1 := nG_35) hx hb hK hP (n_D h0 _) hS 11 (n := 15) rfl (j := 7) (by decide) (by unfold vp_in; decide) (by decide) rfl dX12_init_175 (fun H locs hP hS => ?_)
  refine lv_dup hx hb dX12_init_176 rfl ?_
  refine lv_bipush (v := (8 : Int32)) hx hb dX12_init_177 (by decide) ?_
  refine lv_iconst (v := (0 : Int32)) hx hb dX12_init_179 (by decide) ?_
  refine n_cast1 (g1 := nG_36) hx hb hK hP (n_D h0 _) hS 11 (n := 15) rfl (j := 8) (by decide) (by unfold vp_in; decide) (by decide) rfl dX12_init_180 (fun H locs hP hS => ?_)
  refine lv_dup hx hb dX12_init_181 rfl ?_
  refine lv_bipush (v := (9 : Int32)) hx hb dX12_init_182 (by decide) ?_
  refine lv_iconst (v := (0 : Int32)) hx hb dX12_init_184 (by decide) ?_
  refine n_cast1 (g1 := nG_37) hx hb hK hP (n_D h0 _) hS 11 (n := 15) rfl (j := 9) (by decide) (by unfold vp_in; decide) (by decide) rfl dX12_init_185 (fun H locs hP hS => ?_)
  refine lv_dup hx hb dX12_init_186 rfl ?_
  refine lv_bipush (v := (10 : Int32)) hx hb dX12_init_187 (by decide) ?_
  refine lv_bipush (v := (108 : Int32)) hx hb dX12_init_189 (by decide) ?_
  refine n_cast1 (g1 := nG_38) hx hb hK hP (n_D h0 _) hS 11 (n := 15) rfl (j := 10) (by decide) (by unfold vp_in; decide) (by decide) rfl dX12_init_191 (fun H locs hP hS => ?_)
  refine lv_dup hx hb dX12_init_192 rfl ?_
  refine lv_bipush (v := (11 : Int32)) hx hb dX12_init_193 (by decide) ?_
  refine lv_bipush (v := (101 : Int32)) hx hb dX12_init_195 (by decide) ?_
  refine n_cast1 (g1 := nG_39) hx hb hK hP (n_D h0 _) hS 11 (n := 15) rfl (j := 11) (by decide) (by unfold vp_in; decide) (by decide) rfl dX12_init_197 (fun H locs hP hS => ?_)
  refine lv_dup hx hb dX12_init_198 rfl ?_
  refine lv_bipush (v := (12 : Int32)) hx hb dX12_init_199 (by decide) ?_
  refine lv_bipush (v := (97 : Int32)) hx hb dX12_init_201 (by decide) ?_
  refine n_cast1 (g1 := nG_40) hx hb hK hP (n_D h0 _) hS 11 (n := 15) rfl (j := 12) (by decide) (by unfold vp_in; decide) (by decide) rfl dX12_init_203 (fun H locs hP hS => ?_)
  refine lv_dup hx hb dX12_init_204 rfl ?_
  refine lv_bipush (v := (13 : Int32)) hx hb dX12_init_205 (by decide) ?_
  refine lv_bipush (v := (114 : Int32)) hx hb dX12_init_207 (by decide) ?_
  refine n_cast1 (g1 := nG_41) hx hb hK hP (n_D h0 _) hS 11 (n := 15) rfl (j := 13) (by decide) (by unfold vp_in; decide) (by decide) rfl dX12_init_209 (fun H locs hP hS => ?_)
  refine lv_dup hx hb dX12_init_210 rfl ?_
  refine lv_bipush (v := (14 : Int32)) hx hb dX12_init_211 (by decide) ?_
  refine lv_bipush (v := (110 : Int32)) hx hb dX12_init_213 (by decide) ?_
  refine n_cast1 (g1 := nG_42) hx hb hK hP (n_D h0 _) hS 11 (n := 15) rfl (j := 14) (by decide) (by unfold vp_in; decide) (by decide) rfl dX12_init_215 (fun H locs hP hS => ?_)
  refine n_putF (T' := nM_22) (fl := [4, 5, 6, 0, 7, 0, 8, 9, 0, 10, 0, 0, 0, 0, 0, 0, 11, 12, 13, 2, 2, 2, 2, 0, 2, 2, 2, 0, 2, 2, 2, 2]) hx hb hts i_X12_init_X12 tyX12 tyX12_ok nmX12 hown hK hP hS 0 rfl rfl 19 (by decide) (hts _ (List.mem_of_getElem? (i := 16) rfl)) (fun _ h9 => h9) rfl hin rfl (ty := (.array .char)) (by decide +kernel) rfl rfl (Nat.le_of_ble_eq_true rfl) (14) rfl (by decide +kernel) dX12_init_216 (fun H locs hP hS => ?_)
  refine n_hz hP (by decide) (by rw [hsz, show nM_0.length = 1 from by decide +kernel, show nM_22.length = 12 from by decide +kernel]) (fun hz => ?_)
  refine lv_aload_n hx hb dX12_init_219 rfl (lv_at hl 0 rfl) ?_
  refine lv_bipush (v := (72 : Int32)) hx hb dX12_init_220 (by decide) ?_
  refine n_newI hx hb (hts _ (List.mem_of_getElem? (i := 5) rfl)) hK hP hz hS (by rw [show nM_22.length = 12 from by decide +kernel]; exact (nZ_42 12 (by decide)).1) 72 (by decide) (by decide) (by decide) (Nat.le_of_ble_eq_true rfl) (Nat.le_of_ble_eq_true rfl) dX12_init_222 (fun H hP hz hS => ?_)
  rw [show nM_22 ++ [((1, 72, []) : c_T)] = nM_23 from by decide +kernel] at hP hz
  rw [show nM_22.length = 12 from by decide +kernel]
  refine n_putF (T' := nM_24) (fl := [4, 5, 6, 0, 7, 0, 8, 9, 0, 10, 0, 0, 0, 0, 0, 0, 11, 12, 13, 14, 2, 2, 2, 0, 2, 2, 2, 0, 2, 2, 2, 2]) hx hb hts i_X12_init_X12 tyX12 tyX12_ok nmX12 hown hK hP hS 0 rfl rfl 20 (by decide) (hts _ (List.mem_of_getElem? (i := 17) rfl)) (fun _ h9 => h9) rfl hin rfl (ty := (.array .int)) (by decide +kernel) rfl rfl (Nat.le_of_ble_eq_true rfl) (15) rfl (by decide +kernel) dX12_init_224 (fun H locs hP hS => ?_)
  refine n_hz hP (by decide) (by rw [hsz, show nM_0.length = 1 from by decide +kernel, show nM_24.length = 13 from by decide +kernel]) (fun hz => ?_)
  refine lv_aload_n hx hb dX12_init_227 rfl (lv_at hl 0 rfl) ?_
  refine lv_bipush (v := (6 : Int32)) hx hb dX12_init_228 (by decide) ?_
  refine n_newI hx hb (hts _ (List.mem_of_getElem? (i := 5) rfl)) hK hP hz hS (by rw [show nM_24.length = 13 from by decide +kernel]; exact (nZ_42 13 (by decide)).1) 6 (by decide) (by decide) (by decide) (Nat.le_of_ble_eq_true rfl) (Nat.le_of_ble_eq_true rfl) dX12_init_230 (fun H hP hz hS => ?_)
  rw [show nM_24 ++ [((1, 6, []) : c_T)] = nM_25 from by decide +kernel] at hP hz
  rw [show nM_24.length = 13 from by decide +kernel]
  refine n_putF (T' := nM_26) (fl := [4, 5, 6, 0, 7, 0, 8, 9, 0, 10, 0, 0, 0, 0, 0, 0, 11, 12, 13, 14, 15, 2, 2, 0, 2, 2, 2, 0, 2, 2, 2, 2]) hx hb hts i_X12_init_X12 tyX12 tyX12_ok nmX12 hown hK hP hS 0 rfl rfl 21 (by decide) (hts _ (List.mem_of_getElem? (i := 18) rfl)) (fun _ h9 => h9) rfl hin rfl (ty := (.array .int)) (by decide +kernel) rfl rfl (Nat.le_of_ble_eq_true rfl) (16) rfl (by decide +kernel) dX12_init_232 (fun H locs hP hS => ?_)
  refine n_hz hP (by decide) (by rw [hsz, show nM_0.length = 1 from by decide +kernel, show nM_26.length = 14 from by decide +kernel]) (fun hz => ?_)
  refine lv_aload_n hx hb dX12_init_235 rfl (lv_at hl 0 rfl) ?_
  refine lv_bipush (v := (6 : Int32)) hx hb dX12_init_236 (by decide) ?_
  refine n_newI hx hb (hts _ (List.mem_of_getElem? (i := 5) rfl)) hK hP hz hS (by rw [show nM_26.length = 14 from by decide +kernel]; exact (nZ_42 14 (by decide)).1) 6 (by decide) (by decide) (by decide) (Nat.le_of_ble_eq_true rfl) (Nat.le_of_ble_eq_true rfl) dX12_init_238 (fun H hP hz hS => ?_)
  rw [show nM_26 ++ [((1, 6, []) : c_T)] = nM_27 from by decide +kernel] at hP hz
  rw [show nM_26.length = 14 from by decide +kernel]
  refine n_putF (T' := nM_28) (fl := [4, 5, 6, 0, 7, 0, 8, 9, 0, 10, 0, 0, 0, 0, 0, 0, 11, 12, 13, 14, 15, 16, 2, 0, 2, 2, 2, 0, 2, 2, 2, 2]) hx hb hts i_X12_init_X12 tyX12 tyX12_ok nmX12 hown hK hP hS 0 rfl rfl 22 (by decide) (hts _ (List.mem_of_getElem? (i := 19) rfl)) (fun _ h9 => h9) rfl hin rfl (ty := (.array .int)) (by decide +kernel) rfl rfl (Nat.le_of_ble_eq_true rfl) (17) rfl (by decide +kernel) dX12_init_240 (fun H locs hP hS => ?_)
  refine n_hz hP (by decide) (by rw [hsz, show nM_0.length = 1 from by decide +kernel, show nM_28.length = 15 from by decide +kernel]) (fun hz => ?_)
  refine lv_aload_n hx hb dX12_init_243 rfl (lv_at hl 0 rfl) ?_
  refine lv_bipush (v := (7 : Int32)) hx hb dX12_init_244 (by decide) ?_
  refine n_newI hx hb (hts _ (List.mem_of_getElem? (i := 5) rfl)) hK hP hz hS (by rw [show nM_28.length = 15 from by decide +kernel]; exact (nZ_42 15 (by decide)).1) 7 (by decide) (by decide) (by decide) (Nat.le_of_ble_eq_true rfl) (Nat.le_of_ble_eq_true rfl) dX12_init_246 (fun H hP hz hS => ?_)
  rw [show nM_28 ++ [((1, 7, []) : c_T)] = nM_29 from by decide +kernel] at hP hz
  rw [show nM_28.length = 15 from by decide +kernel]
  refine lv_dup hx hb dX12_init_248 rfl ?_
  refine lv_iconst (v := (0 : Int32)) hx hb dX12_init_249 (by decide) ?_
  refine lv_iconst (v := (-1 : Int32)) hx hb dX12_init_250 (by decide) ?_
  refine c_iast (g1 := nG_43) hx hb hK hP (n_D h0 _) hS 15 (n := 7) rfl (j := 0) (by decide) (by unfold vp_in; decide) rfl dX12_init_251 (fun H locs hP hS => ?_)
  refine lv_dup hx hb dX12_init_252 rfl ?_
  refine lv_iconst (v := (1 : Int32)) hx hb dX12_init_253 (by decide) ?_
  refine lv_iconst (v := (0 : Int32)) hx hb dX12_init_254 (by decide) ?_
  refine c_iast (g1 := nG_44) hx hb hK hP (n_D h0 _) hS 15 (n := 7) rfl (j := 1) (by decide) (by unfold vp_in; decide) rfl dX12_init_255 (fun H locs hP hS => ?_)
  refine lv_dup hx hb dX12_init_256 rfl ?_
  refine lv_iconst (v := (2 : Int32)) hx hb dX12_init_257 (by decide) ?_
  refine lv_iconst (v := (0 : Int32)) hx hb dX12_init_258 (by decide) ?_
  refine c_iast (g1 := nG_45) hx hb hK hP (n_D h0 _) hS 15 (n := 7) rfl (j := 2) (by decide) (by unfold vp_in; decide) rfl dX12_init_259 (fun H locs hP hS => ?_)
  refine lv_dup hx hb dX12_init_260 rfl ?_
  refine lv_iconst (v := (3 : Int32)) hx hb dX12_init_261 (by decide) ?_
  refine lv_iconst (v := (0 : Int32)) hx hb dX12_init_262 (by decide) ?_
  refine c_iast (g1 := nG_46) hx hb hK hP (n_D h0 _) hS 15 (n := 7) rfl (j := 3) (by decide) (by unfold vp_in; decide) rfl dX12_init_263 (fun H locs hP hS => ?_)
  refine lv_dup hx hb dX12_init_264 rfl ?_
  refine lv_iconst (v := (4 : Int32)) hx hb dX12_init_265 (by decide) ?_
  refine lv_iconst (v := (1 : Int32)) hx hb dX12_init_266 (by decide) ?_
  refine c_iast (g1 := nG_47) hx hb hK hP (n_D h0 _) hS 15 (n := 7) rfl (j := 4) (by decide) (by unfold vp_in; decide) rfl dX12_init_267 (fun H locs hP hS => ?_)
  refine lv_dup hx hb dX12_init_268 rfl ?_
  refine lv_iconst (v := (5 : Int32)) hx hb dX12_init_269 (by decide) ?_
  refine lv_iconst (v := (2 : Int32)) hx hb dX12_init_270 (by decide) ?_
  refine c_iast (g1 := nG_48) hx hb hK hP (n_D h0 _) hS 15 (n := 7) rfl (j := 5) (by decide) (by unfold vp_in; decide) rfl dX12_init_271 (fun H locs hP hS => ?_)
  refine lv_dup hx hb dX12_init_272 rfl ?_
  refine lv_bipush (v := (6 : Int32)) hx hb dX12_init_273 (by decide) ?_
  refine lv_iconst (v := (3 : Int32)) hx hb dX12_init_275 (by decide) ?_
  refine c_iast (g1 := nG_49) hx hb hK hP (n_D h0 _) hS 15 (n := 7) rfl (j := 6) (by decide) (by unfold vp_in; decide) rfl dX12_init_276 (fun H locs hP hS => ?_)
  refine n_putF (T' := nM_30) (fl := [4, 5, 6, 0, 7, 0, 8, 9, 0, 10, 0, 0, 0, 0, 0, 0, 11, 12, 13, 14, 15, 16, 17, 0, 2, 2, 2, 0, 2, 2, 2, 2]) hx hb hts i_X12_init_X12 tyX12 tyX12_ok nmX12 hown hK hP hS 0 rfl rfl 24 (by decide) (hts _ (List.mem_of_getElem? (i := 20) rfl)) (fun _ h9 => h9) rfl hin rfl (ty := (.array .int)) (by decide +kernel) rfl rfl (Nat.le_of_ble_eq_true rfl) (18) rfl (by decide +kernel) dX12_init_277 (fun H locs hP hS => ?_)
  refine n_hz hP (by decide) (by rw [hsz, show nM_0.length = 1 from by decide +kernel, show nM_30.length = 16 from by decide +kernel]) (fun hz => ?_)
  refine lv_aload_n hx hb dX12_init_280 rfl (lv_at hl 0 rfl) ?_
  refine lv_bipush (v := (21 : Int32)) hx hb dX12_init_281 (by decide) ?_
  refine n_newI hx hb (hts _ (List.mem_of_getElem? (i := 5) rfl)) hK hP hz hS (by rw [show nM_30.length = 16 from by decide +kernel]; exact (nZ_49 16 (by decide)).1) 21 (by decide) (by decide) (by decide) (Nat.le_of_ble_eq_true rfl) (Nat.le_of_ble_eq_true rfl) dX12_init_283 (fun H hP hz hS => ?_)
  rw [show nM_30 ++ [((1, 21, []) : c_T)] = nM_31 from by decide +kernel] at hP hz
  rw [show nM_30.length = 16 from by decide +kernel]
  refine lv_dup hx hb dX12_init_285 rfl ?_
  refine lv_iconst (v := (0 : Int32)) hx hb dX12_init_286 (by decide) ?_
  refine lv_bipush (v := (10 : Int32)) hx hb dX12_init_287 (by decide) ?_
  refine c_iast (g1 := nG_50) hx hb hK hP (n_D h0 _) hS 16 (n := 21) rfl (j := 0) (by decide) (by unfold vp_in; decide) rfl dX12_init_289 (fun H locs hP hS => ?_)
  refine lv_dup hx hb dX12_init_290 rfl ?_
  refine lv_iconst (v := (1 : Int32)) hx hb dX12_init_291 (by decide) ?_
  refine lv_bipush (v := (11 : Int32)) hx hb dX12_init_292 (by decide) ?_
  refine c_iast (g1 := nG_51) hx hb hK hP (n_D h0 _) hS 16 (n := 21) rfl (j := 1) (by decide) (by unfold vp_in; decide) rfl dX12_init_294 (fun H locs hP hS => ?_)
  refine lv_dup hx hb dX12_init_295 rfl ?_
  refine lv_iconst (v := (2 : Int32)) hx hb dX12_init_296 (by decide) ?_
  refine lv_bipush (v := (12 : Int32)) hx hb dX12_init_297 (by decide) ?_
  refine c_iast (g1 := nG_52) hx hb hK hP (n_D h0 _) hS 16 (n := 21) rfl (j := 2) (by decide) (by unfold vp_in; decide) rfl dX12_init_299 (fun H locs hP hS => ?_)
  refine lv_dup hx hb dX12_init_300 rfl ?_
  refine lv_iconst (v := (3 : Int32)) hx hb dX12_init_301 (by decide) ?_
  refine lv_iconst (v := (0 : Int32)) hx hb dX12_init_302 (by decide) ?_
  refine c_iast (g1 := nG_53) hx hb hK hP (n_D h0 _) hS 16 (n := 21) rfl (j := 3) (by decide) (by unfold vp_in; decide) rfl dX12_init_303 (fun H locs hP hS => ?_)
  refine lv_dup hx hb dX12_init_304 rfl ?_
  refine lv_iconst (v := (4 : Int32)) hx hb dX12_init_305 (by decide) ?_
  refine lv_bipush (v := (20 : Int32)) hx hb dX12_init_306 (by decide) ?_
  refine c_iast (g1 := nG_54) hx hb hK hP (n_D h0 _) hS 16 (n := 21) rfl (j := 4) (by decide) (by unfold vp_in; decide) rfl dX12_init_308 (fun H locs hP hS => ?_)
  refine lv_dup hx hb dX12_init_309 rfl ?_
  refine lv_iconst (v := (5 : Int32)) hx hb dX12_init_310 (by decide) ?_
  refine lv_iconst (v := (0 : Int32)) hx hb dX12_init_311 (by decide) ?_
  refine c_iast (g1 := nG_55) hx hb hK hP (n_D h0 _) hS 16 (n := 21) rfl (j := 5) (by decide) (by unfold vp_in; decide) rfl dX12_init_312 (fun H locs hP hS => ?_)
  refine lv_dup hx hb dX12_init_313 rfl ?_
  refine lv_bipush (v := (6 : Int32)) hx hb dX12_init_314 (by decide) ?_
  refine lv_bipush (v := (30 : Int32)) hx hb dX12_init_316 (by decide) ?_
  refine c_iast (g1 := nG_56) hx hb hK hP (n_D h0 _) hS 16 (n := 21) rfl (j := 6) (by decide) (by unfold vp_in; decide) rfl dX12_init_318 (fun H locs hP hS => ?_)
  refine lv_dup hx hb dX12_init_319 rfl ?_
  refine lv_bipush (v := (7 : Int32)) hx hb dX12_init_320 (by decide) ?_
  refine lv_iconst (v := (0 : Int32)) hx hb dX12_init_322 (by decide) ?_
  refine c_iast (g1 := nG_57) hx hb hK hP (n_D h0 _) hS 16 (n := 21) rfl (j := 7) (by decide) (by unfold vp_in; decide) rfl dX12_init_323 (fun H locs hP hS => ?_)
  refine lv_dup hx hb dX12_init_324 rfl ?_
  refine lv_bipush (v := (8 : Int32)) hx hb dX12_init_325 (by decide) ?_
  refine lv_iconst (v := (0 : Int32)) hx hb dX12_init_327 (by decide) ?_
  refine c_iast (g1 := nG_58) hx hb hK hP (n_D h0 _) hS 16 (n := 21) rfl (j := 8) (by decide) (by unfold vp_in; decide) rfl dX12_init_328 (fun H locs hP hS => ?_)
  refine lv_dup hx hb dX12_init_329 rfl ?_
  refine lv_bipush (v := (9 : Int32)) hx hb dX12_init_330 (by decide) ?_
  refine lv_iconst (v := (0 : Int32)) hx hb dX12_init_332 (by decide) ?_
  refine c_iast (g1 := nG_59) hx hb hK hP (n_D h0 _) hS 16 (n := 21) rfl (j := 9) (by decide) (by unfold vp_in; decide) rfl dX12_init_333 (fun H locs hP hS => ?_)
  refine lv_dup hx hb dX12_init_334 rfl ?_
  refine lv_bipush (v := (10 : Int32)) hx hb dX12_init_335 (by decide) ?_
  refine lv_iconst (v := (0 : Int32)) hx hb dX12_init_337 (by decide) ?_
  refine c_iast (g1 := nG_60) hx hb hK hP (n_D h0 _) hS 16 (n := 21) rfl (j := 10) (by decide) (by unfold vp_in; decide) rfl dX12_init_338 (fun H locs hP hS => ?_)
  refine lv_dup hx hb dX12_init_339 rfl ?_
  refine lv_bipush (v := (11 : Int32)) hx hb dX12_init_340 (by decide) ?_
  refine lv_bipush (v := (40 : Int32)) hx hb dX12_init_342 (by decide) ?_
  refine c_iast (g1 := nG_61) hx hb hK hP (n_D h0 _) hS 16 (n := 21) rfl (j := 11) (by decide) (by unfold vp_in; decide) rfl dX12_init_344 (fun H locs hP hS => ?_)
  refine lv_dup hx hb dX12_init_345 rfl ?_
  refine lv_bipush (v := (12 : Int32)) hx hb dX12_init_346 (by decide) ?_
  refine lv_bipush (v := (50 : Int32)) hx hb dX12_init_348 (by decide) ?_
  refine c_iast (g1 := nG_62) hx hb hK hP (n_D h0 _) hS 16 (n := 21) rfl (j := 12) (by decide) (by unfold vp_in; decide) rfl dX12_init_350 (fun H locs hP hS => ?_)
  refine lv_dup hx hb dX12_init_351 rfl ?_
  refine lv_bipush (v := (13 : Int32)) hx hb dX12_init_352 (by decide) ?_
  refine lv_bipush (v := (51 : Int32)) hx hb dX12_init_354 (by decide) ?_
  refine c_iast (g1 := nG_63) hx hb hK hP (n_D h0 _) hS 16 (n := 21) rfl (j := 13) (by decide) (by unfold vp_in; decide) rfl dX12_init_356 (fun H locs hP hS => ?_)
  refine lv_dup hx hb dX12_init_357 rfl ?_
  refine lv_bipush (v := (14 : Int32)) hx hb dX12_init_358 (by decide) ?_
  refine lv_iconst (v := (0 : Int32)) hx hb dX12_init_360 (by decide) ?_
  refine c_iast (g1 := nG_64) hx hb hK hP (n_D h0 _) hS 16 (n := 21) rfl (j := 14) (by decide) (by unfold vp_in; decide) rfl dX12_init_361 (fun H locs hP hS => ?_)
  refine lv_dup hx hb dX12_init_362 rfl ?_
  refine lv_bipush (v := (15 : Int32)) hx hb dX12_init_363 (by decide) ?_
  refine lv_iconst (v := (0 : Int32)) hx hb dX12_init_365 (by decide) ?_
  refine c_iast (g1 := nG_65) hx hb hK hP (n_D h0 _) hS 16 (n := 21) rfl (j := 15) (by decide) (by unfold vp_in; decide) rfl dX12_init_366 (fun H locs hP hS => ?_)
  refine lv_dup hx hb dX12_init_367 rfl ?_
  refine lv_bipush (v := (16 : Int32)) hx hb dX12_init_368 (by decide) ?_
  refine lv_iconst (v := (0 : Int32)) hx hb dX12_init_370 (by decide) ?_
  refine c_iast (g1 := nG_66) hx hb hK hP (n_D h0 _) hS 16 (n := 21) rfl (j := 16) (by decide) (by unfold vp_in; decide) rfl dX12_init_371 (fun H locs hP hS => ?_)
  refine lv_dup hx hb dX12_init_372 rfl ?_
  refine lv_bipush (v := (17 : Int32)) hx hb dX12_init_373 (by decide) ?_
  refine lv_bipush (v := (60 : Int32)) hx hb dX12_init_375 (by decide) ?_
  refine c_iast (g1 := nG_67) hx hb hK hP (n_D h0 _) hS 16 (n := 21) rfl (j := 17) (by decide) (by unfold vp_in; decide) rfl dX12_init_377 (fun H locs hP hS => ?_)
  refine lv_dup hx hb dX12_init_378 rfl ?_
  refine lv_bipush (v := (18 : Int32)) hx hb dX12_init_379 (by decide) ?_
  refine lv_bipush (v := (71 : Int32)) hx hb dX12_init_381 (by decide) ?_
  refine c_iast (g1 := nG_68) hx hb hK hP (n_D h0 _) hS 16 (n := 21) rfl (j := 18) (by decide) (by unfold vp_in; decide) rfl dX12_init_383 (fun H locs hP hS => ?_)
  refine lv_dup hx hb dX12_init_384 rfl ?_
  refine lv_bipush (v := (19 : Int32)) hx hb dX12_init_385 (by decide) ?_
  refine lv_bipush (v := (70 : Int32)) hx hb dX12_init_387 (by decide) ?_
  refine c_iast (g1 := nG_69) hx hb hK hP (n_D h0 _) hS 16 (n := 21) rfl (j := 19) (by decide) (by unfold vp_in; decide) rfl dX12_init_389 (fun H locs hP hS => ?_)
  refine lv_dup hx hb dX12_init_390 rfl ?_
  refine lv_bipush (v := (20 : Int32)) hx hb dX12_init_391 (by decide) ?_
  refine lv_iconst (v := (0 : Int32)) hx hb dX12_init_393 (by decide) ?_
  refine c_iast (g1 := nG_70) hx hb hK hP (n_D h0 _) hS 16 (n := 21) rfl (j := 20) (by decide) (by unfold vp_in; decide) rfl dX12_init_394 (fun H locs hP hS => ?_)
  refine n_putF (T' := nM_32) (fl := [4, 5, 6, 0, 7, 0, 8, 9, 0, 10, 0, 0, 0, 0, 0, 0, 11, 12, 13, 14, 15, 16, 17, 0, 18, 2, 2, 0, 2, 2, 2, 2]) hx hb hts i_X12_init_X12 tyX12 tyX12_ok nmX12 hown hK hP hS 0 rfl rfl 25 (by decide) (hts _ (List.mem_of_getElem? (i := 21) rfl)) (fun _ h9 => h9) rfl hin rfl (ty := (.array .int)) (by decide +kernel) rfl rfl (Nat.le_of_ble_eq_true rfl) (19) rfl (by decide +kernel) dX12_init_395 (fun H locs hP hS => ?_)
  refine n_hz hP (by decide) (by rw [hsz, show nM_0.length = 1 from by decide +kernel, show nM_32.length = 17 from by decide +kernel]) (fun hz => ?_)
  refine lv_aload_n hx hb dX12_init_398 rfl (lv_at hl 0 rfl) ?_
  refine lv_bipush (v := (20 : Int32)) hx hb dX12_init_399 (by decide) ?_
  refine n_newI hx hb (hts _ (List.mem_of_getElem? (i := 5) rfl)) hK hP hz hS (by rw [show nM_32.length = 17 from by decide +kernel]; exact (nZ_70 17 (by decide)).1) 20 (by decide) (by decide) (by decide) (Nat.le_of_ble_eq_true rfl) (Nat.le_of_ble_eq_true rfl) dX12_init_401 (fun H hP hz hS => ?_)
  rw [show nM_32 ++ [((1, 20, []) : c_T)] = nM_33 from by decide +kernel] at hP hz
  rw [show nM_32.length = 17 from by decide +kernel]
  refine n_putF (T' := nM_34) (fl := [4, 5, 6, 0, 7, 0, 8, 9, 0, 10, 0, 0, 0, 0, 0, 0, 11, 12, 13, 14, 15, 16, 17, 0, 18, 19, 2, 0, 2, 2, 2, 2]) hx hb hts i_X12_init_X12 tyX12 tyX12_ok nmX12 hown hK hP hS 0 rfl rfl 26 (by decide) (hts _ (List.mem_of_getElem? (i := 22) rfl)) (fun _ h9 => h9) rfl hin rfl (ty := (.array .int)) (by decide +kernel) rfl rfl (Nat.le_of_ble_eq_true rfl) (20) rfl (by decide +kernel) dX12_init_403 (fun H locs hP hS => ?_)
  refine n_hz hP (by decide) (by rw [hsz, show nM_0.length = 1 from by decide +kernel, show nM_34.length = 18 from by decide +kernel]) (fun hz => ?_)
  refine lv_aload_n hx hb dX12_init_406 rfl (lv_at hl 0 rfl) ?_
  refine lv_bipush (v := (6 : Int32)) hx hb dX12_init_407 (by decide) ?_
  refine n_newI hx hb (hts _ (List.mem_of_getElem? (i := 5) rfl)) hK hP hz hS (by rw [show nM_34.length = 18 from by decide +kernel]; exact (nZ_70 18 (by decide)).1) 6 (by decide) (by decide) (by decide) (Nat.le_of_ble_eq_true rfl) (Nat.le_of_ble_eq_true rfl) dX12_init_409 (fun H hP hz hS => ?_)
  rw [show nM_34 ++ [((1, 6, []) : c_T)] = nM_35 from by decide +kernel] at hP hz
  rw [show nM_34.length = 18 from by decide +kernel]
  refine lv_dup hx hb dX12_init_411 rfl ?_
  refine lv_iconst (v := (0 : Int32)) hx hb dX12_init_412 (by decide) ?_
  refine lv_iconst (v := (-1 : Int32)) hx hb dX12_init_413 (by decide) ?_
  refine c_iast (g1 := nG_71) hx hb hK hP (n_D h0 _) hS 18 (n := 6) rfl (j := 0) (by decide) (by unfold vp_in; decide) rfl dX12_init_414 (fun H locs hP hS => ?_)
  refine lv_dup hx hb dX12_init_415 rfl ?_
  refine lv_iconst (v := (1 : Int32)) hx hb dX12_init_416 (by decide) ?_
  refine lv_iconst (v := (-1 : Int32)) hx hb dX12_init_417 (by decide) ?_
  refine c_iast (g1 := nG_72) hx hb hK hP (n_D h0 _) hS 18 (n := 6) rfl (j := 1) (by decide) (by unfold vp_in; decide) rfl dX12_init_418 (fun H locs hP hS => ?_)
  refine lv_dup hx hb dX12_init_419 rfl ?_
  refine lv_iconst (v := (2 : Int32)) hx hb dX12_init_420 (by decide) ?_
  refine lv_iconst (v := (-1 : Int32)) hx hb dX12_init_421 (by decide) ?_
  refine c_iast (g1 := nG_73) hx hb hK hP (n_D h0 _) hS 18 (n := 6) rfl (j := 2) (by decide) (by unfold vp_in; decide) rfl dX12_init_422 (fun H locs hP hS => ?_)
  refine lv_dup hx hb dX12_init_423 rfl ?_
  refine lv_iconst (v := (3 : Int32)) hx hb dX12_init_424 (by decide) ?_
  refine lv_iconst (v := (-1 : Int32)) hx hb dX12_init_425 (by decide) ?_
  refine c_iast (g1 := nG_74) hx hb hK hP (n_D h0 _) hS 18 (n := 6) rfl (j := 3) (by decide) (by unfold vp_in; decide) rfl dX12_init_426 (fun H locs hP hS => ?_)
  refine lv_dup hx hb dX12_init_427 rfl ?_
  refine lv_iconst (v := (4 : Int32)) hx hb dX12_init_428 (by decide) ?_
  refine lv_iconst (v := (-1 : Int32)) hx hb dX12_init_429 (by decide) ?_
  refine c_iast (g1 := nG_75) hx hb hK hP (n_D h0 _) hS 18 (n := 6) rfl (j := 4) (by decide) (by unfold vp_in; decide) rfl dX12_init_430 (fun H locs hP hS => ?_)
  refine lv_dup hx hb dX12_init_431 rfl ?_
  refine lv_iconst (v := (5 : Int32)) hx hb dX12_init_432 (by decide) ?_
  refine lv_iconst (v := (-1 : Int32)) hx hb dX12_init_433 (by decide) ?_
  refine c_iast (g1 := nG_76) hx hb hK hP (n_D h0 _) hS 18 (n := 6) rfl (j := 5) (by decide) (by unfold vp_in; decide) rfl dX12_init_434 (fun H locs hP hS => ?_)
  refine n_putF (T' := nM_36) (fl := [4, 5, 6, 0, 7, 0, 8, 9, 0, 10, 0, 0, 0, 0, 0, 0, 11, 12, 13, 14, 15, 16, 17, 0, 18, 19, 20, 0, 2, 2, 2, 2]) hx hb hts i_X12_init_X12 tyX12 tyX12_ok nmX12 hown hK hP hS 0 rfl rfl 28 (by decide) (hts _ (List.mem_of_getElem? (i := 23) rfl)) (fun _ h9 => h9) rfl hin rfl (ty := (.array .int)) (by decide +kernel) rfl rfl (Nat.le_of_ble_eq_true rfl) (21) rfl (by decide +kernel) dX12_init_435 (fun H locs hP hS => ?_)
  refine n_hz hP (by decide) (by rw [hsz, show nM_0.length = 1 from by decide +kernel, show nM_36.length = 19 from by decide +kernel]) (fun hz => ?_)
  refine lv_aload_n hx hb dX12_init_438 rfl (lv_at hl 0 rfl) ?_
  refine lv_bipush (v := (6 : Int32)) hx hb dX12_init_439 (by decide) ?_
  refine n_newI hx hb (hts _ (List.mem_of_getElem? (i := 5) rfl)) hK hP hz hS (by rw [show nM_36.length = 19 from by decide +kernel]; exact (nZ_76 19 (by decide)).1) 6 (by decide) (by decide) (by decide) (Nat.le_of_ble_eq_true rfl) (Nat.le_of_ble_eq_true rfl) dX12_init_441 (fun H hP hz hS => ?_)
  rw [show nM_36 ++ [((1, 6, []) : c_T)] = nM_37 from by decide +kernel] at hP hz
  rw [show nM_36.length = 19 from by decide +kernel]
  refine n_putF (T' := nM_38) (fl := [4, 5, 6, 0, 7, 0, 8, 9, 0, 10, 0, 0, 0, 0, 0, 0, 11, 12, 13, 14, 15, 16, 17, 0, 18, 19, 20, 0, 21, 2, 2, 2]) hx hb hts i_X12_init_X12 tyX12 tyX12_ok nmX12 hown hK hP hS 0 rfl rfl 29 (by decide) (hts _ (List.mem_of_getElem? (i := 24) rfl)) (fun _ h9 => h9) rfl hin rfl (ty := (.array .int)) (by decide +kernel) rfl rfl (Nat.le_of_ble_eq_true rfl) (22) rfl (by decide +kernel) dX12_init_443 (fun H locs hP hS => ?_)
  refine n_hz hP (by decide) (by rw [hsz, show nM_0.length = 1 from by decide +kernel, show nM_38.length = 20 from by decide +kernel]) (fun hz => ?_)
  refine lv_aload_n hx hb dX12_init_446 rfl (lv_at hl 0 rfl) ?_
  refine lv_sipush (v := (360 : Int32)) hx hb dX12_init_447 (by decide) ?_
  refine n_newL hx hb (hts _ (List.mem_of_getElem? (i := 25) rfl)) hK hP hz hS (by rw [show nM_38.length = 20 from by decide +kernel]; exact (nZ_76 20 (by decide)).2) 360 (by decide) (by decide) (by decide) (Nat.le_of_ble_eq_true rfl) (Nat.le_of_ble_eq_true rfl) dX12_init_450 (fun H hP hz hS => ?_)
  rw [show nM_38 ++ [((2, 360, []) : c_T)] = nM_39 from by decide +kernel] at hP hz
  rw [show nM_38.length = 20 from by decide +kernel]
  refine n_putF (T' := nM_40) (fl := [4, 5, 6, 0, 7, 0, 8, 9, 0, 10, 0, 0, 0, 0, 0, 0, 11, 12, 13, 14, 15, 16, 17, 0, 18, 19, 20, 0, 21, 22, 2, 2]) hx hb hts i_X12_init_X12 tyX12 tyX12_ok nmX12 hown hK hP hS 0 rfl rfl 30 (by decide) (hts _ (List.mem_of_getElem? (i := 26) rfl)) (fun _ h9 => h9) rfl hin rfl (ty := (.array .long)) (by decide +kernel) rfl rfl (Nat.le_of_ble_eq_true rfl) (23) rfl (by decide +kernel) dX12_init_452 (fun H locs hP hS => ?_)
  refine n_hz hP (by decide) (by rw [hsz, show nM_0.length = 1 from by decide +kernel, show nM_40.length = 21 from by decide +kernel]) (fun hz => ?_)
  refine lv_aload_n hx hb dX12_init_455 rfl (lv_at hl 0 rfl) ?_
  refine lv_bipush (v := (60 : Int32)) hx hb dX12_init_456 (by decide) ?_
  refine n_newL hx hb (hts _ (List.mem_of_getElem? (i := 25) rfl)) hK hP hz hS (by rw [show nM_40.length = 21 from by decide +kernel]; exact (nZ_76 21 (by decide)).2) 60 (by decide) (by decide) (by decide) (Nat.le_of_ble_eq_true rfl) (Nat.le_of_ble_eq_true rfl) dX12_init_458 (fun H hP hz hS => ?_)
  rw [show nM_40 ++ [((2, 60, []) : c_T)] = nM_41 from by decide +kernel] at hP hz
  rw [show nM_40.length = 21 from by decide +kernel]
  refine n_putF (T' := nM_42) (fl := [4, 5, 6, 0, 7, 0, 8, 9, 0, 10, 0, 0, 0, 0, 0, 0, 11, 12, 13, 14, 15, 16, 17, 0, 18, 19, 20, 0, 21, 22, 23, 2]) hx hb hts i_X12_init_X12 tyX12 tyX12_ok nmX12 hown hK hP hS 0 rfl rfl 31 (by decide) (hts _ (List.mem_of_getElem? (i := 27) rfl)) (fun _ h9 => h9) rfl hin rfl (ty := (.array .long)) (by decide +kernel) rfl rfl (Nat.le_of_ble_eq_true rfl) (24) rfl (by decide +kernel) dX12_init_460 (fun H locs hP hS => ?_)
  refine n_hz hP (by decide) (by rw [hsz, show nM_0.length = 1 from by decide +kernel, show nM_42.length = 22 from by decide +kernel]) (fun hz => ?_)
  exact n_vret hx hb hr hlk hP hz hS rfl rfl dX12_init_463
