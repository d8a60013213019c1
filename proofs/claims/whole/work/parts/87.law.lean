/-! THE LAW: two worlds side by side in one heap; a call on each, the same answer -/
def l_A1 (h0 : Nat) : Nat → Prop := fun q => h0 ≤ q ∧ q < h0 + 131
def l_A2 (h0 : Nat) : Nat → Prop := fun q => h0 + 131 ≤ q
theorem l_lC : TC.length = 131 := by decide +kernel
theorem l_lM : TM.length = 22 := by decide +kernel
theorem l_D1 (h0 : Nat) : c_D (l_A1 h0) (n_aC h0) TC := by
  refine ⟨fun i j _ _ e => ?_, fun i hi => ?_⟩
  · unfold n_aC at e
    exact n_rn_inj (by omega)
  · rw [l_lC] at hi
    have h := n_rn_lt hi
    unfold l_A1 n_aC
    omega
theorem l_D2 (h0 : Nat) : c_D (l_A2 h0) (n_ad (h0 + 131)) TM := by
  refine ⟨fun i j _ _ e => ?_, fun i hi => ?_⟩
  · unfold n_ad at e
    omega
  · unfold l_A2 n_ad
    omega
theorem l_s1 {h0 : Nat} : ∀ q, l_A1 h0 q → n_A h0 q := fun q h => h.1
theorem l_s2 {h0 : Nat} : ∀ q, l_A2 h0 q → n_A h0 q := fun q h => by
  unfold l_A2 at h
  unfold n_A
  omega
theorem l_n1 {tc : Nat → ClassId} {h0 : Nat} {g : c_G} : ∀ (k : Nat) (q : Nat × va_E), (c_ws tc (n_ad (h0 + 131)) TM g)[k]? = some q → ¬ l_A1 h0 q.1 := by
  intro k q hq h
  rw [(c_ws_in hq).2] at h
  have h2 : h0 + 131 + k < h0 + 131 := h.2
  omega
theorem l_n2 {tc : Nat → ClassId} {h0 : Nat} {g : c_G} : ∀ (k : Nat) (q : Nat × va_E), (c_ws tc (n_aC h0) TC g)[k]? = some q → ¬ l_A2 h0 q.1 := by
  intro k q hq h
  rw [(c_ws_in hq).2] at h
  have h1 := (c_ws_in hq).1
  rw [l_lC] at h1
  have h3 := n_rn_lt h1
  have h2 : h0 + 131 ≤ h0 + n_rn k := h
  omega
theorem c_E.narrow {A B : Nat → Prop} {E : (Nat → Nat) × (Nat → Nat) × Nat} {U : State} {H : Heap} (h : c_E A E U H) (hAB : ∀ q, B q → A q) : c_E B E U H :=
  ⟨⟨h.1.1.narrow hAB, h.1.2.1.narrow hAB, h.1.2.2.1.narrow hAB, h.1.2.2.2.1.narrow hAB, h.1.2.2.2.2.narrow hAB⟩, h.2⟩
def wsEA : List Cond := [.methodLink RX3 19 ⟨"NamingElders$Baby", "looks", "(LNamingElders$Acts;I)I"⟩, .methodLink RX8 23 ⟨"NamingElders$Shy", "looks", "(LNamingElders$Acts;I)I"⟩, .methodLink RX8 19 ⟨"NamingElders$Shy", "points", "(LNamingElders$Acts;I)I"⟩, .methodLink RX4 21 ⟨"NamingElders$Twin", "tells", "(LNamingElders$Acts;I)I"⟩, .sameMethod "NamingElders$Baby" "NamingElders$Child" "looks" "(LNamingElders$Acts;I)I", .sameMethod "NamingElders$Shy" "NamingElders$Child" "looks" "(LNamingElders$Acts;I)I", .sameMethod "NamingElders$Shy" "NamingElders$Child" "points" "(LNamingElders$Acts;I)I", .sameMethod "NamingElders$Twin" "NamingElders$Child" "tells" "(LNamingElders$Acts;I)I", .sameMethod "NamingElders$Child" "NamingElders$Child" "looks" "(LNamingElders$Acts;I)I", .sameMethod "NamingElders$Child" "NamingElders$Child" "points" "(LNamingElders$Acts;I)I", .sameMethod "NamingElders$Child" "NamingElders$Child" "tells" "(LNamingElders$Acts;I)I", .sameMethod "NamingElders$Baby" "NamingElders$Baby" "points" "(LNamingElders$Acts;I)I", .superclass RX3 RX1, .superclass RX8 RX6, .superclass RX4 RX9, .superclass RX1 RX2, .superclass RX6 RX2, .superclass RX9 RX2, .methodLink RX9 13 yX2_looks, .methodLink RX1 15 yX2_points, .methodLink RX3 23 yX1_points, .methodLink RX6 15 yX2_tells]
def wsEO : List Cond := [Cond.arrayOver (.object RX10), Cond.arrayOver (.object RX2), Cond.arrayOver (.array .long)]
theorem wsEA_in : ∀ w ∈ wsEA, w ∈ lw_tbl := c_inP [822, 835, 858, 874, 823, 836, 859, 875, 813, 843, 867, 1359, 160, 174, 167, 139, 153, 146, 829, 848, 852, 881] (by decide +kernel)
theorem wsEO_in : ∀ w ∈ wsEO, w ∈ lw_tbl := c_inP [94, 125, 123] (by decide +kernel)
theorem gLL_act : GoodIn lw_tbl (wsV RL 131 RX11 yX11_act wsA_X11_act) := by
  refine goodIn_sub (fun w h => ?_) (by decide +kernel)
  rcases List.mem_append.mp h with h | h
  · exact (gL_law_X11_act w (List.mem_append_left _ h)).1
  · rcases List.mem_cons.mp h with h | h
    · exact (gL_law_X11_act w (List.mem_append_right _ (by rw [h]; exact List.mem_cons_self))).1
    · rcases List.mem_append.mp h with h | h
      · exact (gL_law_X11_act w (List.mem_append_right _ h)).1
      · exact wsEA_in w h
def l_lv (b h0 n : Nat) : List (Nat × Value) := [(3, .int (nI n)), (2, .ref (n_ad (h0 + 131) 0)), (1, .ref (n_aC h0 0)), (0, .ref b)]
section LR
variable {p : Program} {l : Launch} {e : Env} {R : Room} {s : State} {m : MethodId} {args : Array Value} {below : List Frame} {meth : Method} {c : Code} {H : Heap} {locs : List Loc} {cells slots : Nat} {Q : State → Prop}
variable {cc : ByteArray} {pc : Nat} {ls : Array Slot} {rest st0 As : List Value} {D : va_G} {A A1 : Nat → Prop} {tc : Nat → ClassId} {ad : Nat → Nat} {T : List c_T} {g g' : c_G} {E : (Nat → Nat) × (Nat → Nat) × Nat} {a : Array Value} {w2 : va_W} {h0 b L n : Nat} {xs : Nat → Int32}
theorem l_preV {h ci N : Nat} {fl : List Nat} {C : String} {TT : u_T} (hK : va_K D vwCl (c_tys tc) s) (hP : va_P D vwCl (c_ws tc ad T g) H) (hE : c_E A E s s.heap) (hS : va_S A s.heap H locs) (hA : ∀ q, A1 q → A q) (ht : T[h]? = some (0, ci, fl)) (hc : vwCl[ci]? = some (C, TT, N)) : PreV s H C (ad h) (va_Pc (.ref (ad h) :: As) (c_Pr D tc ad A1 E T g)) As :=
  ⟨fun a U gg mk q => ⟨q.1, q.2.1, va_K.moved (u := U) (U := U.calling gg mk a) (Vm.Alike.refl U.vm) q.2.2.1, c_E.same (u := U) (U := U.calling gg mk a) rfl q.2.2.2⟩, va_recv hK hP hc (c_ws_at h ht), fun U hU hW => ⟨rfl, by rw [hU]; exact hP, va_K.moved hW.alike hK, by rw [hU]; exact ((hE.kept hS.2.1).narrow hA).warm hW⟩⟩
theorem l_goi {r : Int32} (hr : va_Run p l e R s m args below meth c H locs cells slots 0 0 (F0 m pc ls st0) rest (va_Qi (fun (x : Int32) (_ : Unit) => x = r) (fun _ t => va_P D vwCl (c_ws tc ad T g') t.heap) A1 a) A1) (hS : va_S A s.heap H locs) (hA : ∀ q, A1 q → A q) (hP2 : va_P D vwCl w2 H) (h2 : ∀ (k : Nat) (q : Nat × va_E), w2[k]? = some q → ¬ A1 q.1)
    (kk : ∀ (H1 : Heap) (locs1 : List Loc), va_P D vwCl (c_ws tc ad T g') H1 → va_P D vwCl w2 H1 → va_S A s.heap H1 locs1 → W p l e R s m args below meth c H1 locs1 cells slots Q (F0 m (pc + 3) ls (.int r :: rest))) : W p l e R s m args below meth c H locs cells slots Q (F0 m pc ls st0) :=
  va_calli hr hS (fun q _ h => hA q h) (fun q h => hA q h) (fun x u t H1 locs1 ht _ hx hB _ hk hS1 => by
    subst hx
    rw [ht] at hB
    exact kk H1 locs1 hB (hP2.kept fun k q hq => hk q.1 (hP2 k q hq).lt (h2 k q hq)) hS1)
theorem l_gol {r : Int64} (hr : va_Run p l e R s m args below meth c H locs cells slots 0 0 (F0 m pc ls st0) rest (va_Ql (fun (x : Int64) (_ : Unit) => x = r) (fun _ t => va_P D vwCl (c_ws tc ad T g') t.heap) A1 a) A1) (hS : va_S A s.heap H locs) (hA : ∀ q, A1 q → A q) (hP2 : va_P D vwCl w2 H) (h2 : ∀ (k : Nat) (q : Nat × va_E), w2[k]? = some q → ¬ A1 q.1)
    (kk : ∀ (H1 : Heap) (locs1 : List Loc), va_P D vwCl (c_ws tc ad T g') H1 → va_P D vwCl w2 H1 → va_S A s.heap H1 locs1 → W p l e R s m args below meth c H1 locs1 cells slots Q (F0 m (pc + 3) ls (.long r :: rest))) : W p l e R s m args below meth c H locs cells slots Q (F0 m pc ls st0) :=
  va_calll hr hS (fun q _ h => hA q h) (fun q h => hA q h) (fun x u t H1 locs1 ht _ hx hB _ hk hS1 => by
    subst hx
    rw [ht] at hB
    exact kk H1 locs1 hB (hP2.kept fun k q hq => hk q.1 (hP2 k q hq).lt (h2 k q hq)) hS1)
/-- one number of the script -/
theorem l_rd (hexec : p.tables.exec = Jvm.exec) (hb : c.code = cc) (hX : va_X b L xs s s.heap) (hbl : b < s.heap.size) (hbA : ¬ A b) (hS : va_S A s.heap H locs) (hn : n + 6 ≤ L) (hL : L ≤ 3072) (j : Nat) (hj : j < 6) (hl : lv_has ls 4 (l_lv b h0 n)) {jj : Int} (hjj : Int32.ofInt jj = nI j)
    (d1 : decode cc pc = .ok (.aload_n 0, 1)) (d2 : decode cc (pc + 1) = .ok (.iload_n 3, 1)) (d3 : decode cc (pc + 1 + 1) = .ok (.iconst jj, 1)) (d4 : decode cc (pc + 1 + 1 + 1) = .ok (.iadd, 1)) (d5 : decode cc (pc + 1 + 1 + 1 + 1) = .ok (.iaload, 1))
    (kk : W p l e R s m args below meth c H locs cells slots Q (F0 m (pc + 1 + 1 + 1 + 1 + 1) ls (.int (xs (n + j)) :: rest))) : W p l e R s m args below meth c H locs cells slots Q (F0 m pc ls rest) := by
  refine lv_aload_n hexec hb d1 rfl (lv_at hl 3 rfl) ?_
  refine lv_iload_n hexec hb d2 rfl (lv_at hl 0 rfl) ?_
  refine lv_iconst (v := nI j) hexec hb d3 hjj ?_
  refine lv_iadd hexec hb d4 ?_
  refine c_topi (y := nI (n + j)) (nI_add n j).symm ?_
  refine va_sld hexec hb hX hbl hbA hS (nI_in (by omega) (by omega)) d5 ?_
  rw [nI_clamp (by omega)]
  exact kk
def l_C (p : Program) (s : State) (m : MethodId) (c : Code) (D : va_G) (tc : Nat → ClassId) (h0 : Nat) (E : (Nat → Nat) × (Nat → Nat) × Nat) (b L : Nat) (xs : Nat → Int32) : Prop :=
  p.tables.exec = Jvm.exec ∧ c.code = cL_law ∧ c.maxLocals = 4 ∧ s.vm.findClass RL = some m.cls ∧ (∀ w ∈ lw_tbl, w.before #[Value.ref b] s = true) ∧ va_K D vwCl (c_tys tc) s ∧ c_E (n_A h0) E s s.heap ∧ va_X b L xs s s.heap ∧ b < s.heap.size ∧ s.heap.size = h0 ∧ L ≤ 3072
def l_I (s : State) (D : va_G) (tc : Nat → ClassId) (h0 b n : Nat) (gC gM : c_G) (H : Heap) (locs : List Loc) (ls : Array Slot) : Prop :=
  va_P D vwCl (c_ws tc (n_aC h0) TC gC) H ∧ va_P D vwCl (c_ws tc (n_ad (h0 + 131)) TM gM) H ∧ va_S (n_A h0) s.heap H locs ∧ lv_has ls 4 (l_lv b h0 n) ∧ p_R gC gM
/-- the loop goes on -/
def l_K (p : Program) (l : Launch) (e : Env) (s : State) (m : MethodId) (below : List Frame) (meth : Method) (c : Code) (D : va_G) (tc : Nat → ClassId) (h0 b cells slots : Nat) (Q : State → Prop) (n : Nat) : Prop :=
  ∀ (gC gM : c_G) (H : Heap) (locs : List Loc) (ls : Array Slot), l_I s D tc h0 b (n + 6) gC gM H locs ls → W p l e room_1 s m #[Value.ref b] below meth c H locs cells slots Q (F0 m 18 ls [])
theorem l_next {gC gM : c_G} (C0 : l_C p s m c D tc h0 E b L xs) (hPC : va_P D vwCl (c_ws tc (n_aC h0) TC gC) H) (hPM : va_P D vwCl (c_ws tc (n_ad (h0 + 131)) TM gM) H) (hS : va_S (n_A h0) s.heap H locs) (hl : lv_has ls 4 (l_lv b h0 n)) (hR : p_R gC gM) (kk : l_K p l e s m below meth c D tc h0 b cells slots Q n) : W p l e room_1 s m #[Value.ref b] below meth c H locs cells slots Q (F0 m 1383 ls []) := by
  obtain ⟨hx, hb, -⟩ := C0
  refine lv_iinc (v := nI (n + 6)) (lv' := l_lv b h0 (n + 6)) hx hb dL_law_1383 hl (k := 0) rfl (by rw [show Int32.ofInt 6 = nI 6 from by decide]; exact nI_add n 6) (by decide) rfl (fun ls hl => ?_)
  refine lv_goto (tgt := 18) hx hb dL_law_1386 (by decide) ?_
  exact kk gC gM H locs ls ⟨hPC, hPM, hS, hl, hR⟩
end LR
