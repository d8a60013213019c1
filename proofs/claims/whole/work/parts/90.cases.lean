set_option maxRecDepth 100000 in
set_option maxHeartbeats 4000000 in
theorem lc_24 {p : Program} {l : Launch} {e : Env} {s : State} {m : MethodId} {below : List Frame} {meth : Method} {c : Code} {H : Heap} {locs : List Loc} {cells slots : Nat} {Q : State → Prop} {ls : Array Slot} {D : va_G} {tc : Nat → ClassId} {E : (Nat → Nat) × (Nat → Nat) × Nat} {h0 b L n : Nat} {xs : Nat → Int32} {gC gM : c_G} (C0 : l_C p s m c D tc h0 E b L xs) (hn : n + 6 ≤ L) (hcr : cells ≤ room_1.cells) (hsr : slots ≤ room_1.slots) (I0 : l_I s D tc h0 b n gC gM H locs ls) (kk : l_K p l e s m below meth c D tc h0 b cells slots Q n) : W p l e room_1 s m #[Value.ref b] below meth c H locs cells slots Q (F0 m 976 ls []) := by
  obtain ⟨hx, hb, hml, hown, hts, hK, hE, hX, hbl, hh, hL⟩ := id C0
  obtain ⟨hPC, hPM, hS, hl, hR⟩ := I0
  obtain ⟨r, f1, f2⟩ := e_looked hR 
  have hR2 := hR
  have hbA : ¬ n_A h0 b := by unfold n_A; omega
  refine lv_aload_n hx hb dL_law_976 rfl (lv_at hl 2 rfl) ?_
  refine l_goi (va_runV (As := []) (rest := []) ⟨hx, hb, hml, hown, hts⟩ (kX11_looked (l_D1 h0) f1) (cwV 0 hts gL_law_X11_looked rfl rfl rfl (by decide +kernel) ⟨Nat.le_of_ble_eq_true rfl, Nat.le_of_ble_eq_true rfl⟩) (l_preV hK hPC hE hS l_s1 tC0 rfl) rfl rfl hl.1 rfl (lv_room (Nat.le_of_ble_eq_true rfl)) dL_law_977 ⟨hcr, hsr⟩) hS l_s1 hPM l_n1 (fun H locs hPC hPM hS => ?_)
  refine lv_aload_n hx hb dL_law_980 rfl (lv_at hl 1 rfl) ?_
  refine l_goi (va_runV (As := []) (rest := [.int r]) ⟨hx, hb, hml, hown, hts⟩ (kX12_looked (l_D2 h0) f2) (cwV 0 hts gL_law_X12_looked rfl rfl rfl (by decide +kernel) ⟨Nat.le_of_ble_eq_true rfl, Nat.le_of_ble_eq_true rfl⟩) (l_preV hK hPM hE hS l_s2 tM0 rfl) rfl rfl hl.1 rfl (lv_room (Nat.le_of_ble_eq_true rfl)) dL_law_981 ⟨hcr, hsr⟩) hS l_s2 hPC l_n2 (fun H locs hPM hPC hS => ?_)
  refine lv_icmp_eq (tgt := 1383) hx hb dL_law_984 (by decide) (fun _ => ?_) (fun c9 => absurd rfl c9)
  exact l_next C0 hPC hPM hS hl hR2 kk
set_option maxRecDepth 100000 in
set_option maxHeartbeats 4000000 in
theorem lc_25 {p : Program} {l : Launch} {e : Env} {s : State} {m : MethodId} {below : List Frame} {meth : Method} {c : Code} {H : Heap} {locs : List Loc} {cells slots : Nat} {Q : State → Prop} {ls : Array Slot} {D : va_G} {tc : Nat → ClassId} {E : (Nat → Nat) × (Nat → Nat) × Nat} {h0 b L n : Nat} {xs : Nat → Int32} {gC gM : c_G} (C0 : l_C p s m c D tc h0 E b L xs) (hn : n + 6 ≤ L) (hcr : cells ≤ room_1.cells) (hsr : slots ≤ room_1.slots) (I0 : l_I s D tc h0 b n gC gM H locs ls) (kk : l_K p l e s m below meth c D tc h0 b cells slots Q n) : W p l e room_1 s m #[Value.ref b] below meth c H locs cells slots Q (F0 m 989 ls []) := by
  obtain ⟨hx, hb, hml, hown, hts, hK, hE, hX, hbl, hh, hL⟩ := id C0
  obtain ⟨hPC, hPM, hS, hl, hR⟩ := I0
  obtain ⟨r, f1, f2⟩ := e_judge hR (xs (n + 1)) (xs (n + 2))
  have hR2 := hR
  have hbA : ¬ n_A h0 b := by unfold n_A; omega
  refine lv_aload_n hx hb dL_law_989 rfl (lv_at hl 2 rfl) ?_
  refine l_rd hx hb hX hbl hbA hS hn hL 1 (by decide) hl (by decide) dL_law_990 dL_law_991 dL_law_992 dL_law_993 dL_law_994 ?_
  refine l_rd hx hb hX hbl hbA hS hn hL 2 (by decide) hl (by decide) dL_law_995 dL_law_996 dL_law_997 dL_law_998 dL_law_999 ?_
  refine l_goi (va_runV (As := [.int (xs (n + 1)), .int (xs (n + 2))]) (rest := []) ⟨hx, hb, hml, hown, hts⟩ (kX11_judge (l_D1 h0) f1) (cwV 2 hts gL_law_X11_judge rfl rfl rfl (by decide +kernel) ⟨Nat.le_of_ble_eq_true rfl, Nat.le_of_ble_eq_true rfl⟩) (l_preV hK hPC hE hS l_s1 tC0 rfl) rfl rfl hl.1 rfl (lv_room (Nat.le_of_ble_eq_true rfl)) dL_law_1000 ⟨hcr, hsr⟩) hS l_s1 hPM l_n1 (fun H locs hPC hPM hS => ?_)
  refine lv_aload_n hx hb dL_law_1003 rfl (lv_at hl 1 rfl) ?_
  refine l_rd hx hb hX hbl hbA hS hn hL 1 (by decide) hl (by decide) dL_law_1004 dL_law_1005 dL_law_1006 dL_law_1007 dL_law_1008 ?_
  refine l_rd hx hb hX hbl hbA hS hn hL 2 (by decide) hl (by decide) dL_law_1009 dL_law_1010 dL_law_1011 dL_law_1012 dL_law_1013 ?_
  refine l_goi (va_runV (As := [.int (xs (n + 1)), .int (xs (n + 2))]) (rest := [.int r]) ⟨hx, hb, hml, hown, hts⟩ (kX12_judge (l_D2 h0) f2) (cwV 2 hts gL_law_X12_judge rfl rfl rfl (by decide +kernel) ⟨Nat.le_of_ble_eq_true rfl, Nat.le_of_ble_eq_true rfl⟩) (l_preV hK hPM hE hS l_s2 tM0 rfl) rfl rfl hl.1 rfl (lv_room (Nat.le_of_ble_eq_true rfl)) dL_law_1014 ⟨hcr, hsr⟩) hS l_s2 hPC l_n2 (fun H locs hPM hPC hS => ?_)
  refine lv_icmp_eq (tgt := 1383) hx hb dL_law_1017 (by decide) (fun _ => ?_) (fun c9 => absurd rfl c9)
  exact l_next C0 hPC hPM hS hl hR2 kk
set_option maxRecDepth 100000 in
set_option maxHeartbeats 4000000 in
theorem lc_26 {p : Program} {l : Launch} {e : Env} {s : State} {m : MethodId} {below : List Frame} {meth : Method} {c : Code} {H : Heap} {locs : List Loc} {cells slots : Nat} {Q : State → Prop} {ls : Array Slot} {D : va_G} {tc : Nat → ClassId} {E : (Nat → Nat) × (Nat → Nat) × Nat} {h0 b L n : Nat} {xs : Nat → Int32} {gC gM : c_G} (C0 : l_C p s m c D tc h0 E b L xs) (hn : n + 6 ≤ L) (hcr : cells ≤ room_1.cells) (hsr : slots ≤ room_1.slots) (I0 : l_I s D tc h0 b n gC gM H locs ls) (kk : l_K p l e s m below meth c D tc h0 b cells slots Q n) : W p l e room_1 s m #[Value.ref b] below meth c H locs cells slots Q (F0 m 1022 ls []) := by
  obtain ⟨hx, hb, hml, hown, hts, hK, hE, hX, hbl, hh, hL⟩ := id C0
  obtain ⟨hPC, hPM, hS, hl, hR⟩ := I0
  obtain ⟨gC2, gM2, r, f1, f2, hR2⟩ := e_image hR 
  have hbA : ¬ n_A h0 b := by unfold n_A; omega
  refine lv_aload_n hx hb dL_law_1022 rfl (lv_at hl 2 rfl) ?_
  refine l_goi (va_runV (As := []) (rest := []) ⟨hx, hb, hml, hown, hts⟩ (kX11_image (l_D1 h0) f1) (cwV 0 hts gL_law_X11_image rfl rfl rfl (by decide +kernel) ⟨Nat.le_of_ble_eq_true rfl, Nat.le_of_ble_eq_true rfl⟩) (l_preV hK hPC hE hS l_s1 tC0 rfl) rfl rfl hl.1 rfl (lv_room (Nat.le_of_ble_eq_true rfl)) dL_law_1023 ⟨hcr, hsr⟩) hS l_s1 hPM l_n1 (fun H locs hPC hPM hS => ?_)
  refine lv_aload_n hx hb dL_law_1026 rfl (lv_at hl 1 rfl) ?_
  refine l_goi (va_runV (As := []) (rest := [.int r]) ⟨hx, hb, hml, hown, hts⟩ (kX12_image (l_D2 h0) f2) (cwV 0 hts gL_law_X12_image rfl rfl rfl (by decide +kernel) ⟨Nat.le_of_ble_eq_true rfl, Nat.le_of_ble_eq_true rfl⟩) (l_preV hK hPM hE hS l_s2 tM0 rfl) rfl rfl hl.1 rfl (lv_room (Nat.le_of_ble_eq_true rfl)) dL_law_1027 ⟨hcr, hsr⟩) hS l_s2 hPC l_n2 (fun H locs hPM hPC hS => ?_)
  refine lv_icmp_eq (tgt := 1383) hx hb dL_law_1030 (by decide) (fun _ => ?_) (fun c9 => absurd rfl c9)
  exact l_next C0 hPC hPM hS hl hR2 kk
set_option maxRecDepth 100000 in
set_option maxHeartbeats 4000000 in
theorem lc_27 {p : Program} {l : Launch} {e : Env} {s : State} {m : MethodId} {below : List Frame} {meth : Method} {c : Code} {H : Heap} {locs : List Loc} {cells slots : Nat} {Q : State → Prop} {ls : Array Slot} {D : va_G} {tc : Nat → ClassId} {E : (Nat → Nat) × (Nat → Nat) × Nat} {h0 b L n : Nat} {xs : Nat → Int32} {gC gM : c_G} (C0 : l_C p s m c D tc h0 E b L xs) (hn : n + 6 ≤ L) (hcr : cells ≤ room_1.cells) (hsr : slots ≤ room_1.slots) (I0 : l_I s D tc h0 b n gC gM H locs ls) (kk : l_K p l e s m below meth c D tc h0 b cells slots Q n) : W p l e room_1 s m #[Value.ref b] below meth c H locs cells slots Q (F0 m 1035 ls []) := by
  obtain ⟨hx, hb, hml, hown, hts, hK, hE, hX, hbl, hh, hL⟩ := id C0
  obtain ⟨hPC, hPM, hS, hl, hR⟩ := I0
  obtain ⟨gC2, gM2, r, f1, f2, hR2⟩ := e_undo hR 
  have hbA : ¬ n_A h0 b := by unfold n_A; omega
  refine lv_aload_n hx hb dL_law_1035 rfl (lv_at hl 2 rfl) ?_
  refine l_goi (va_runV (As := []) (rest := []) ⟨hx, hb, hml, hown, hts⟩ (kX11_undo (l_D1 h0) f1) (cwV 0 hts gL_law_X11_undo rfl rfl rfl (by decide +kernel) ⟨Nat.le_of_ble_eq_true rfl, Nat.le_of_ble_eq_true rfl⟩) (l_preV hK hPC hE hS l_s1 tC0 rfl) rfl rfl hl.1 rfl (lv_room (Nat.le_of_ble_eq_true rfl)) dL_law_1036 ⟨hcr, hsr⟩) hS l_s1 hPM l_n1 (fun H locs hPC hPM hS => ?_)
  refine lv_aload_n hx hb dL_law_1039 rfl (lv_at hl 1 rfl) ?_
  refine l_goi (va_runV (As := []) (rest := [.int r]) ⟨hx, hb, hml, hown, hts⟩ (kX12_undo (l_D2 h0) f2) (cwV 0 hts gL_law_X12_undo rfl rfl rfl (by decide +kernel) ⟨Nat.le_of_ble_eq_true rfl, Nat.le_of_ble_eq_true rfl⟩) (l_preV hK hPM hE hS l_s2 tM0 rfl) rfl rfl hl.1 rfl (lv_room (Nat.le_of_ble_eq_true rfl)) dL_law_1040 ⟨hcr, hsr⟩) hS l_s2 hPC l_n2 (fun H locs hPM hPC hS => ?_)
  refine lv_icmp_eq (tgt := 1383) hx hb dL_law_1043 (by decide) (fun _ => ?_) (fun c9 => absurd rfl c9)
  exact l_next C0 hPC hPM hS hl hR2 kk
set_option maxRecDepth 100000 in
set_option maxHeartbeats 4000000 in
theorem lc_28 {p : Program} {l : Launch} {e : Env} {s : State} {m : MethodId} {below : List Frame} {meth : Method} {c : Code} {H : Heap} {locs : List Loc} {cells slots : Nat} {Q : State → Prop} {ls : Array Slot} {D : va_G} {tc : Nat → ClassId} {E : (Nat → Nat) × (Nat → Nat) × Nat} {h0 b L n : Nat} {xs : Nat → Int32} {gC gM : c_G} (C0 : l_C p s m c D tc h0 E b L xs) (hn : n + 6 ≤ L) (hcr : cells ≤ room_1.cells) (hsr : slots ≤ room_1.slots) (I0 : l_I s D tc h0 b n gC gM H locs ls) (kk : l_K p l e s m below meth c D tc h0 b cells slots Q n) : W p l e room_1 s m #[Value.ref b] below meth c H locs cells slots Q (F0 m 1048 ls []) := by
  obtain ⟨hx, hb, hml, hown, hts, hK, hE, hX, hbl, hh, hL⟩ := id C0
  obtain ⟨hPC, hPM, hS, hl, hR⟩ := I0
  obtain ⟨gC2, gM2, r, f1, f2, hR2⟩ := e_act hR (xs (n + 1)) (xs (n + 2)) (xs (n + 3))
  have hbA : ¬ n_A h0 b := by unfold n_A; omega
  refine lv_aload_n hx hb dL_law_1048 rfl (lv_at hl 2 rfl) ?_
  refine l_rd hx hb hX hbl hbA hS hn hL 1 (by decide) hl (by decide) dL_law_1049 dL_law_1050 dL_law_1051 dL_law_1052 dL_law_1053 ?_
  refine l_rd hx hb hX hbl hbA hS hn hL 2 (by decide) hl (by decide) dL_law_1054 dL_law_1055 dL_law_1056 dL_law_1057 dL_law_1058 ?_
  refine l_rd hx hb hX hbl hbA hS hn hL 3 (by decide) hl (by decide) dL_law_1059 dL_law_1060 dL_law_1061 dL_law_1062 dL_law_1063 ?_
  refine l_goi (va_runV (As := [.int (xs (n + 1)), .int (xs (n + 2)), .int (xs (n + 3))]) (rest := []) ⟨hx, hb, hml, hown, hts⟩ (kX11_act (l_D1 h0) f1) (cwV 3 hts gLL_act rfl rfl rfl (by decide +kernel) ⟨Nat.le_of_ble_eq_true rfl, Nat.le_of_ble_eq_true rfl⟩) (l_preV hK hPC hE hS l_s1 tC0 rfl) rfl rfl hl.1 rfl (lv_room (Nat.le_of_ble_eq_true rfl)) dL_law_1064 ⟨hcr, hsr⟩) hS l_s1 hPM l_n1 (fun H locs hPC hPM hS => ?_)
  refine lv_aload_n hx hb dL_law_1067 rfl (lv_at hl 1 rfl) ?_
  refine l_rd hx hb hX hbl hbA hS hn hL 1 (by decide) hl (by decide) dL_law_1068 dL_law_1069 dL_law_1070 dL_law_1071 dL_law_1072 ?_
  refine l_rd hx hb hX hbl hbA hS hn hL 2 (by decide) hl (by decide) dL_law_1073 dL_law_1074 dL_law_1075 dL_law_1076 dL_law_1077 ?_
  refine l_rd hx hb hX hbl hbA hS hn hL 3 (by decide) hl (by decide) dL_law_1078 dL_law_1079 dL_law_1080 dL_law_1081 dL_law_1082 ?_
  refine l_goi (va_runV (As := [.int (xs (n + 1)), .int (xs (n + 2)), .int (xs (n + 3))]) (rest := [.int r]) ⟨hx, hb, hml, hown, hts⟩ (kX12_act (l_D2 h0) f2) (cwV 3 hts gL_law_X12_act rfl rfl rfl (by decide +kernel) ⟨Nat.le_of_ble_eq_true rfl, Nat.le_of_ble_eq_true rfl⟩) (l_preV hK hPM hE hS l_s2 tM0 rfl) rfl rfl hl.1 rfl (lv_room (Nat.le_of_ble_eq_true rfl)) dL_law_1083 ⟨hcr, hsr⟩) hS l_s2 hPC l_n2 (fun H locs hPM hPC hS => ?_)
  refine lv_icmp_eq (tgt := 1383) hx hb dL_law_1086 (by decide) (fun _ => ?_) (fun c9 => absurd rfl c9)
  exact l_next C0 hPC hPM hS hl hR2 kk
set_option maxRecDepth 100000 in
set_option maxHeartbeats 4000000 in
theorem lc_29 {p : Program} {l : Launch} {e : Env} {s : State} {m : MethodId} {below : List Frame} {meth : Method} {c : Code} {H : Heap} {locs : List Loc} {cells slots : Nat} {Q : State → Prop} {ls : Array Slot} {D : va_G} {tc : Nat → ClassId} {E : (Nat → Nat) × (Nat → Nat) × Nat} {h0 b L n : Nat} {xs : Nat → Int32} {gC gM : c_G} (C0 : l_C p s m c D tc h0 E b L xs) (hn : n + 6 ≤ L) (hcr : cells ≤ room_1.cells) (hsr : slots ≤ room_1.slots) (I0 : l_I s D tc h0 b n gC gM H locs ls) (kk : l_K p l e s m below meth c D tc h0 b cells slots Q n) : W p l e room_1 s m #[Value.ref b] below meth c H locs cells slots Q (F0 m 1091 ls []) := by
  obtain ⟨hx, hb, hml, hown, hts, hK, hE, hX, hbl, hh, hL⟩ := id C0
  obtain ⟨hPC, hPM, hS, hl, hR⟩ := I0
  obtain ⟨r, f1, f2⟩ := e_trace hR (xs (n + 1))
  have hR2 := hR
  have hbA : ¬ n_A h0 b := by unfold n_A; omega
  refine lv_aload_n hx hb dL_law_1091 rfl (lv_at hl 2 rfl) ?_
  refine l_rd hx hb hX hbl hbA hS hn hL 1 (by decide) hl (by decide) dL_law_1092 dL_law_1093 dL_law_1094 dL_law_1095 dL_law_1096 ?_
  refine l_goi (va_runV (As := [.int (xs (n + 1))]) (rest := []) ⟨hx, hb, hml, hown, hts⟩ (kX11_trace (l_D1 h0) f1) (cwV 1 hts gL_law_X11_trace rfl rfl rfl (by decide +kernel) ⟨Nat.le_of_ble_eq_true rfl, Nat.le_of_ble_eq_true rfl⟩) (l_preV hK hPC hE hS l_s1 tC0 rfl) rfl rfl hl.1 rfl (lv_room (Nat.le_of_ble_eq_true rfl)) dL_law_1097 ⟨hcr, hsr⟩) hS l_s1 hPM l_n1 (fun H locs hPC hPM hS => ?_)
  refine lv_aload_n hx hb dL_law_1100 rfl (lv_at hl 1 rfl) ?_
  refine l_rd hx hb hX hbl hbA hS hn hL 1 (by decide) hl (by decide) dL_law_1101 dL_law_1102 dL_law_1103 dL_law_1104 dL_law_1105 ?_
  refine l_goi (va_runV (As := [.int (xs (n + 1))]) (rest := [.int r]) ⟨hx, hb, hml, hown, hts⟩ (kX12_trace (l_D2 h0) f2) (cwV 1 hts gL_law_X12_trace rfl rfl rfl (by decide +kernel) ⟨Nat.le_of_ble_eq_true rfl, Nat.le_of_ble_eq_true rfl⟩) (l_preV hK hPM hE hS l_s2 tM0 rfl) rfl rfl hl.1 rfl (lv_room (Nat.le_of_ble_eq_true rfl)) dL_law_1106 ⟨hcr, hsr⟩) hS l_s2 hPC l_n2 (fun H locs hPM hPC hS => ?_)
  refine lv_icmp_eq (tgt := 1383) hx hb dL_law_1109 (by decide) (fun _ => ?_) (fun c9 => absurd rfl c9)
  exact l_next C0 hPC hPM hS hl hR2 kk
set_option maxRecDepth 100000 in
set_option maxHeartbeats 4000000 in
theorem lc_30 {p : Program} {l : Launch} {e : Env} {s : State} {m : MethodId} {below : List Frame} {meth : Method} {c : Code} {H : Heap} {locs : List Loc} {cells slots : Nat} {Q : State → Prop} {ls : Array Slot} {D : va_G} {tc : Nat → ClassId} {E : (Nat → Nat) × (Nat → Nat) × Nat} {h0 b L n : Nat} {xs : Nat → Int32} {gC gM : c_G} (C0 : l_C p s m c D tc h0 E b L xs) (hn : n + 6 ≤ L) (hcr : cells ≤ room_1.cells) (hsr : slots ≤ room_1.slots) (I0 : l_I s D tc h0 b n gC gM H locs ls) (kk : l_K p l e s m below meth c D tc h0 b cells slots Q n) : W p l e room_1 s m #[Value.ref b] below meth c H locs cells slots Q (F0 m 1114 ls []) := by
  obtain ⟨hx, hb, hml, hown, hts, hK, hE, hX, hbl, hh, hL⟩ := id C0
  obtain ⟨hPC, hPM, hS, hl, hR⟩ := I0
  obtain ⟨r, f1, f2⟩ := e_taken hR (xs (n + 1)) (xs (n + 2))
  have hR2 := hR
  have hbA : ¬ n_A h0 b := by unfold n_A; omega
  refine lv_aload_n hx hb dL_law_1114 rfl (lv_at hl 2 rfl) ?_
  refine l_rd hx hb hX hbl hbA hS hn hL 1 (by decide) hl (by decide) dL_law_1115 dL_law_1116 dL_law_1117 dL_law_1118 dL_law_1119 ?_
  refine l_rd hx hb hX hbl hbA hS hn hL 2 (by decide) hl (by decide) dL_law_1120 dL_law_1121 dL_law_1122 dL_law_1123 dL_law_1124 ?_
  refine l_goi (va_runV (As := [.int (xs (n + 1)), .int (xs (n + 2))]) (rest := []) ⟨hx, hb, hml, hown, hts⟩ (kX11_taken (l_D1 h0) f1) (cwV 2 hts gL_law_X11_taken rfl rfl rfl (by decide +kernel) ⟨Nat.le_of_ble_eq_true rfl, Nat.le_of_ble_eq_true rfl⟩) (l_preV hK hPC hE hS l_s1 tC0 rfl) rfl rfl hl.1 rfl (lv_room (Nat.le_of_ble_eq_true rfl)) dL_law_1125 ⟨hcr, hsr⟩) hS l_s1 hPM l_n1 (fun H locs hPC hPM hS => ?_)
  refine lv_aload_n hx hb dL_law_1128 rfl (lv_at hl 1 rfl) ?_
  refine l_rd hx hb hX hbl hbA hS hn hL 1 (by decide) hl (by decide) dL_law_1129 dL_law_1130 dL_law_1131 dL_law_1132 dL_law_1133 ?_
  refine l_rd hx hb hX hbl hbA hS hn hL 2 (by decide) hl (by decide) dL_law_1134 dL_law_1135 dL_law_1136 dL_law_1137 dL_law_1138 ?_
  refine l_goi (va_runV (As := [.int (xs (n + 1)), .int (xs (n + 2))]) (rest := [.int r]) ⟨hx, hb, hml, hown, hts⟩ (kX12_taken (l_D2 h0) f2) (cwV 2 hts gL_law_X12_taken rfl rfl rfl (by decide +kernel) ⟨Nat.le_of_ble_eq_true rfl, Nat.le_of_ble_eq_true rfl⟩) (l_preV hK hPM hE hS l_s2 tM0 rfl) rfl rfl hl.1 rfl (lv_room (Nat.le_of_ble_eq_true rfl)) dL_law_1139 ⟨hcr, hsr⟩) hS l_s2 hPC l_n2 (fun H locs hPM hPC hS => ?_)
  refine lv_icmp_eq (tgt := 1383) hx hb dL_law_1142 (by decide) (fun _ => ?_) (fun c9 => absurd rfl c9)
  exact l_next C0 hPC hPM hS hl hR2 kk
set_option maxRecDepth 100000 in
set_option maxHeartbeats 4000000 in
theorem lc_31 {p : Program} {l : Launch} {e : Env} {s : State} {m : MethodId} {below : List Frame} {meth : Method} {c : Code} {H : Heap} {locs : List Loc} {cells slots : Nat} {Q : State → Prop} {ls : Array Slot} {D : va_G} {tc : Nat → ClassId} {E : (Nat → Nat) × (Nat → Nat) × Nat} {h0 b L n : Nat} {xs : Nat → Int32} {gC gM : c_G} (C0 : l_C p s m c D tc h0 E b L xs) (hn : n + 6 ≤ L) (hcr : cells ≤ room_1.cells) (hsr : slots ≤ room_1.slots) (I0 : l_I s D tc h0 b n gC gM H locs ls) (kk : l_K p l e s m below meth c D tc h0 b cells slots Q n) : W p l e room_1 s m #[Value.ref b] below meth c H locs cells slots Q (F0 m 1147 ls []) := by
  obtain ⟨hx, hb, hml, hown, hts, hK, hE, hX, hbl, hh, hL⟩ := id C0
  obtain ⟨hPC, hPM, hS, hl, hR⟩ := I0
  obtain ⟨r, f1, f2⟩ := e_count hR (xs (n + 1))
  have hR2 := hR
  have hbA : ¬ n_A h0 b := by unfold n_A; omega
  refine lv_aload_n hx hb dL_law_1147 rfl (lv_at hl 2 rfl) ?_
  refine l_rd hx hb hX hbl hbA hS hn hL 1 (by decide) hl (by decide) dL_law_1148 dL_law_1149 dL_law_1150 dL_law_1151 dL_law_1152 ?_
  refine l_goi (va_runV (As := [.int (xs (n + 1))]) (rest := []) ⟨hx, hb, hml, hown, hts⟩ (kX11_count (l_D1 h0) f1) (cwV 1 hts gL_law_X11_count rfl rfl rfl (by decide +kernel) ⟨Nat.le_of_ble_eq_true rfl, Nat.le_of_ble_eq_true rfl⟩) (l_preV hK hPC hE hS l_s1 tC0 rfl) rfl rfl hl.1 rfl (lv_room (Nat.le_of_ble_eq_true rfl)) dL_law_1153 ⟨hcr, hsr⟩) hS l_s1 hPM l_n1 (fun H locs hPC hPM hS => ?_)
  refine lv_aload_n hx hb dL_law_1156 rfl (lv_at hl 1 rfl) ?_
  refine l_rd hx hb hX hbl hbA hS hn hL 1 (by decide) hl (by decide) dL_law_1157 dL_law_1158 dL_law_1159 dL_law_1160 dL_law_1161 ?_
  refine l_goi (va_runV (As := [.int (xs (n + 1))]) (rest := [.int r]) ⟨hx, hb, hml, hown, hts⟩ (kX12_count (l_D2 h0) f2) (cwV 1 hts gL_law_X12_count rfl rfl rfl (by decide +kernel) ⟨Nat.le_of_ble_eq_true rfl, Nat.le_of_ble_eq_true rfl⟩) (l_preV hK hPM hE hS l_s2 tM0 rfl) rfl rfl hl.1 rfl (lv_room (Nat.le_of_ble_eq_true rfl)) dL_law_1162 ⟨hcr, hsr⟩) hS l_s2 hPC l_n2 (fun H locs hPM hPC hS => ?_)
  refine lv_icmp_eq (tgt := 1383) hx hb dL_law_1165 (by decide) (fun _ => ?_) (fun c9 => absurd rfl c9)
  exact l_next C0 hPC hPM hS hl hR2 kk
set_option maxRecDepth 100000 in
set_option maxHeartbeats 4000000 in
theorem lc_32 {p : Program} {l : Launch} {e : Env} {s : State} {m : MethodId} {below : List Frame} {meth : Method} {c : Code} {H : Heap} {locs : List Loc} {cells slots : Nat} {Q : State → Prop} {ls : Array Slot} {D : va_G} {tc : Nat → ClassId} {E : (Nat → Nat) × (Nat → Nat) × Nat} {h0 b L n : Nat} {xs : Nat → Int32} {gC gM : c_G} (C0 : l_C p s m c D tc h0 E b L xs) (hn : n + 6 ≤ L) (hcr : cells ≤ room_1.cells) (hsr : slots ≤ room_1.slots) (I0 : l_I s D tc h0 b n gC gM H locs ls) (kk : l_K p l e s m below meth c D tc h0 b cells slots Q n) : W p l e room_1 s m #[Value.ref b] below meth c H locs cells slots Q (F0 m 1170 ls []) := by
  obtain ⟨hx, hb, hml, hown, hts, hK, hE, hX, hbl, hh, hL⟩ := id C0
  obtain ⟨hPC, hPM, hS, hl, hR⟩ := I0
  obtain ⟨gC2, gM2, r, f1, f2, hR2⟩ := e_tapeC hR (xs (n + 1)) (xs (n + 2)) (xs (n + 3))
  have hbA : ¬ n_A h0 b := by unfold n_A; omega
  refine lv_aload_n hx hb dL_law_1170 rfl (lv_at hl 2 rfl) ?_
  refine l_rd hx hb hX hbl hbA hS hn hL 1 (by decide) hl (by decide) dL_law_1171 dL_law_1172 dL_law_1173 dL_law_1174 dL_law_1175 ?_
  refine l_rd hx hb hX hbl hbA hS hn hL 2 (by decide) hl (by decide) dL_law_1176 dL_law_1177 dL_law_1178 dL_law_1179 dL_law_1180 ?_
  refine l_rd hx hb hX hbl hbA hS hn hL 3 (by decide) hl (by decide) dL_law_1181 dL_law_1182 dL_law_1183 dL_law_1184 dL_law_1185 ?_
  refine l_goi (va_runV (As := [.int (xs (n + 1)), .int (xs (n + 2)), .int (xs (n + 3))]) (rest := []) ⟨hx, hb, hml, hown, hts⟩ (kX11_tape (l_D1 h0) f1) (cwV 3 hts gL_law_X11_tape rfl rfl rfl (by decide +kernel) ⟨Nat.le_of_ble_eq_true rfl, Nat.le_of_ble_eq_true rfl⟩) (l_preV hK hPC hE hS l_s1 tC0 rfl) rfl rfl hl.1 rfl (lv_room (Nat.le_of_ble_eq_true rfl)) dL_law_1186 ⟨hcr, hsr⟩) hS l_s1 hPM l_n1 (fun H locs hPC hPM hS => ?_)
  refine lv_aload_n hx hb dL_law_1189 rfl (lv_at hl 1 rfl) ?_
  refine l_rd hx hb hX hbl hbA hS hn hL 1 (by decide) hl (by decide) dL_law_1190 dL_law_1191 dL_law_1192 dL_law_1193 dL_law_1194 ?_
  refine l_rd hx hb hX hbl hbA hS hn hL 2 (by decide) hl (by decide) dL_law_1195 dL_law_1196 dL_law_1197 dL_law_1198 dL_law_1199 ?_
  refine l_rd hx hb hX hbl hbA hS hn hL 3 (by decide) hl (by decide) dL_law_1200 dL_law_1201 dL_law_1202 dL_law_1203 dL_law_1204 ?_
  refine l_goi (va_runV (As := [.int (xs (n + 1)), .int (xs (n + 2)), .int (xs (n + 3))]) (rest := [.int r]) ⟨hx, hb, hml, hown, hts⟩ (kX12_tape (l_D2 h0) f2) (cwV 3 hts gL_law_X12_tape rfl rfl rfl (by decide +kernel) ⟨Nat.le_of_ble_eq_true rfl, Nat.le_of_ble_eq_true rfl⟩) (l_preV hK hPM hE hS l_s2 tM0 rfl) rfl rfl hl.1 rfl (lv_room (Nat.le_of_ble_eq_true rfl)) dL_law_1205 ⟨hcr, hsr⟩) hS l_s2 hPC l_n2 (fun H locs hPM hPC hS => ?_)
  refine lv_icmp_eq (tgt := 1383) hx hb dL_law_1208 (by decide) (fun _ => ?_) (fun c9 => absurd rfl c9)
  exact l_next C0 hPC hPM hS hl hR2 kk
set_option maxRecDepth 100000 in
set_option maxHeartbeats 4000000 in
theorem lc_33 {p : Program} {l : Launch} {e : Env} {s : State} {m : MethodId} {below : List Frame} {meth : Method} {c : Code} {H : Heap} {locs : List Loc} {cells slots : Nat} {Q : State → Prop} {ls : Array Slot} {D : va_G} {tc : Nat → ClassId} {E : (Nat → Nat) × (Nat → Nat) × Nat} {h0 b L n : Nat} {xs : Nat → Int32} {gC gM : c_G} (C0 : l_C p s m c D tc h0 E b L xs) (hn : n + 6 ≤ L) (hcr : cells ≤ room_1.cells) (hsr : slots ≤ room_1.slots) (I0 : l_I s D tc h0 b n gC gM H locs ls) (kk : l_K p l e s m below meth c D tc h0 b cells slots Q n) : W p l e room_1 s m #[Value.ref b] below meth c H locs cells slots Q (F0 m 1213 ls []) := by
  obtain ⟨hx, hb, hml, hown, hts, hK, hE, hX, hbl, hh, hL⟩ := id C0
  obtain ⟨hPC, hPM, hS, hl, hR⟩ := I0
  obtain ⟨gC2, gM2, r, f1, f2, hR2⟩ := e_item hR (xs (n + 1)) (xs (n + 2)) (((Int32.toInt64 (xs (n + 3))) <<< (Int32.toInt64 (32 : Int32) &&& 63)) ||| ((Int32.toInt64 (xs (n + 4))) &&& (4294967295 : Int64)))
  have hbA : ¬ n_A h0 b := by unfold n_A; omega
  refine lv_aload_n hx hb dL_law_1213 rfl (lv_at hl 2 rfl) ?_
  refine l_rd hx hb hX hbl hbA hS hn hL 1 (by decide) hl (by decide) dL_law_1214 dL_law_1215 dL_law_1216 dL_law_1217 dL_law_1218 ?_
  refine l_rd hx hb hX hbl hbA hS hn hL 2 (by decide) hl (by decide) dL_law_1219 dL_law_1220 dL_law_1221 dL_law_1222 dL_law_1223 ?_
  refine l_rd hx hb hX hbl hbA hS hn hL 3 (by decide) hl (by decide) dL_law_1224 dL_law_1225 dL_law_1226 dL_law_1227 dL_law_1228 ?_
  refine lv_i2l (v := Int32.toInt64 (xs (n + 3))) hx hb dL_law_1229 rfl ?_
  refine lv_bipush (v := (32 : Int32)) hx hb dL_law_1230 (by decide) ?_
  refine lv_lshl (v := ((Int32.toInt64 (xs (n + 3))) <<< (Int32.toInt64 (32 : Int32) &&& 63))) hx hb dL_law_1232 rfl ?_
  refine l_rd hx hb hX hbl hbA hS hn hL 4 (by decide) hl (by decide) dL_law_1233 dL_law_1234 dL_law_1235 dL_law_1236 dL_law_1237 ?_
  refine lv_i2l (v := Int32.toInt64 (xs (n + 4))) hx hb dL_law_1238 rfl ?_
  refine lv_ldc2 (v := (4294967295 : Int64)) hx hb hown (hts _ (List.mem_of_getElem? (i := 1355) (by decide +kernel))) dL_law_1239 ?_
  refine lv_land hx hb dL_law_1242 ?_
  refine lv_lor hx hb dL_law_1243 ?_
  refine l_goi (va_runV (As := [.int (xs (n + 1)), .int (xs (n + 2)), .long (((Int32.toInt64 (xs (n + 3))) <<< (Int32.toInt64 (32 : Int32) &&& 63)) ||| ((Int32.toInt64 (xs (n + 4))) &&& (4294967295 : Int64)))]) (rest := []) ⟨hx, hb, hml, hown, hts⟩ (kX11_item (l_D1 h0) f1) (cwV 3 hts gL_law_X11_item rfl rfl rfl (by decide +kernel) ⟨Nat.le_of_ble_eq_true rfl, Nat.le_of_ble_eq_true rfl⟩) (l_preV hK hPC hE hS l_s1 tC0 rfl) rfl rfl hl.1 rfl (lv_room (Nat.le_of_ble_eq_true rfl)) dL_law_1244 ⟨hcr, hsr⟩) hS l_s1 hPM l_n1 (fun H locs hPC hPM hS => ?_)
  refine lv_aload_n hx hb dL_law_1247 rfl (lv_at hl 1 rfl) ?_
  refine l_rd hx hb hX hbl hbA hS hn hL 1 (by decide) hl (by decide) dL_law_1248 dL_law_1249 dL_law_1250 dL_law_1251 dL_law_1252 ?_
  refine l_rd hx hb hX hbl hbA hS hn hL 2 (by decide) hl (by decide) dL_law_1253 dL_law_1254 dL_law_1255 dL_law_1256 dL_law_1257 ?_
  refine l_rd hx hb hX hbl hbA hS hn hL 3 (by decide) hl (by decide) dL_law_1258 dL_law_1259 dL_law_1260 dL_law_1261 dL_law_1262 ?_
  refine lv_i2l (v := Int32.toInt64 (xs (n + 3))) hx hb dL_law_1263 rfl ?_
  refine lv_bipush (v := (32 : Int32)) hx hb dL_law_1264 (by decide) ?_
  refine lv_lshl (v := ((Int32.toInt64 (xs (n + 3))) <<< (Int32.toInt64 (32 : Int32) &&& 63))) hx hb dL_law_1266 rfl ?_
  refine l_rd hx hb hX hbl hbA hS hn hL 4 (by decide) hl (by decide) dL_law_1267 dL_law_1268 dL_law_1269 dL_law_1270 dL_law_1271 ?_
  refine lv_i2l (v := Int32.toInt64 (xs (n + 4))) hx hb dL_law_1272 rfl ?_
  refine lv_ldc2 (v := (4294967295 : Int64)) hx hb hown (hts _ (List.mem_of_getElem? (i := 1355) (by decide +kernel))) dL_law_1273 ?_
  refine lv_land hx hb dL_law_1276 ?_
  refine lv_lor hx hb dL_law_1277 ?_
  refine l_goi (va_runV (As := [.int (xs (n + 1)), .int (xs (n + 2)), .long (((Int32.toInt64 (xs (n + 3))) <<< (Int32.toInt64 (32 : Int32) &&& 63)) ||| ((Int32.toInt64 (xs (n + 4))) &&& (4294967295 : Int64)))]) (rest := [.int r]) ⟨hx, hb, hml, hown, hts⟩ (kX12_item (l_D2 h0) f2) (cwV 3 hts gL_law_X12_item rfl rfl rfl (by decide +kernel) ⟨Nat.le_of_ble_eq_true rfl, Nat.le_of_ble_eq_true rfl⟩) (l_preV hK hPM hE hS l_s2 tM0 rfl) rfl rfl hl.1 rfl (lv_room (Nat.le_of_ble_eq_true rfl)) dL_law_1278 ⟨hcr, hsr⟩) hS l_s2 hPC l_n2 (fun H locs hPM hPC hS => ?_)
  refine lv_icmp_eq (tgt := 1383) hx hb dL_law_1281 (by decide) (fun _ => ?_) (fun c9 => absurd rfl c9)
  exact l_next C0 hPC hPM hS hl hR2 kk
set_option maxRecDepth 100000 in
set_option maxHeartbeats 4000000 in
theorem lc_34 {p : Program} {l : Launch} {e : Env} {s : State} {m : MethodId} {below : List Frame} {meth : Method} {c : Code} {H : Heap} {locs : List Loc} {cells slots : Nat} {Q : State → Prop} {ls : Array Slot} {D : va_G} {tc : Nat → ClassId} {E : (Nat → Nat) × (Nat → Nat) × Nat} {h0 b L n : Nat} {xs : Nat → Int32} {gC gM : c_G} (C0 : l_C p s m c D tc h0 E b L xs) (hn : n + 6 ≤ L) (hcr : cells ≤ room_1.cells) (hsr : slots ≤ room_1.slots) (I0 : l_I s D tc h0 b n gC gM H locs ls) (kk : l_K p l e s m below meth c D tc h0 b cells slots Q n) : W p l e room_1 s m #[Value.ref b] below meth c H locs cells slots Q (F0 m 1286 ls []) := by
  obtain ⟨hx, hb, hml, hown, hts, hK, hE, hX, hbl, hh, hL⟩ := id C0
  obtain ⟨hPC, hPM, hS, hl, hR⟩ := I0
  obtain ⟨r, f1, f2⟩ := e_read hR (xs (n + 1)) (xs (n + 2))
  have hR2 := hR
  have hbA : ¬ n_A h0 b := by unfold n_A; omega
  refine lv_aload_n hx hb dL_law_1286 rfl (lv_at hl 2 rfl) ?_
  refine l_rd hx hb hX hbl hbA hS hn hL 1 (by decide) hl (by decide) dL_law_1287 dL_law_1288 dL_law_1289 dL_law_1290 dL_law_1291 ?_
  refine l_rd hx hb hX hbl hbA hS hn hL 2 (by decide) hl (by decide) dL_law_1292 dL_law_1293 dL_law_1294 dL_law_1295 dL_law_1296 ?_
  refine l_gol (va_runV (As := [.int (xs (n + 1)), .int (xs (n + 2))]) (rest := []) ⟨hx, hb, hml, hown, hts⟩ (kX11_read (l_D1 h0) f1) (cwV 2 hts gL_law_X11_read rfl rfl rfl (by decide +kernel) ⟨Nat.le_of_ble_eq_true rfl, Nat.le_of_ble_eq_true rfl⟩) (l_preV hK hPC hE hS l_s1 tC0 rfl) rfl rfl hl.1 rfl (lv_room (Nat.le_of_ble_eq_true rfl)) dL_law_1297 ⟨hcr, hsr⟩) hS l_s1 hPM l_n1 (fun H locs hPC hPM hS => ?_)
  refine lv_aload_n hx hb dL_law_1300 rfl (lv_at hl 1 rfl) ?_
  refine l_rd hx hb hX hbl hbA hS hn hL 1 (by decide) hl (by decide) dL_law_1301 dL_law_1302 dL_law_1303 dL_law_1304 dL_law_1305 ?_
  refine l_rd hx hb hX hbl hbA hS hn hL 2 (by decide) hl (by decide) dL_law_1306 dL_law_1307 dL_law_1308 dL_law_1309 dL_law_1310 ?_
  refine l_gol (va_runV (As := [.int (xs (n + 1)), .int (xs (n + 2))]) (rest := [.long r]) ⟨hx, hb, hml, hown, hts⟩ (kX12_read (l_D2 h0) f2) (cwV 2 hts gL_law_X12_read rfl rfl rfl (by decide +kernel) ⟨Nat.le_of_ble_eq_true rfl, Nat.le_of_ble_eq_true rfl⟩) (l_preV hK hPM hE hS l_s2 tM0 rfl) rfl rfl hl.1 rfl (lv_room (Nat.le_of_ble_eq_true rfl)) dL_law_1311 ⟨hcr, hsr⟩) hS l_s2 hPC l_n2 (fun H locs hPM hPC hS => ?_)
  refine W.lcmp hx hb dL_law_1314 ?_
  refine lv_if_eq (tgt := 1383) hx hb dL_law_1315 (by decide) (fun _ => ?_) (fun c9 => absurd (l_cmp r) c9)
  exact l_next C0 hPC hPM hS hl hR2 kk
set_option maxRecDepth 100000 in
set_option maxHeartbeats 4000000 in
theorem lc_35 {p : Program} {l : Launch} {e : Env} {s : State} {m : MethodId} {below : List Frame} {meth : Method} {c : Code} {H : Heap} {locs : List Loc} {cells slots : Nat} {Q : State → Prop} {ls : Array Slot} {D : va_G} {tc : Nat → ClassId} {E : (Nat → Nat) × (Nat → Nat) × Nat} {h0 b L n : Nat} {xs : Nat → Int32} {gC gM : c_G} (C0 : l_C p s m c D tc h0 E b L xs) (hn : n + 6 ≤ L) (hcr : cells ≤ room_1.cells) (hsr : slots ≤ room_1.slots) (I0 : l_I s D tc h0 b n gC gM H locs ls) (kk : l_K p l e s m below meth c D tc h0 b cells slots Q n) : W p l e room_1 s m #[Value.ref b] below meth c H locs cells slots Q (F0 m 1320 ls []) := by
  obtain ⟨hx, hb, hml, hown, hts, hK, hE, hX, hbl, hh, hL⟩ := id C0
  obtain ⟨hPC, hPM, hS, hl, hR⟩ := I0
  obtain ⟨gC2, gM2, r, f1, f2, hR2⟩ := e_shift hR (xs (n + 1)) (xs (n + 2)) (xs (n + 3)) (xs (n + 4)) (xs (n + 5))
  have hbA : ¬ n_A h0 b := by unfold n_A; omega
  refine lv_aload_n hx hb dL_law_1320 rfl (lv_at hl 2 rfl) ?_
  refine l_rd hx hb hX hbl hbA hS hn hL 1 (by decide) hl (by decide) dL_law_1321 dL_law_1322 dL_law_1323 dL_law_1324 dL_law_1325 ?_
  refine l_rd hx hb hX hbl hbA hS hn hL 2 (by decide) hl (by decide) dL_law_1326 dL_law_1327 dL_law_1328 dL_law_1329 dL_law_1330 ?_
  refine l_rd hx hb hX hbl hbA hS hn hL 3 (by decide) hl (by decide) dL_law_1331 dL_law_1332 dL_law_1333 dL_law_1334 dL_law_1335 ?_
  refine l_rd hx hb hX hbl hbA hS hn hL 4 (by decide) hl (by decide) dL_law_1336 dL_law_1337 dL_law_1338 dL_law_1339 dL_law_1340 ?_
  refine l_rd hx hb hX hbl hbA hS hn hL 5 (by decide) hl (by decide) dL_law_1341 dL_law_1342 dL_law_1343 dL_law_1344 dL_law_1345 ?_
  refine l_goi (va_runV (As := [.int (xs (n + 1)), .int (xs (n + 2)), .int (xs (n + 3)), .int (xs (n + 4)), .int (xs (n + 5))]) (rest := []) ⟨hx, hb, hml, hown, hts⟩ (kX11_shift (l_D1 h0) f1) (cwV 5 hts gL_law_X11_shift rfl rfl rfl (by decide +kernel) ⟨Nat.le_of_ble_eq_true rfl, Nat.le_of_ble_eq_true rfl⟩) (l_preV hK hPC hE hS l_s1 tC0 rfl) rfl rfl hl.1 rfl (lv_room (Nat.le_of_ble_eq_true rfl)) dL_law_1346 ⟨hcr, hsr⟩) hS l_s1 hPM l_n1 (fun H locs hPC hPM hS => ?_)
  refine lv_aload_n hx hb dL_law_1349 rfl (lv_at hl 1 rfl) ?_
  refine l_rd hx hb hX hbl hbA hS hn hL 1 (by decide) hl (by decide) dL_law_1350 dL_law_1351 dL_law_1352 dL_law_1353 dL_law_1354 ?_
  refine l_rd hx hb hX hbl hbA hS hn hL 2 (by decide) hl (by decide) dL_law_1355 dL_law_1356 dL_law_1357 dL_law_1358 dL_law_1359 ?_
  refine l_rd hx hb hX hbl hbA hS hn hL 3 (by decide) hl (by decide) dL_law_1360 dL_law_1361 dL_law_1362 dL_law_1363 dL_law_1364 ?_
  refine l_rd hx hb hX hbl hbA hS hn hL 4 (by decide) hl (by decide) dL_law_1365 dL_law_1366 dL_law_1367 dL_law_1368 dL_law_1369 ?_
  refine l_rd hx hb hX hbl hbA hS hn hL 5 (by decide) hl (by decide) dL_law_1370 dL_law_1371 dL_law_1372 dL_law_1373 dL_law_1374 ?_
  refine l_goi (va_runV (As := [.int (xs (n + 1)), .int (xs (n + 2)), .int (xs (n + 3)), .int (xs (n + 4)), .int (xs (n + 5))]) (rest := [.int r]) ⟨hx, hb, hml, hown, hts⟩ (kX12_shift (l_D2 h0) f2) (cwV 5 hts gL_law_X12_shift rfl rfl rfl (by decide +kernel) ⟨Nat.le_of_ble_eq_true rfl, Nat.le_of_ble_eq_true rfl⟩) (l_preV hK hPM hE hS l_s2 tM0 rfl) rfl rfl hl.1 rfl (lv_room (Nat.le_of_ble_eq_true rfl)) dL_law_1375 ⟨hcr, hsr⟩) hS l_s2 hPC l_n2 (fun H locs hPM hPC hS => ?_)
  refine lv_icmp_eq (tgt := 1383) hx hb dL_law_1378 (by decide) (fun _ => ?_) (fun c9 => absurd rfl c9)
  exact l_next C0 hPC hPM hS hl hR2 kk
