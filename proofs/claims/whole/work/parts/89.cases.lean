set_option maxRecDepth 100000 in
set_option maxHeartbeats 4000000 in
theorem lc_12 {p : Program} {l : Launch} {e : Env} {s : State} {m : MethodId} {below : List Frame} {meth : Method} {c : Code} {H : Heap} {locs : List Loc} {cells slots : Nat} {Q : State → Prop} {ls : Array Slot} {D : va_G} {tc : Nat → ClassId} {E : (Nat → Nat) × (Nat → Nat) × Nat} {h0 b L n : Nat} {xs : Nat → Int32} {gC gM : c_G} (C0 : l_C p s m c D tc h0 E b L xs) (hn : n + 6 ≤ L) (hcr : cells ≤ room_1.cells) (hsr : slots ≤ room_1.slots) (I0 : l_I s D tc h0 b n gC gM H locs ls) (kk : l_K p l e s m below meth c D tc h0 b cells slots Q n) : W p l e room_1 s m #[Value.ref b] below meth c H locs cells slots Q (F0 m 598 ls []) := by
  obtain ⟨hx, hb, hml, hown, hts, hK, hE, hX, hbl, hh, hL⟩ := id C0
  obtain ⟨hPC, hPM, hS, hl, hR⟩ := I0
  obtain ⟨gC2, gM2, r, f1, f2, hR2⟩ := e_valley hR 
  have hbA : ¬ n_A h0 b := by unfold n_A; omega
  refine lv_aload_n hx hb dL_law_598 rfl (lv_at hl 2 rfl) ?_
  refine l_goi (va_runV (As := []) (rest := []) ⟨hx, hb, hml, hown, hts⟩ (kX11_valley (l_D1 h0) f1) (cwV 0 hts gL_law_X11_valley rfl rfl rfl (by decide +kernel) ⟨Nat.le_of_ble_eq_true rfl, Nat.le_of_ble_eq_true rfl⟩) (l_preV hK hPC hE hS l_s1 tC0 rfl) rfl rfl hl.1 rfl (lv_room (Nat.le_of_ble_eq_true rfl)) dL_law_599 ⟨hcr, hsr⟩) hS l_s1 hPM l_n1 (fun H locs hPC hPM hS => ?_)
  refine lv_aload_n hx hb dL_law_602 rfl (lv_at hl 1 rfl) ?_
  refine l_goi (va_runV (As := []) (rest := [.int r]) ⟨hx, hb, hml, hown, hts⟩ (kX12_valley (l_D2 h0) f2) (cwV 0 hts gL_law_X12_valley rfl rfl rfl (by decide +kernel) ⟨Nat.le_of_ble_eq_true rfl, Nat.le_of_ble_eq_true rfl⟩) (l_preV hK hPM hE hS l_s2 tM0 rfl) rfl rfl hl.1 rfl (lv_room (Nat.le_of_ble_eq_true rfl)) dL_law_603 ⟨hcr, hsr⟩) hS l_s2 hPC l_n2 (fun H locs hPM hPC hS => ?_)
  refine lv_icmp_eq (tgt := 1383) hx hb dL_law_606 (by decide) (fun _ => ?_) (fun c9 => absurd rfl c9)
  exact l_next C0 hPC hPM hS hl hR2 kk
set_option maxRecDepth 100000 in
set_option maxHeartbeats 4000000 in
theorem lc_13 {p : Program} {l : Launch} {e : Env} {s : State} {m : MethodId} {below : List Frame} {meth : Method} {c : Code} {H : Heap} {locs : List Loc} {cells slots : Nat} {Q : State → Prop} {ls : Array Slot} {D : va_G} {tc : Nat → ClassId} {E : (Nat → Nat) × (Nat → Nat) × Nat} {h0 b L n : Nat} {xs : Nat → Int32} {gC gM : c_G} (C0 : l_C p s m c D tc h0 E b L xs) (hn : n + 6 ≤ L) (hcr : cells ≤ room_1.cells) (hsr : slots ≤ room_1.slots) (I0 : l_I s D tc h0 b n gC gM H locs ls) (kk : l_K p l e s m below meth c D tc h0 b cells slots Q n) : W p l e room_1 s m #[Value.ref b] below meth c H locs cells slots Q (F0 m 611 ls []) := by
  obtain ⟨hx, hb, hml, hown, hts, hK, hE, hX, hbl, hh, hL⟩ := id C0
  obtain ⟨hPC, hPM, hS, hl, hR⟩ := I0
  obtain ⟨gC2, gM2, r, f1, f2, hR2⟩ := e_told hR (xs (n + 1))
  have hbA : ¬ n_A h0 b := by unfold n_A; omega
  refine lv_aload_n hx hb dL_law_611 rfl (lv_at hl 2 rfl) ?_
  refine l_rd hx hb hX hbl hbA hS hn hL 1 (by decide) hl (by decide) dL_law_612 dL_law_613 dL_law_614 dL_law_615 dL_law_616 ?_
  refine l_goi (va_runV (As := [.int (xs (n + 1))]) (rest := []) ⟨hx, hb, hml, hown, hts⟩ (kX11_told (l_D1 h0) f1) (cwV 1 hts gL_law_X11_told rfl rfl rfl (by decide +kernel) ⟨Nat.le_of_ble_eq_true rfl, Nat.le_of_ble_eq_true rfl⟩) (l_preV hK hPC hE hS l_s1 tC0 rfl) rfl rfl hl.1 rfl (lv_room (Nat.le_of_ble_eq_true rfl)) dL_law_617 ⟨hcr, hsr⟩) hS l_s1 hPM l_n1 (fun H locs hPC hPM hS => ?_)
  refine lv_aload_n hx hb dL_law_620 rfl (lv_at hl 1 rfl) ?_
  refine l_rd hx hb hX hbl hbA hS hn hL 1 (by decide) hl (by decide) dL_law_621 dL_law_622 dL_law_623 dL_law_624 dL_law_625 ?_
  refine l_goi (va_runV (As := [.int (xs (n + 1))]) (rest := [.int r]) ⟨hx, hb, hml, hown, hts⟩ (kX12_told (l_D2 h0) f2) (cwV 1 hts gL_law_X12_told rfl rfl rfl (by decide +kernel) ⟨Nat.le_of_ble_eq_true rfl, Nat.le_of_ble_eq_true rfl⟩) (l_preV hK hPM hE hS l_s2 tM0 rfl) rfl rfl hl.1 rfl (lv_room (Nat.le_of_ble_eq_true rfl)) dL_law_626 ⟨hcr, hsr⟩) hS l_s2 hPC l_n2 (fun H locs hPM hPC hS => ?_)
  refine lv_icmp_eq (tgt := 1383) hx hb dL_law_629 (by decide) (fun _ => ?_) (fun c9 => absurd rfl c9)
  exact l_next C0 hPC hPM hS hl hR2 kk
set_option maxRecDepth 100000 in
set_option maxHeartbeats 4000000 in
theorem lc_14 {p : Program} {l : Launch} {e : Env} {s : State} {m : MethodId} {below : List Frame} {meth : Method} {c : Code} {H : Heap} {locs : List Loc} {cells slots : Nat} {Q : State → Prop} {ls : Array Slot} {D : va_G} {tc : Nat → ClassId} {E : (Nat → Nat) × (Nat → Nat) × Nat} {h0 b L n : Nat} {xs : Nat → Int32} {gC gM : c_G} (C0 : l_C p s m c D tc h0 E b L xs) (hn : n + 6 ≤ L) (hcr : cells ≤ room_1.cells) (hsr : slots ≤ room_1.slots) (I0 : l_I s D tc h0 b n gC gM H locs ls) (kk : l_K p l e s m below meth c D tc h0 b cells slots Q n) : W p l e room_1 s m #[Value.ref b] below meth c H locs cells slots Q (F0 m 634 ls []) := by
  obtain ⟨hx, hb, hml, hown, hts, hK, hE, hX, hbl, hh, hL⟩ := id C0
  obtain ⟨hPC, hPM, hS, hl, hR⟩ := I0
  obtain ⟨gC2, gM2, r, f1, f2, hR2⟩ := e_pass hR (xs (n + 1))
  have hbA : ¬ n_A h0 b := by unfold n_A; omega
  refine lv_aload_n hx hb dL_law_634 rfl (lv_at hl 2 rfl) ?_
  refine l_rd hx hb hX hbl hbA hS hn hL 1 (by decide) hl (by decide) dL_law_635 dL_law_636 dL_law_637 dL_law_638 dL_law_639 ?_
  refine l_goi (va_runV (As := [.int (xs (n + 1))]) (rest := []) ⟨hx, hb, hml, hown, hts⟩ (kX11_pass (l_D1 h0) f1) (cwV 1 hts gL_law_X11_pass rfl rfl rfl (by decide +kernel) ⟨Nat.le_of_ble_eq_true rfl, Nat.le_of_ble_eq_true rfl⟩) (l_preV hK hPC hE hS l_s1 tC0 rfl) rfl rfl hl.1 rfl (lv_room (Nat.le_of_ble_eq_true rfl)) dL_law_640 ⟨hcr, hsr⟩) hS l_s1 hPM l_n1 (fun H locs hPC hPM hS => ?_)
  refine lv_aload_n hx hb dL_law_643 rfl (lv_at hl 1 rfl) ?_
  refine l_rd hx hb hX hbl hbA hS hn hL 1 (by decide) hl (by decide) dL_law_644 dL_law_645 dL_law_646 dL_law_647 dL_law_648 ?_
  refine l_goi (va_runV (As := [.int (xs (n + 1))]) (rest := [.int r]) ⟨hx, hb, hml, hown, hts⟩ (kX12_pass (l_D2 h0) f2) (cwV 1 hts gL_law_X12_pass rfl rfl rfl (by decide +kernel) ⟨Nat.le_of_ble_eq_true rfl, Nat.le_of_ble_eq_true rfl⟩) (l_preV hK hPM hE hS l_s2 tM0 rfl) rfl rfl hl.1 rfl (lv_room (Nat.le_of_ble_eq_true rfl)) dL_law_649 ⟨hcr, hsr⟩) hS l_s2 hPC l_n2 (fun H locs hPM hPC hS => ?_)
  refine lv_icmp_eq (tgt := 1383) hx hb dL_law_652 (by decide) (fun _ => ?_) (fun c9 => absurd rfl c9)
  exact l_next C0 hPC hPM hS hl hR2 kk
set_option maxRecDepth 100000 in
set_option maxHeartbeats 4000000 in
theorem lc_15 {p : Program} {l : Launch} {e : Env} {s : State} {m : MethodId} {below : List Frame} {meth : Method} {c : Code} {H : Heap} {locs : List Loc} {cells slots : Nat} {Q : State → Prop} {ls : Array Slot} {D : va_G} {tc : Nat → ClassId} {E : (Nat → Nat) × (Nat → Nat) × Nat} {h0 b L n : Nat} {xs : Nat → Int32} {gC gM : c_G} (C0 : l_C p s m c D tc h0 E b L xs) (hn : n + 6 ≤ L) (hcr : cells ≤ room_1.cells) (hsr : slots ≤ room_1.slots) (I0 : l_I s D tc h0 b n gC gM H locs ls) (kk : l_K p l e s m below meth c D tc h0 b cells slots Q n) : W p l e room_1 s m #[Value.ref b] below meth c H locs cells slots Q (F0 m 657 ls []) := by
  obtain ⟨hx, hb, hml, hown, hts, hK, hE, hX, hbl, hh, hL⟩ := id C0
  obtain ⟨hPC, hPM, hS, hl, hR⟩ := I0
  obtain ⟨gC2, gM2, r, f1, f2, hR2⟩ := e_on hR (xs (n + 1)) (xs (n + 2))
  have hbA : ¬ n_A h0 b := by unfold n_A; omega
  refine lv_aload_n hx hb dL_law_657 rfl (lv_at hl 2 rfl) ?_
  refine l_rd hx hb hX hbl hbA hS hn hL 1 (by decide) hl (by decide) dL_law_658 dL_law_659 dL_law_660 dL_law_661 dL_law_662 ?_
  refine l_rd hx hb hX hbl hbA hS hn hL 2 (by decide) hl (by decide) dL_law_663 dL_law_664 dL_law_665 dL_law_666 dL_law_667 ?_
  refine l_goi (va_runV (As := [.int (xs (n + 1)), .int (xs (n + 2))]) (rest := []) ⟨hx, hb, hml, hown, hts⟩ (kX11_on (l_D1 h0) f1) (cwV 2 hts gL_law_X11_on rfl rfl rfl (by decide +kernel) ⟨Nat.le_of_ble_eq_true rfl, Nat.le_of_ble_eq_true rfl⟩) (l_preV hK hPC hE hS l_s1 tC0 rfl) rfl rfl hl.1 rfl (lv_room (Nat.le_of_ble_eq_true rfl)) dL_law_668 ⟨hcr, hsr⟩) hS l_s1 hPM l_n1 (fun H locs hPC hPM hS => ?_)
  refine lv_aload_n hx hb dL_law_671 rfl (lv_at hl 1 rfl) ?_
  refine l_rd hx hb hX hbl hbA hS hn hL 1 (by decide) hl (by decide) dL_law_672 dL_law_673 dL_law_674 dL_law_675 dL_law_676 ?_
  refine l_rd hx hb hX hbl hbA hS hn hL 2 (by decide) hl (by decide) dL_law_677 dL_law_678 dL_law_679 dL_law_680 dL_law_681 ?_
  refine l_goi (va_runV (As := [.int (xs (n + 1)), .int (xs (n + 2))]) (rest := [.int r]) ⟨hx, hb, hml, hown, hts⟩ (kX12_on (l_D2 h0) f2) (cwV 2 hts gL_law_X12_on rfl rfl rfl (by decide +kernel) ⟨Nat.le_of_ble_eq_true rfl, Nat.le_of_ble_eq_true rfl⟩) (l_preV hK hPM hE hS l_s2 tM0 rfl) rfl rfl hl.1 rfl (lv_room (Nat.le_of_ble_eq_true rfl)) dL_law_682 ⟨hcr, hsr⟩) hS l_s2 hPC l_n2 (fun H locs hPM hPC hS => ?_)
  refine lv_icmp_eq (tgt := 1383) hx hb dL_law_685 (by decide) (fun _ => ?_) (fun c9 => absurd rfl c9)
  exact l_next C0 hPC hPM hS hl hR2 kk
set_option maxRecDepth 100000 in
set_option maxHeartbeats 4000000 in
theorem lc_16 {p : Program} {l : Launch} {e : Env} {s : State} {m : MethodId} {below : List Frame} {meth : Method} {c : Code} {H : Heap} {locs : List Loc} {cells slots : Nat} {Q : State → Prop} {ls : Array Slot} {D : va_G} {tc : Nat → ClassId} {E : (Nat → Nat) × (Nat → Nat) × Nat} {h0 b L n : Nat} {xs : Nat → Int32} {gC gM : c_G} (C0 : l_C p s m c D tc h0 E b L xs) (hn : n + 6 ≤ L) (hcr : cells ≤ room_1.cells) (hsr : slots ≤ room_1.slots) (I0 : l_I s D tc h0 b n gC gM H locs ls) (kk : l_K p l e s m below meth c D tc h0 b cells slots Q n) : W p l e room_1 s m #[Value.ref b] below meth c H locs cells slots Q (F0 m 690 ls []) := by
  obtain ⟨hx, hb, hml, hown, hts, hK, hE, hX, hbl, hh, hL⟩ := id C0
  obtain ⟨hPC, hPM, hS, hl, hR⟩ := I0
  obtain ⟨gC2, gM2, r, f1, f2, hR2⟩ := e_teach hR (xs (n + 1)) (xs (n + 2)) (xs (n + 3))
  have hbA : ¬ n_A h0 b := by unfold n_A; omega
  refine lv_aload_n hx hb dL_law_690 rfl (lv_at hl 2 rfl) ?_
  refine l_rd hx hb hX hbl hbA hS hn hL 1 (by decide) hl (by decide) dL_law_691 dL_law_692 dL_law_693 dL_law_694 dL_law_695 ?_
  refine l_rd hx hb hX hbl hbA hS hn hL 2 (by decide) hl (by decide) dL_law_696 dL_law_697 dL_law_698 dL_law_699 dL_law_700 ?_
  refine l_rd hx hb hX hbl hbA hS hn hL 3 (by decide) hl (by decide) dL_law_701 dL_law_702 dL_law_703 dL_law_704 dL_law_705 ?_
  refine l_goi (va_runV (As := [.int (xs (n + 1)), .int (xs (n + 2)), .int (xs (n + 3))]) (rest := []) ⟨hx, hb, hml, hown, hts⟩ (kX11_teach (l_D1 h0) f1) (cwV 3 hts gL_law_X11_teach rfl rfl rfl (by decide +kernel) ⟨Nat.le_of_ble_eq_true rfl, Nat.le_of_ble_eq_true rfl⟩) (l_preV hK hPC hE hS l_s1 tC0 rfl) rfl rfl hl.1 rfl (lv_room (Nat.le_of_ble_eq_true rfl)) dL_law_706 ⟨hcr, hsr⟩) hS l_s1 hPM l_n1 (fun H locs hPC hPM hS => ?_)
  refine lv_aload_n hx hb dL_law_709 rfl (lv_at hl 1 rfl) ?_
  refine l_rd hx hb hX hbl hbA hS hn hL 1 (by decide) hl (by decide) dL_law_710 dL_law_711 dL_law_712 dL_law_713 dL_law_714 ?_
  refine l_rd hx hb hX hbl hbA hS hn hL 2 (by decide) hl (by decide) dL_law_715 dL_law_716 dL_law_717 dL_law_718 dL_law_719 ?_
  refine l_rd hx hb hX hbl hbA hS hn hL 3 (by decide) hl (by decide) dL_law_720 dL_law_721 dL_law_722 dL_law_723 dL_law_724 ?_
  refine l_goi (va_runV (As := [.int (xs (n + 1)), .int (xs (n + 2)), .int (xs (n + 3))]) (rest := [.int r]) ⟨hx, hb, hml, hown, hts⟩ (kX12_teach (l_D2 h0) f2) (cwV 3 hts gL_law_X12_teach rfl rfl rfl (by decide +kernel) ⟨Nat.le_of_ble_eq_true rfl, Nat.le_of_ble_eq_true rfl⟩) (l_preV hK hPM hE hS l_s2 tM0 rfl) rfl rfl hl.1 rfl (lv_room (Nat.le_of_ble_eq_true rfl)) dL_law_725 ⟨hcr, hsr⟩) hS l_s2 hPC l_n2 (fun H locs hPM hPC hS => ?_)
  refine lv_icmp_eq (tgt := 1383) hx hb dL_law_728 (by decide) (fun _ => ?_) (fun c9 => absurd rfl c9)
  exact l_next C0 hPC hPM hS hl hR2 kk
set_option maxRecDepth 100000 in
set_option maxHeartbeats 4000000 in
theorem lc_17 {p : Program} {l : Launch} {e : Env} {s : State} {m : MethodId} {below : List Frame} {meth : Method} {c : Code} {H : Heap} {locs : List Loc} {cells slots : Nat} {Q : State → Prop} {ls : Array Slot} {D : va_G} {tc : Nat → ClassId} {E : (Nat → Nat) × (Nat → Nat) × Nat} {h0 b L n : Nat} {xs : Nat → Int32} {gC gM : c_G} (C0 : l_C p s m c D tc h0 E b L xs) (hn : n + 6 ≤ L) (hcr : cells ≤ room_1.cells) (hsr : slots ≤ room_1.slots) (I0 : l_I s D tc h0 b n gC gM H locs ls) (kk : l_K p l e s m below meth c D tc h0 b cells slots Q n) : W p l e room_1 s m #[Value.ref b] below meth c H locs cells slots Q (F0 m 733 ls []) := by
  obtain ⟨hx, hb, hml, hown, hts, hK, hE, hX, hbl, hh, hL⟩ := id C0
  obtain ⟨hPC, hPM, hS, hl, hR⟩ := I0
  obtain ⟨gC2, gM2, r, f1, f2, hR2⟩ := e_hear hR (xs (n + 1)) (xs (n + 2)) (xs (n + 3))
  have hbA : ¬ n_A h0 b := by unfold n_A; omega
  refine lv_aload_n hx hb dL_law_733 rfl (lv_at hl 2 rfl) ?_
  refine l_rd hx hb hX hbl hbA hS hn hL 1 (by decide) hl (by decide) dL_law_734 dL_law_735 dL_law_736 dL_law_737 dL_law_738 ?_
  refine l_rd hx hb hX hbl hbA hS hn hL 2 (by decide) hl (by decide) dL_law_739 dL_law_740 dL_law_741 dL_law_742 dL_law_743 ?_
  refine l_rd hx hb hX hbl hbA hS hn hL 3 (by decide) hl (by decide) dL_law_744 dL_law_745 dL_law_746 dL_law_747 dL_law_748 ?_
  refine l_goi (va_runV (As := [.int (xs (n + 1)), .int (xs (n + 2)), .int (xs (n + 3))]) (rest := []) ⟨hx, hb, hml, hown, hts⟩ (kX11_hear (l_D1 h0) f1) (cwV 3 hts gL_law_X11_hear rfl rfl rfl (by decide +kernel) ⟨Nat.le_of_ble_eq_true rfl, Nat.le_of_ble_eq_true rfl⟩) (l_preV hK hPC hE hS l_s1 tC0 rfl) rfl rfl hl.1 rfl (lv_room (Nat.le_of_ble_eq_true rfl)) dL_law_749 ⟨hcr, hsr⟩) hS l_s1 hPM l_n1 (fun H locs hPC hPM hS => ?_)
  refine lv_aload_n hx hb dL_law_752 rfl (lv_at hl 1 rfl) ?_
  refine l_rd hx hb hX hbl hbA hS hn hL 1 (by decide) hl (by decide) dL_law_753 dL_law_754 dL_law_755 dL_law_756 dL_law_757 ?_
  refine l_rd hx hb hX hbl hbA hS hn hL 2 (by decide) hl (by decide) dL_law_758 dL_law_759 dL_law_760 dL_law_761 dL_law_762 ?_
  refine l_rd hx hb hX hbl hbA hS hn hL 3 (by decide) hl (by decide) dL_law_763 dL_law_764 dL_law_765 dL_law_766 dL_law_767 ?_
  refine l_goi (va_runV (As := [.int (xs (n + 1)), .int (xs (n + 2)), .int (xs (n + 3))]) (rest := [.int r]) ⟨hx, hb, hml, hown, hts⟩ (kX12_hear (l_D2 h0) f2) (cwV 3 hts gL_law_X12_hear rfl rfl rfl (by decide +kernel) ⟨Nat.le_of_ble_eq_true rfl, Nat.le_of_ble_eq_true rfl⟩) (l_preV hK hPM hE hS l_s2 tM0 rfl) rfl rfl hl.1 rfl (lv_room (Nat.le_of_ble_eq_true rfl)) dL_law_768 ⟨hcr, hsr⟩) hS l_s2 hPC l_n2 (fun H locs hPM hPC hS => ?_)
  refine lv_icmp_eq (tgt := 1383) hx hb dL_law_771 (by decide) (fun _ => ?_) (fun c9 => absurd rfl c9)
  exact l_next C0 hPC hPM hS hl hR2 kk
set_option maxRecDepth 100000 in
set_option maxHeartbeats 4000000 in
theorem lc_18 {p : Program} {l : Launch} {e : Env} {s : State} {m : MethodId} {below : List Frame} {meth : Method} {c : Code} {H : Heap} {locs : List Loc} {cells slots : Nat} {Q : State → Prop} {ls : Array Slot} {D : va_G} {tc : Nat → ClassId} {E : (Nat → Nat) × (Nat → Nat) × Nat} {h0 b L n : Nat} {xs : Nat → Int32} {gC gM : c_G} (C0 : l_C p s m c D tc h0 E b L xs) (hn : n + 6 ≤ L) (hcr : cells ≤ room_1.cells) (hsr : slots ≤ room_1.slots) (I0 : l_I s D tc h0 b n gC gM H locs ls) (kk : l_K p l e s m below meth c D tc h0 b cells slots Q n) : W p l e room_1 s m #[Value.ref b] below meth c H locs cells slots Q (F0 m 776 ls []) := by
  obtain ⟨hx, hb, hml, hown, hts, hK, hE, hX, hbl, hh, hL⟩ := id C0
  obtain ⟨hPC, hPM, hS, hl, hR⟩ := I0
  obtain ⟨gC2, gM2, r, f1, f2, hR2⟩ := e_can hR (xs (n + 1)) (xs (n + 2))
  have hbA : ¬ n_A h0 b := by unfold n_A; omega
  refine lv_aload_n hx hb dL_law_776 rfl (lv_at hl 2 rfl) ?_
  refine l_rd hx hb hX hbl hbA hS hn hL 1 (by decide) hl (by decide) dL_law_777 dL_law_778 dL_law_779 dL_law_780 dL_law_781 ?_
  refine l_rd hx hb hX hbl hbA hS hn hL 2 (by decide) hl (by decide) dL_law_782 dL_law_783 dL_law_784 dL_law_785 dL_law_786 ?_
  refine l_goi (va_runV (As := [.int (xs (n + 1)), .int (xs (n + 2))]) (rest := []) ⟨hx, hb, hml, hown, hts⟩ (kX11_can (l_D1 h0) f1) (cwV 2 hts gL_law_X11_can rfl rfl rfl (by decide +kernel) ⟨Nat.le_of_ble_eq_true rfl, Nat.le_of_ble_eq_true rfl⟩) (l_preV hK hPC hE hS l_s1 tC0 rfl) rfl rfl hl.1 rfl (lv_room (Nat.le_of_ble_eq_true rfl)) dL_law_787 ⟨hcr, hsr⟩) hS l_s1 hPM l_n1 (fun H locs hPC hPM hS => ?_)
  refine lv_aload_n hx hb dL_law_790 rfl (lv_at hl 1 rfl) ?_
  refine l_rd hx hb hX hbl hbA hS hn hL 1 (by decide) hl (by decide) dL_law_791 dL_law_792 dL_law_793 dL_law_794 dL_law_795 ?_
  refine l_rd hx hb hX hbl hbA hS hn hL 2 (by decide) hl (by decide) dL_law_796 dL_law_797 dL_law_798 dL_law_799 dL_law_800 ?_
  refine l_goi (va_runV (As := [.int (xs (n + 1)), .int (xs (n + 2))]) (rest := [.int r]) ⟨hx, hb, hml, hown, hts⟩ (kX12_can (l_D2 h0) f2) (cwV 2 hts gL_law_X12_can rfl rfl rfl (by decide +kernel) ⟨Nat.le_of_ble_eq_true rfl, Nat.le_of_ble_eq_true rfl⟩) (l_preV hK hPM hE hS l_s2 tM0 rfl) rfl rfl hl.1 rfl (lv_room (Nat.le_of_ble_eq_true rfl)) dL_law_801 ⟨hcr, hsr⟩) hS l_s2 hPC l_n2 (fun H locs hPM hPC hS => ?_)
  refine lv_icmp_eq (tgt := 1383) hx hb dL_law_804 (by decide) (fun _ => ?_) (fun c9 => absurd rfl c9)
  exact l_next C0 hPC hPM hS hl hR2 kk
set_option maxRecDepth 100000 in
set_option maxHeartbeats 4000000 in
theorem lc_19 {p : Program} {l : Launch} {e : Env} {s : State} {m : MethodId} {below : List Frame} {meth : Method} {c : Code} {H : Heap} {locs : List Loc} {cells slots : Nat} {Q : State → Prop} {ls : Array Slot} {D : va_G} {tc : Nat → ClassId} {E : (Nat → Nat) × (Nat → Nat) × Nat} {h0 b L n : Nat} {xs : Nat → Int32} {gC gM : c_G} (C0 : l_C p s m c D tc h0 E b L xs) (hn : n + 6 ≤ L) (hcr : cells ≤ room_1.cells) (hsr : slots ≤ room_1.slots) (I0 : l_I s D tc h0 b n gC gM H locs ls) (kk : l_K p l e s m below meth c D tc h0 b cells slots Q n) : W p l e room_1 s m #[Value.ref b] below meth c H locs cells slots Q (F0 m 809 ls []) := by
  obtain ⟨hx, hb, hml, hown, hts, hK, hE, hX, hbl, hh, hL⟩ := id C0
  obtain ⟨hPC, hPM, hS, hl, hR⟩ := I0
  obtain ⟨gC2, gM2, r, f1, f2, hR2⟩ := e_odds hR (xs (n + 1)) (xs (n + 2)) (xs (n + 3))
  have hbA : ¬ n_A h0 b := by unfold n_A; omega
  refine lv_aload_n hx hb dL_law_809 rfl (lv_at hl 2 rfl) ?_
  refine l_rd hx hb hX hbl hbA hS hn hL 1 (by decide) hl (by decide) dL_law_810 dL_law_811 dL_law_812 dL_law_813 dL_law_814 ?_
  refine l_rd hx hb hX hbl hbA hS hn hL 2 (by decide) hl (by decide) dL_law_815 dL_law_816 dL_law_817 dL_law_818 dL_law_819 ?_
  refine l_rd hx hb hX hbl hbA hS hn hL 3 (by decide) hl (by decide) dL_law_820 dL_law_821 dL_law_822 dL_law_823 dL_law_824 ?_
  refine l_gol (va_runV (As := [.int (xs (n + 1)), .int (xs (n + 2)), .int (xs (n + 3))]) (rest := []) ⟨hx, hb, hml, hown, hts⟩ (kX11_odds (l_D1 h0) f1) (cwV 3 hts gL_law_X11_odds rfl rfl rfl (by decide +kernel) ⟨Nat.le_of_ble_eq_true rfl, Nat.le_of_ble_eq_true rfl⟩) (l_preV hK hPC hE hS l_s1 tC0 rfl) rfl rfl hl.1 rfl (lv_room (Nat.le_of_ble_eq_true rfl)) dL_law_825 ⟨hcr, hsr⟩) hS l_s1 hPM l_n1 (fun H locs hPC hPM hS => ?_)
  refine lv_aload_n hx hb dL_law_828 rfl (lv_at hl 1 rfl) ?_
  refine l_rd hx hb hX hbl hbA hS hn hL 1 (by decide) hl (by decide) dL_law_829 dL_law_830 dL_law_831 dL_law_832 dL_law_833 ?_
  refine l_rd hx hb hX hbl hbA hS hn hL 2 (by decide) hl (by decide) dL_law_834 dL_law_835 dL_law_836 dL_law_837 dL_law_838 ?_
  refine l_rd hx hb hX hbl hbA hS hn hL 3 (by decide) hl (by decide) dL_law_839 dL_law_840 dL_law_841 dL_law_842 dL_law_843 ?_
  refine l_gol (va_runV (As := [.int (xs (n + 1)), .int (xs (n + 2)), .int (xs (n + 3))]) (rest := [.long r]) ⟨hx, hb, hml, hown, hts⟩ (kX12_odds (l_D2 h0) f2) (cwV 3 hts gL_law_X12_odds rfl rfl rfl (by decide +kernel) ⟨Nat.le_of_ble_eq_true rfl, Nat.le_of_ble_eq_true rfl⟩) (l_preV hK hPM hE hS l_s2 tM0 rfl) rfl rfl hl.1 rfl (lv_room (Nat.le_of_ble_eq_true rfl)) dL_law_844 ⟨hcr, hsr⟩) hS l_s2 hPC l_n2 (fun H locs hPM hPC hS => ?_)
  refine W.lcmp hx hb dL_law_847 ?_
  refine lv_if_eq (tgt := 1383) hx hb dL_law_848 (by decide) (fun _ => ?_) (fun c9 => absurd (l_cmp r) c9)
  exact l_next C0 hPC hPM hS hl hR2 kk
set_option maxRecDepth 100000 in
set_option maxHeartbeats 4000000 in
theorem lc_20 {p : Program} {l : Launch} {e : Env} {s : State} {m : MethodId} {below : List Frame} {meth : Method} {c : Code} {H : Heap} {locs : List Loc} {cells slots : Nat} {Q : State → Prop} {ls : Array Slot} {D : va_G} {tc : Nat → ClassId} {E : (Nat → Nat) × (Nat → Nat) × Nat} {h0 b L n : Nat} {xs : Nat → Int32} {gC gM : c_G} (C0 : l_C p s m c D tc h0 E b L xs) (hn : n + 6 ≤ L) (hcr : cells ≤ room_1.cells) (hsr : slots ≤ room_1.slots) (I0 : l_I s D tc h0 b n gC gM H locs ls) (kk : l_K p l e s m below meth c D tc h0 b cells slots Q n) : W p l e room_1 s m #[Value.ref b] below meth c H locs cells slots Q (F0 m 853 ls []) := by
  obtain ⟨hx, hb, hml, hown, hts, hK, hE, hX, hbl, hh, hL⟩ := id C0
  obtain ⟨hPC, hPM, hS, hl, hR⟩ := I0
  obtain ⟨gC2, gM2, r, f1, f2, hR2⟩ := e_mean hR (xs (n + 1)) (xs (n + 2))
  have hbA : ¬ n_A h0 b := by unfold n_A; omega
  refine lv_aload_n hx hb dL_law_853 rfl (lv_at hl 2 rfl) ?_
  refine l_rd hx hb hX hbl hbA hS hn hL 1 (by decide) hl (by decide) dL_law_854 dL_law_855 dL_law_856 dL_law_857 dL_law_858 ?_
  refine l_rd hx hb hX hbl hbA hS hn hL 2 (by decide) hl (by decide) dL_law_859 dL_law_860 dL_law_861 dL_law_862 dL_law_863 ?_
  refine l_gol (va_runV (As := [.int (xs (n + 1)), .int (xs (n + 2))]) (rest := []) ⟨hx, hb, hml, hown, hts⟩ (kX11_mean (l_D1 h0) f1) (cwV 2 hts gL_law_X11_mean rfl rfl rfl (by decide +kernel) ⟨Nat.le_of_ble_eq_true rfl, Nat.le_of_ble_eq_true rfl⟩) (l_preV hK hPC hE hS l_s1 tC0 rfl) rfl rfl hl.1 rfl (lv_room (Nat.le_of_ble_eq_true rfl)) dL_law_864 ⟨hcr, hsr⟩) hS l_s1 hPM l_n1 (fun H locs hPC hPM hS => ?_)
  refine lv_aload_n hx hb dL_law_867 rfl (lv_at hl 1 rfl) ?_
  refine l_rd hx hb hX hbl hbA hS hn hL 1 (by decide) hl (by decide) dL_law_868 dL_law_869 dL_law_870 dL_law_871 dL_law_872 ?_
  refine l_rd hx hb hX hbl hbA hS hn hL 2 (by decide) hl (by decide) dL_law_873 dL_law_874 dL_law_875 dL_law_876 dL_law_877 ?_
  refine l_gol (va_runV (As := [.int (xs (n + 1)), .int (xs (n + 2))]) (rest := [.long r]) ⟨hx, hb, hml, hown, hts⟩ (kX12_mean (l_D2 h0) f2) (cwV 2 hts gL_law_X12_mean rfl rfl rfl (by decide +kernel) ⟨Nat.le_of_ble_eq_true rfl, Nat.le_of_ble_eq_true rfl⟩) (l_preV hK hPM hE hS l_s2 tM0 rfl) rfl rfl hl.1 rfl (lv_room (Nat.le_of_ble_eq_true rfl)) dL_law_878 ⟨hcr, hsr⟩) hS l_s2 hPC l_n2 (fun H locs hPM hPC hS => ?_)
  refine W.lcmp hx hb dL_law_881 ?_
  refine lv_if_eq (tgt := 1383) hx hb dL_law_882 (by decide) (fun _ => ?_) (fun c9 => absurd (l_cmp r) c9)
  exact l_next C0 hPC hPM hS hl hR2 kk
set_option maxRecDepth 100000 in
set_option maxHeartbeats 4000000 in
theorem lc_21 {p : Program} {l : Launch} {e : Env} {s : State} {m : MethodId} {below : List Frame} {meth : Method} {c : Code} {H : Heap} {locs : List Loc} {cells slots : Nat} {Q : State → Prop} {ls : Array Slot} {D : va_G} {tc : Nat → ClassId} {E : (Nat → Nat) × (Nat → Nat) × Nat} {h0 b L n : Nat} {xs : Nat → Int32} {gC gM : c_G} (C0 : l_C p s m c D tc h0 E b L xs) (hn : n + 6 ≤ L) (hcr : cells ≤ room_1.cells) (hsr : slots ≤ room_1.slots) (I0 : l_I s D tc h0 b n gC gM H locs ls) (kk : l_K p l e s m below meth c D tc h0 b cells slots Q n) : W p l e room_1 s m #[Value.ref b] below meth c H locs cells slots Q (F0 m 887 ls []) := by
  obtain ⟨hx, hb, hml, hown, hts, hK, hE, hX, hbl, hh, hL⟩ := id C0
  obtain ⟨hPC, hPM, hS, hl, hR⟩ := I0
  obtain ⟨gC2, gM2, r, f1, f2, hR2⟩ := e_plan hR (xs (n + 1)) (xs (n + 2))
  have hbA : ¬ n_A h0 b := by unfold n_A; omega
  refine lv_aload_n hx hb dL_law_887 rfl (lv_at hl 2 rfl) ?_
  refine l_rd hx hb hX hbl hbA hS hn hL 1 (by decide) hl (by decide) dL_law_888 dL_law_889 dL_law_890 dL_law_891 dL_law_892 ?_
  refine l_rd hx hb hX hbl hbA hS hn hL 2 (by decide) hl (by decide) dL_law_893 dL_law_894 dL_law_895 dL_law_896 dL_law_897 ?_
  refine l_goi (va_runV (As := [.int (xs (n + 1)), .int (xs (n + 2))]) (rest := []) ⟨hx, hb, hml, hown, hts⟩ (kX11_plan (l_D1 h0) f1) (cwV 2 hts gL_law_X11_plan rfl rfl rfl (by decide +kernel) ⟨Nat.le_of_ble_eq_true rfl, Nat.le_of_ble_eq_true rfl⟩) (l_preV hK hPC hE hS l_s1 tC0 rfl) rfl rfl hl.1 rfl (lv_room (Nat.le_of_ble_eq_true rfl)) dL_law_898 ⟨hcr, hsr⟩) hS l_s1 hPM l_n1 (fun H locs hPC hPM hS => ?_)
  refine lv_aload_n hx hb dL_law_901 rfl (lv_at hl 1 rfl) ?_
  refine l_rd hx hb hX hbl hbA hS hn hL 1 (by decide) hl (by decide) dL_law_902 dL_law_903 dL_law_904 dL_law_905 dL_law_906 ?_
  refine l_rd hx hb hX hbl hbA hS hn hL 2 (by decide) hl (by decide) dL_law_907 dL_law_908 dL_law_909 dL_law_910 dL_law_911 ?_
  refine l_goi (va_runV (As := [.int (xs (n + 1)), .int (xs (n + 2))]) (rest := [.int r]) ⟨hx, hb, hml, hown, hts⟩ (kX12_plan (l_D2 h0) f2) (cwV 2 hts gL_law_X12_plan rfl rfl rfl (by decide +kernel) ⟨Nat.le_of_ble_eq_true rfl, Nat.le_of_ble_eq_true rfl⟩) (l_preV hK hPM hE hS l_s2 tM0 rfl) rfl rfl hl.1 rfl (lv_room (Nat.le_of_ble_eq_true rfl)) dL_law_912 ⟨hcr, hsr⟩) hS l_s2 hPC l_n2 (fun H locs hPM hPC hS => ?_)
  refine lv_icmp_eq (tgt := 1383) hx hb dL_law_915 (by decide) (fun _ => ?_) (fun c9 => absurd rfl c9)
  exact l_next C0 hPC hPM hS hl hR2 kk
set_option maxRecDepth 100000 in
set_option maxHeartbeats 4000000 in
theorem lc_22 {p : Program} {l : Launch} {e : Env} {s : State} {m : MethodId} {below : List Frame} {meth : Method} {c : Code} {H : Heap} {locs : List Loc} {cells slots : Nat} {Q : State → Prop} {ls : Array Slot} {D : va_G} {tc : Nat → ClassId} {E : (Nat → Nat) × (Nat → Nat) × Nat} {h0 b L n : Nat} {xs : Nat → Int32} {gC gM : c_G} (C0 : l_C p s m c D tc h0 E b L xs) (hn : n + 6 ≤ L) (hcr : cells ≤ room_1.cells) (hsr : slots ≤ room_1.slots) (I0 : l_I s D tc h0 b n gC gM H locs ls) (kk : l_K p l e s m below meth c D tc h0 b cells slots Q n) : W p l e room_1 s m #[Value.ref b] below meth c H locs cells slots Q (F0 m 920 ls []) := by
  obtain ⟨hx, hb, hml, hown, hts, hK, hE, hX, hbl, hh, hL⟩ := id C0
  obtain ⟨hPC, hPM, hS, hl, hR⟩ := I0
  obtain ⟨gC2, gM2, r, f1, f2, hR2⟩ := e_ends hR (xs (n + 1))
  have hbA : ¬ n_A h0 b := by unfold n_A; omega
  refine lv_aload_n hx hb dL_law_920 rfl (lv_at hl 2 rfl) ?_
  refine l_rd hx hb hX hbl hbA hS hn hL 1 (by decide) hl (by decide) dL_law_921 dL_law_922 dL_law_923 dL_law_924 dL_law_925 ?_
  refine l_goi (va_runV (As := [.int (xs (n + 1))]) (rest := []) ⟨hx, hb, hml, hown, hts⟩ (kX11_ends (l_D1 h0) f1) (cwV 1 hts gL_law_X11_ends rfl rfl rfl (by decide +kernel) ⟨Nat.le_of_ble_eq_true rfl, Nat.le_of_ble_eq_true rfl⟩) (l_preV hK hPC hE hS l_s1 tC0 rfl) rfl rfl hl.1 rfl (lv_room (Nat.le_of_ble_eq_true rfl)) dL_law_926 ⟨hcr, hsr⟩) hS l_s1 hPM l_n1 (fun H locs hPC hPM hS => ?_)
  refine lv_aload_n hx hb dL_law_929 rfl (lv_at hl 1 rfl) ?_
  refine l_rd hx hb hX hbl hbA hS hn hL 1 (by decide) hl (by decide) dL_law_930 dL_law_931 dL_law_932 dL_law_933 dL_law_934 ?_
  refine l_goi (va_runV (As := [.int (xs (n + 1))]) (rest := [.int r]) ⟨hx, hb, hml, hown, hts⟩ (kX12_ends (l_D2 h0) f2) (cwV 1 hts gL_law_X12_ends rfl rfl rfl (by decide +kernel) ⟨Nat.le_of_ble_eq_true rfl, Nat.le_of_ble_eq_true rfl⟩) (l_preV hK hPM hE hS l_s2 tM0 rfl) rfl rfl hl.1 rfl (lv_room (Nat.le_of_ble_eq_true rfl)) dL_law_935 ⟨hcr, hsr⟩) hS l_s2 hPC l_n2 (fun H locs hPM hPC hS => ?_)
  refine lv_icmp_eq (tgt := 1383) hx hb dL_law_938 (by decide) (fun _ => ?_) (fun c9 => absurd rfl c9)
  exact l_next C0 hPC hPM hS hl hR2 kk
set_option maxRecDepth 100000 in
set_option maxHeartbeats 4000000 in
theorem lc_23 {p : Program} {l : Launch} {e : Env} {s : State} {m : MethodId} {below : List Frame} {meth : Method} {c : Code} {H : Heap} {locs : List Loc} {cells slots : Nat} {Q : State → Prop} {ls : Array Slot} {D : va_G} {tc : Nat → ClassId} {E : (Nat → Nat) × (Nat → Nat) × Nat} {h0 b L n : Nat} {xs : Nat → Int32} {gC gM : c_G} (C0 : l_C p s m c D tc h0 E b L xs) (hn : n + 6 ≤ L) (hcr : cells ≤ room_1.cells) (hsr : slots ≤ room_1.slots) (I0 : l_I s D tc h0 b n gC gM H locs ls) (kk : l_K p l e s m below meth c D tc h0 b cells slots Q n) : W p l e room_1 s m #[Value.ref b] below meth c H locs cells slots Q (F0 m 943 ls []) := by
  obtain ⟨hx, hb, hml, hown, hts, hK, hE, hX, hbl, hh, hL⟩ := id C0
  obtain ⟨hPC, hPM, hS, hl, hR⟩ := I0
  obtain ⟨gC2, gM2, r, f1, f2, hR2⟩ := e_book hR (xs (n + 1)) (xs (n + 2))
  have hbA : ¬ n_A h0 b := by unfold n_A; omega
  refine lv_aload_n hx hb dL_law_943 rfl (lv_at hl 2 rfl) ?_
  refine l_rd hx hb hX hbl hbA hS hn hL 1 (by decide) hl (by decide) dL_law_944 dL_law_945 dL_law_946 dL_law_947 dL_law_948 ?_
  refine l_rd hx hb hX hbl hbA hS hn hL 2 (by decide) hl (by decide) dL_law_949 dL_law_950 dL_law_951 dL_law_952 dL_law_953 ?_
  refine l_goi (va_runV (As := [.int (xs (n + 1)), .int (xs (n + 2))]) (rest := []) ⟨hx, hb, hml, hown, hts⟩ (kX11_book (l_D1 h0) f1) (cwV 2 hts gL_law_X11_book rfl rfl rfl (by decide +kernel) ⟨Nat.le_of_ble_eq_true rfl, Nat.le_of_ble_eq_true rfl⟩) (l_preV hK hPC hE hS l_s1 tC0 rfl) rfl rfl hl.1 rfl (lv_room (Nat.le_of_ble_eq_true rfl)) dL_law_954 ⟨hcr, hsr⟩) hS l_s1 hPM l_n1 (fun H locs hPC hPM hS => ?_)
  refine lv_aload_n hx hb dL_law_957 rfl (lv_at hl 1 rfl) ?_
  refine l_rd hx hb hX hbl hbA hS hn hL 1 (by decide) hl (by decide) dL_law_958 dL_law_959 dL_law_960 dL_law_961 dL_law_962 ?_
  refine l_rd hx hb hX hbl hbA hS hn hL 2 (by decide) hl (by decide) dL_law_963 dL_law_964 dL_law_965 dL_law_966 dL_law_967 ?_
  refine l_goi (va_runV (As := [.int (xs (n + 1)), .int (xs (n + 2))]) (rest := [.int r]) ⟨hx, hb, hml, hown, hts⟩ (kX12_book (l_D2 h0) f2) (cwV 2 hts gL_law_X12_book rfl rfl rfl (by decide +kernel) ⟨Nat.le_of_ble_eq_true rfl, Nat.le_of_ble_eq_true rfl⟩) (l_preV hK hPM hE hS l_s2 tM0 rfl) rfl rfl hl.1 rfl (lv_room (Nat.le_of_ble_eq_true rfl)) dL_law_968 ⟨hcr, hsr⟩) hS l_s2 hPC l_n2 (fun H locs hPM hPC hS => ?_)
  refine lv_icmp_eq (tgt := 1383) hx hb dL_law_971 (by decide) (fun _ => ?_) (fun c9 => absurd rfl c9)
  exact l_next C0 hPC hPM hS hl hR2 kk
