theorem l_and (x : Int32) : ∃ k : Nat, k < 64 ∧ x &&& 63 = nI k := by
  refine ⟨(x &&& 63).toBitVec.toNat, ?_, ?_⟩
  · rw [Int32.toBitVec_and, BitVec.toNat_and]
    exact Nat.lt_of_le_of_lt Nat.and_le_right (by decide)
  · apply Int32.toBitVec_inj.mp
    show _ = BitVec.ofNat 32 _
    simp
theorem l_le {L n : Nat} (hL : L ≤ 3072) (hn : n ≤ 4000) (c : ¬ nI L - 6 < nI n) : n + 6 ≤ L := by
  by_cases h : 6 ≤ L
  · obtain ⟨q, rfl⟩ : ∃ q, L = q + 6 := ⟨L - 6, by omega⟩
    have e : nI (q + 6) - 6 = nI q := by
      rw [← nI_add q 6]
      show nI q + 6 - 6 = nI q
      exact Int32.add_sub_cancel (nI q) 6
    rw [e] at c
    by_cases z : q < n
    · exact absurd (nI_lt z (by omega)) c
    · omega
  · exfalso
    apply c
    have h1 : nI L - 6 < 0 := by
      rcases (show L = 0 ∨ L = 1 ∨ L = 2 ∨ L = 3 ∨ L = 4 ∨ L = 5 by omega) with rfl | rfl | rfl | rfl | rfl | rfl <;> decide
    exact Int32.lt_of_lt_of_le h1 (nI_pos' (by omega))
set_option maxRecDepth 100000 in
set_option maxHeartbeats 4000000 in
theorem l_body {p : Program} {l : Launch} {e : Env} {s : State} {m : MethodId} {below : List Frame} {meth : Method} {c : Code} {H : Heap} {locs : List Loc} {cells slots : Nat} {Q : State → Prop} {ls : Array Slot} {D : va_G} {tc : Nat → ClassId} {E : (Nat → Nat) × (Nat → Nat) × Nat} {h0 b L n : Nat} {xs : Nat → Int32} {gC gM : c_G} (C0 : l_C p s m c D tc h0 E b L xs) (hn : n + 6 ≤ L) (hcr : cells ≤ room_1.cells) (hsr : slots ≤ room_1.slots) (I0 : l_I s D tc h0 b n gC gM H locs ls) (kk : l_K p l e s m below meth c D tc h0 b cells slots Q n) : W p l e room_1 s m #[Value.ref b] below meth c H locs cells slots Q (F0 m 27 ls []) := by
  obtain ⟨hx, hb, hml, hown, htsL, hK, hE, hX, hbl, hh, hL⟩ := id C0
  obtain ⟨hPC, hPM, hS, hl, hR⟩ := id I0
  have hbA : ¬ n_A h0 b := by unfold n_A; omega
  refine lv_aload_n hx hb dL_law_27 rfl (lv_at hl 3 rfl) ?_
  refine lv_iload_n hx hb dL_law_28 rfl (lv_at hl 0 rfl) ?_
  refine va_sld hx hb hX hbl hbA hS (nI_in (by omega) (by omega)) dL_law_29 ?_
  rw [nI_clamp (by omega)]
  refine lv_bipush (v := (63 : Int32)) hx hb dL_law_30 (by decide) ?_
  refine lv_iand hx hb dL_law_32 ?_
  obtain ⟨k, hk, hv⟩ := l_and (xs n)
  refine c_topi hv.symm ?_
  by_cases h36 : k < 36
  · rcases (show k = 0 ∨ k = 1 ∨ k = 2 ∨ k = 3 ∨ k = 4 ∨ k = 5 ∨ k = 6 ∨ k = 7 ∨ k = 8 ∨ k = 9 ∨ k = 10 ∨ k = 11 ∨ k = 12 ∨ k = 13 ∨ k = 14 ∨ k = 15 ∨ k = 16 ∨ k = 17 ∨ k = 18 ∨ k = 19 ∨ k = 20 ∨ k = 21 ∨ k = 22 ∨ k = 23 ∨ k = 24 ∨ k = 25 ∨ k = 26 ∨ k = 27 ∨ k = 28 ∨ k = 29 ∨ k = 30 ∨ k = 31 ∨ k = 32 ∨ k = 33 ∨ k = 34 ∨ k = 35 by omega) with rfl | rfl | rfl | rfl | rfl | rfl | rfl | rfl | rfl | rfl | rfl | rfl | rfl | rfl | rfl | rfl | rfl | rfl | rfl | rfl | rfl | rfl | rfl | rfl | rfl | rfl | rfl | rfl | rfl | rfl | rfl | rfl | rfl | rfl | rfl | rfl
    · refine lv_tableIn (off := 159) (tgt := 192) hx hb dL_law_33 (by decide) (by decide) (by decide) (by decide) ?_
      exact lc_0 C0 hn hcr hsr I0 kk
    · refine lv_tableIn (off := 202) (tgt := 235) hx hb dL_law_33 (by decide) (by decide) (by decide) (by decide) ?_
      exact lc_1 C0 hn hcr hsr I0 kk
    · refine lv_tableIn (off := 235) (tgt := 268) hx hb dL_law_33 (by decide) (by decide) (by decide) (by decide) ?_
      exact lc_2 C0 hn hcr hsr I0 kk
    · refine lv_tableIn (off := 268) (tgt := 301) hx hb dL_law_33 (by decide) (by decide) (by decide) (by decide) ?_
      exact lc_3 C0 hn hcr hsr I0 kk
    · refine lv_tableIn (off := 311) (tgt := 344) hx hb dL_law_33 (by decide) (by decide) (by decide) (by decide) ?_
      exact lc_4 C0 hn hcr hsr I0 kk
    · refine lv_tableIn (off := 344) (tgt := 377) hx hb dL_law_33 (by decide) (by decide) (by decide) (by decide) ?_
      exact lc_5 C0 hn hcr hsr I0 kk
    · refine lv_tableIn (off := 377) (tgt := 410) hx hb dL_law_33 (by decide) (by decide) (by decide) (by decide) ?_
      exact lc_6 C0 hn hcr hsr I0 kk
    · refine lv_tableIn (off := 410) (tgt := 443) hx hb dL_law_33 (by decide) (by decide) (by decide) (by decide) ?_
      exact lc_7 C0 hn hcr hsr I0 kk
    · refine lv_tableIn (off := 453) (tgt := 486) hx hb dL_law_33 (by decide) (by decide) (by decide) (by decide) ?_
      exact lc_8 C0 hn hcr hsr I0 kk
    · refine lv_tableIn (off := 476) (tgt := 509) hx hb dL_law_33 (by decide) (by decide) (by decide) (by decide) ?_
      exact lc_9 C0 hn hcr hsr I0 kk
    · refine lv_tableIn (off := 499) (tgt := 532) hx hb dL_law_33 (by decide) (by decide) (by decide) (by decide) ?_
      exact lc_10 C0 hn hcr hsr I0 kk
    · refine lv_tableIn (off := 542) (tgt := 575) hx hb dL_law_33 (by decide) (by decide) (by decide) (by decide) ?_
      exact lc_11 C0 hn hcr hsr I0 kk
    · refine lv_tableIn (off := 565) (tgt := 598) hx hb dL_law_33 (by decide) (by decide) (by decide) (by decide) ?_
      exact lc_12 C0 hn hcr hsr I0 kk
    · refine lv_tableIn (off := 578) (tgt := 611) hx hb dL_law_33 (by decide) (by decide) (by decide) (by decide) ?_
      exact lc_13 C0 hn hcr hsr I0 kk
    · refine lv_tableIn (off := 601) (tgt := 634) hx hb dL_law_33 (by decide) (by decide) (by decide) (by decide) ?_
      exact lc_14 C0 hn hcr hsr I0 kk
    · refine lv_tableIn (off := 624) (tgt := 657) hx hb dL_law_33 (by decide) (by decide) (by decide) (by decide) ?_
      exact lc_15 C0 hn hcr hsr I0 kk
    · refine lv_tableIn (off := 657) (tgt := 690) hx hb dL_law_33 (by decide) (by decide) (by decide) (by decide) ?_
      exact lc_16 C0 hn hcr hsr I0 kk
    · refine lv_tableIn (off := 700) (tgt := 733) hx hb dL_law_33 (by decide) (by decide) (by decide) (by decide) ?_
      exact lc_17 C0 hn hcr hsr I0 kk
    · refine lv_tableIn (off := 743) (tgt := 776) hx hb dL_law_33 (by decide) (by decide) (by decide) (by decide) ?_
      exact lc_18 C0 hn hcr hsr I0 kk
    · refine lv_tableIn (off := 776) (tgt := 809) hx hb dL_law_33 (by decide) (by decide) (by decide) (by decide) ?_
      exact lc_19 C0 hn hcr hsr I0 kk
    · refine lv_tableIn (off := 820) (tgt := 853) hx hb dL_law_33 (by decide) (by decide) (by decide) (by decide) ?_
      exact lc_20 C0 hn hcr hsr I0 kk
    · refine lv_tableIn (off := 854) (tgt := 887) hx hb dL_law_33 (by decide) (by decide) (by decide) (by decide) ?_
      exact lc_21 C0 hn hcr hsr I0 kk
    · refine lv_tableIn (off := 887) (tgt := 920) hx hb dL_law_33 (by decide) (by decide) (by decide) (by decide) ?_
      exact lc_22 C0 hn hcr hsr I0 kk
    · refine lv_tableIn (off := 910) (tgt := 943) hx hb dL_law_33 (by decide) (by decide) (by decide) (by decide) ?_
      exact lc_23 C0 hn hcr hsr I0 kk
    · refine lv_tableIn (off := 943) (tgt := 976) hx hb dL_law_33 (by decide) (by decide) (by decide) (by decide) ?_
      exact lc_24 C0 hn hcr hsr I0 kk
    · refine lv_tableIn (off := 956) (tgt := 989) hx hb dL_law_33 (by decide) (by decide) (by decide) (by decide) ?_
      exact lc_25 C0 hn hcr hsr I0 kk
    · refine lv_tableIn (off := 989) (tgt := 1022) hx hb dL_law_33 (by decide) (by decide) (by decide) (by decide) ?_
      exact lc_26 C0 hn hcr hsr I0 kk
    · refine lv_tableIn (off := 1002) (tgt := 1035) hx hb dL_law_33 (by decide) (by decide) (by decide) (by decide) ?_
      exact lc_27 C0 hn hcr hsr I0 kk
    · refine lv_tableIn (off := 1015) (tgt := 1048) hx hb dL_law_33 (by decide) (by decide) (by decide) (by decide) ?_
      exact lc_28 C0 hn hcr hsr I0 kk
    · refine lv_tableIn (off := 1058) (tgt := 1091) hx hb dL_law_33 (by decide) (by decide) (by decide) (by decide) ?_
      exact lc_29 C0 hn hcr hsr I0 kk
    · refine lv_tableIn (off := 1081) (tgt := 1114) hx hb dL_law_33 (by decide) (by decide) (by decide) (by decide) ?_
      exact lc_30 C0 hn hcr hsr I0 kk
    · refine lv_tableIn (off := 1114) (tgt := 1147) hx hb dL_law_33 (by decide) (by decide) (by decide) (by decide) ?_
      exact lc_31 C0 hn hcr hsr I0 kk
    · refine lv_tableIn (off := 1137) (tgt := 1170) hx hb dL_law_33 (by decide) (by decide) (by decide) (by decide) ?_
      exact lc_32 C0 hn hcr hsr I0 kk
    · refine lv_tableIn (off := 1180) (tgt := 1213) hx hb dL_law_33 (by decide) (by decide) (by decide) (by decide) ?_
      exact lc_33 C0 hn hcr hsr I0 kk
    · refine lv_tableIn (off := 1253) (tgt := 1286) hx hb dL_law_33 (by decide) (by decide) (by decide) (by decide) ?_
      exact lc_34 C0 hn hcr hsr I0 kk
    · refine lv_tableIn (off := 1287) (tgt := 1320) hx hb dL_law_33 (by decide) (by decide) (by decide) (by decide) ?_
      exact lc_35 C0 hn hcr hsr I0 kk
  · refine lv_tableOut (tgt := 1383) hx hb dL_law_33 (Or.inr (by rw [nI_toInt (by omega)]; omega)) (by decide) ?_
    exact l_next C0 hPC hPM hS hl hR kk
theorem l_loop {p : Program} {l : Launch} {e : Env} {s : State} {m : MethodId} {below : List Frame} {meth : Method} {c : Code} {cells slots : Nat} {Q : State → Prop} {D : va_G} {tc : Nat → ClassId} {E : (Nat → Nat) × (Nat → Nat) × Nat} {h0 b L : Nat} {xs : Nat → Int32} (C0 : l_C p s m c D tc h0 E b L xs) (hcr : cells ≤ room_1.cells) (hsr : slots ≤ room_1.slots)
    (hend : ∀ (H : Heap) (locs : List Loc) (ls : Array Slot), va_S (n_A h0) s.heap H locs → W p l e room_1 s m #[Value.ref b] below meth c H locs cells slots Q (F0 m 1389 ls [])) :
    ∀ (d n : Nat) (gC gM : c_G) (H : Heap) (locs : List Loc) (ls : Array Slot), L + 1 ≤ n + d → n ≤ 4000 → l_I s D tc h0 b n gC gM H locs ls → W p l e room_1 s m #[Value.ref b] below meth c H locs cells slots Q (F0 m 18 ls []) := by
  intro d
  induction d with
  | zero =>
    intro n gC gM H locs ls hd hn4 I0
    obtain ⟨hx, hb, hml, hown, htsL, hK, hE, hX, hbl, hh, hL⟩ := id C0
    obtain ⟨hPC, hPM, hS, hl, hR⟩ := id I0
    have hbA : ¬ n_A h0 b := by unfold n_A; omega
    refine lv_iload_n hx hb dL_law_18 rfl (lv_at hl 0 rfl) ?_
    refine lv_aload_n hx hb dL_law_19 rfl (lv_at hl 3 rfl) ?_
    refine va_slen hx hb hX hbl hbA hS dL_law_20 ?_
    refine lv_bipush (v := (6 : Int32)) hx hb dL_law_21 (by decide) ?_
    refine lv_isub hx hb dL_law_23 ?_
    refine lv_icmp_gt (tgt := 1389) hx hb dL_law_24 (by decide) (fun _ => hend H locs ls hS) (fun q => ?_)
    have hn := l_le hL hn4 q
    omega
  | succ d ih =>
    intro n gC gM H locs ls hd hn4 I0
    obtain ⟨hx, hb, hml, hown, htsL, hK, hE, hX, hbl, hh, hL⟩ := id C0
    obtain ⟨hPC, hPM, hS, hl, hR⟩ := id I0
    have hbA : ¬ n_A h0 b := by unfold n_A; omega
    refine lv_iload_n hx hb dL_law_18 rfl (lv_at hl 0 rfl) ?_
    refine lv_aload_n hx hb dL_law_19 rfl (lv_at hl 3 rfl) ?_
    refine va_slen hx hb hX hbl hbA hS dL_law_20 ?_
    refine lv_bipush (v := (6 : Int32)) hx hb dL_law_21 (by decide) ?_
    refine lv_isub hx hb dL_law_23 ?_
    refine lv_icmp_gt (tgt := 1389) hx hb dL_law_24 (by decide) (fun _ => hend H locs ls hS) (fun q => ?_)
    have hn := l_le hL hn4 q
    exact l_body C0 hn hcr hsr I0 (fun gC gM H locs ls I => ih (n + 6) gC gM H locs ls (by omega) (by omega) I)
