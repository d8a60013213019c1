/-! PURE: sets of words, as bits -/
def b_bit (x : Int32) (w : Nat) : Bool := x.toBitVec.getLsbD w
theorem b_sm : ∀ w, w < 31 → ((nI w &&& 31).toBitVec.smod 32).toNat = w := by decide +kernel
theorem b_one {w : Nat} (hw : w < 31) : (1 : Int32) <<< (nI w &&& 31) = nI (2 ^ w) := by
  have h := pk_shlN (n := 1) (nI w &&& 31) w (b_sm w hw) (by rw [Nat.one_mul]; exact Nat.pow_lt_pow_right (by decide) (by omega))
  rwa [Nat.one_mul] at h
theorem b_nI {k w : Nat} (hk : k < 2 ^ 32) : b_bit (nI k) w = k.testBit w := by
  show (nI k).toBitVec.toNat.testBit w = _
  rw [pk_tn hk]
theorem b_and (x y : Int32) (w : Nat) : b_bit (x &&& y) w = (b_bit x w && b_bit y w) := by
  unfold b_bit
  rw [Int32.toBitVec_and, BitVec.getLsbD_and]
theorem b_or (x y : Int32) (w : Nat) : b_bit (x ||| y) w = (b_bit x w || b_bit y w) := by
  unfold b_bit
  rw [Int32.toBitVec_or, BitVec.getLsbD_or]
theorem b_xor (x y : Int32) (w : Nat) : b_bit (x ^^^ y) w = (b_bit x w ^^ b_bit y w) := by
  unfold b_bit
  rw [Int32.toBitVec_xor, BitVec.getLsbD_xor]
theorem b_m1 : ∀ w, w < 32 → b_bit (-1) w = true := by decide +kernel
theorem b_not (x : Int32) {w : Nat} (hw : w < 32) : b_bit (x ^^^ (-1)) w = !b_bit x w := by
  rw [b_xor, b_m1 w hw, Bool.xor_true]
theorem b_pow {k w : Nat} (hk : k < 31) : b_bit ((1 : Int32) <<< (nI k &&& 31)) w = decide (w = k) := by
  rw [b_one hk, b_nI (Nat.pow_lt_pow_right (by decide) (by omega)), Nat.testBit_two_pow]
  by_cases q : w = k
  · subst q; simp
  · simp [q, Ne.symm q]
theorem b_ext {x y : Int32} (h : ∀ w, w < 32 → b_bit x w = b_bit y w) : x = y := by
  apply Int32.toBitVec_inj.mp
  exact BitVec.eq_of_getLsbD_eq fun i hi => h i hi
theorem b_zero (w : Nat) : b_bit 0 w = false := by
  unfold b_bit
  exact BitVec.getLsbD_zero
/-- the class asks for a bit so -/
theorem b_shr (x : Int32) {w : Nat} (hw : w < 31) : (x >>> (nI w &&& 31)) &&& (1 : Int32) = if b_bit x w = true then 1 else 0 := by
  apply b_ext
  intro i hi
  have e1 : ∀ i, b_bit 1 i = decide (i = 0) := fun i => by
    show b_bit (nI 1) i = _
    rw [b_nI (by decide)]
    cases i with
    | zero => rfl
    | succ i => simp [Nat.testBit_succ]
  rw [b_and, e1]
  by_cases q : i = 0
  · subst q
    have e2 : b_bit (x >>> (nI w &&& 31)) 0 = b_bit x w := by
      show (x.toBitVec.sshiftRight ((nI w &&& 31).toBitVec.smod 32).toNat).getLsbD 0 = _
      rw [b_sm w hw, BitVec.getLsbD_sshiftRight]
      simp [show w < 32 by omega, b_bit]
    rw [e2]
    by_cases z : b_bit x w = true
    · rw [if_pos z, e1, z]; rfl
    · rw [if_neg z, b_zero]; simp [z]
  · by_cases z : b_bit x w = true
    · rw [if_pos z, e1]; simp [q]
    · rw [if_neg z, b_zero]; simp [q]
theorem b_shr1 (x : Int32) {w : Nat} (hw : w < 31) : ((x >>> (nI w &&& 31)) &&& (1 : Int32) = 1) ↔ b_bit x w = true := by
  rw [b_shr x hw]
  by_cases q : b_bit x w = true
  · rw [if_pos q]; exact ⟨fun _ => q, fun _ => rfl⟩
  · rw [if_neg q]; exact ⟨fun z => absurd z (by decide), fun z => absurd z q⟩
theorem b_shr0 (x : Int32) {w : Nat} (hw : w < 31) : ((x >>> (nI w &&& 31)) &&& (1 : Int32) = 0) ↔ b_bit x w = false := by
  rw [b_shr x hw]
  by_cases q : b_bit x w = true
  · rw [if_pos q, q]; exact ⟨fun z => absurd z (by decide), fun z => by cases z⟩
  · rw [if_neg q]; exact ⟨fun _ => by simpa using q, fun _ => rfl⟩
/-- the reference so -/
theorem b_and0 (x : Int32) {w : Nat} (hw : w < 31) : (x &&& ((1 : Int32) <<< (nI w &&& 31)) = 0) ↔ b_bit x w = false := by
  constructor
  · intro h
    have h2 : b_bit (x &&& ((1 : Int32) <<< (nI w &&& 31))) w = b_bit 0 w := by rw [h]
    rw [b_and, b_pow hw, b_zero] at h2
    simpa using h2
  · intro h
    apply b_ext
    intro i hi
    rw [b_and, b_pow hw, b_zero]
    by_cases q : i = w
    · subst q; simp [h]
    · simp [q]
/-- a number below 4096 is its twelve bits -/
theorem b_N {x : Int32} (h : p_N x 4096) {w : Nat} (hw : 12 ≤ w) : b_bit x w = false := by
  obtain ⟨k, hk, rfl⟩ := h
  rw [b_nI (by omega)]
  exact Nat.testBit_lt_two_pow (Nat.lt_of_lt_of_le hk (show 2 ^ 12 ≤ 2 ^ w from Nat.pow_le_pow_right (by decide) hw))
theorem b_ofN {x : Int32} (h : ∀ w, 12 ≤ w → w < 32 → b_bit x w = false) : p_N x 4096 := by
  refine ⟨x.toBitVec.toNat, ?_, ?_⟩
  · show _ < 2 ^ 12
    apply Nat.lt_pow_two_of_testBit
    intro i hi
    by_cases q : i < 32
    · exact h i hi q
    · exact Nat.testBit_lt_two_pow (Nat.lt_of_lt_of_le x.toBitVec.isLt (Nat.pow_le_pow_right (by decide) (by omega)))
  · apply Int32.toBitVec_inj.mp
    apply BitVec.eq_of_toNat_eq
    rw [pk_tn x.toBitVec.isLt]
