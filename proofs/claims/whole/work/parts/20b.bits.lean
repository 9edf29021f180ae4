/-! ===== Int32 by its bits: bt x i ===== -/
def bt (x : Int32) (i : Nat) : Bool := x.toBitVec.getLsbD i
theorem b_ext {x y : Int32} (h : ∀ i, i < 32 → bt x i = bt y i) : x = y := Int32.toBitVec_inj.mp (BitVec.eq_of_getLsbD_eq (fun i hi => h i hi))
theorem b_or (x y : Int32) (i : Nat) : bt (x ||| y) i = (bt x i || bt y i) := by unfold bt; rw [Int32.toBitVec_or, BitVec.getLsbD_or]
theorem b_and (x y : Int32) (i : Nat) : bt (x &&& y) i = (bt x i && bt y i) := by unfold bt; rw [Int32.toBitVec_and, BitVec.getLsbD_and]
theorem b_xor (x y : Int32) (i : Nat) : bt (x ^^^ y) i = (bt x i ^^ bt y i) := by unfold bt; rw [Int32.toBitVec_xor, BitVec.getLsbD_xor]
theorem b_big {x : Int32} {i : Nat} (h : 32 ≤ i) : bt x i = false := BitVec.getLsbD_of_ge _ _ h
theorem b_255 (i : Nat) : bt 255 i = decide (i < 8) := by
  rcases Nat.lt_or_ge i 32 with h | h
  · exact (by decide +kernel : ∀ i, i < 32 → bt 255 i = decide (i < 8)) i h
  · rw [b_big h, decide_eq_false (by omega)]
theorem b_65535 (i : Nat) : bt 65535 i = decide (i < 16) := by
  rcases Nat.lt_or_ge i 32 with h | h
  · exact (by decide +kernel : ∀ i, i < 32 → bt 65535 i = decide (i < 16)) i h
  · rw [b_big h, decide_eq_false (by omega)]
theorem b_m1 : ∀ i, i < 32 → bt (-1) i = true := by decide +kernel
theorem b_0 (i : Nat) : bt 0 i = false := BitVec.getLsbD_zero
theorem s_l : ∀ n, n < 32 → ((nI n &&& 31).toBitVec.smod 32).toNat = n := by decide +kernel
theorem s_u : ∀ n, n < 32 → (((nI n).toUInt32 &&& Int32.toUInt32 31).toBitVec % 32).toNat = n := by decide +kernel
theorem b_shl (n : Nat) (hn : n < 32) (x : Int32) {i : Nat} (hi : i < 32) : bt (x <<< (nI n &&& 31)) i = (decide (n ≤ i) && bt x (i - n)) := by
  unfold bt
  rw [Int32.toBitVec_shiftLeft]
  show (x.toBitVec <<< ((nI n &&& 31).toBitVec.smod 32).toNat).getLsbD i = _
  rw [s_l n hn, BitVec.getLsbD_shiftLeft]
  rcases Nat.lt_or_ge i n with h | h
  · simp [h, Nat.not_le.mpr h]
  · simp [hi, h, Nat.not_lt.mpr h]
theorem b_ushr (n : Nat) (hn : n < 32) (x : Int32) (i : Nat) : bt ((x.toUInt32 >>> ((nI n).toUInt32 &&& Int32.toUInt32 31)).toInt32) i = bt x (n + i) := by
  show (x.toUInt32 >>> ((nI n).toUInt32 &&& Int32.toUInt32 31)).toBitVec.getLsbD i = x.toUInt32.toBitVec.getLsbD (n + i)
  rw [UInt32.toBitVec_shiftRight]
  show (x.toUInt32.toBitVec >>> (((nI n).toUInt32 &&& Int32.toUInt32 31).toBitVec % 32).toNat).getLsbD i = _
  rw [s_u n hn, BitVec.getLsbD_ushiftRight]
theorem b_sshr (n : Nat) (hn : n < 32) (x : Int32) {i : Nat} (hi : i < 32) : bt (x >>> (nI n &&& 31)) i = if n + i < 32 then bt x (n + i) else bt x 31 := by
  unfold bt
  rw [Int32.toBitVec_shiftRight]
  show (x.toBitVec.sshiftRight ((nI n &&& 31).toBitVec.smod 32).toNat).getLsbD i = _
  rw [s_l n hn, BitVec.getLsbD_sshiftRight, BitVec.msb_eq_getLsbD_last]
  simp [hi]
theorem b_shl8 (x : Int32) {i : Nat} (hi : i < 32) : bt (x <<< ((8 : Int32) &&& 31)) i = (decide (8 ≤ i) && bt x (i - 8)) := b_shl 8 (by omega) x hi
theorem b_shl16 (x : Int32) {i : Nat} (hi : i < 32) : bt (x <<< ((16 : Int32) &&& 31)) i = (decide (16 ≤ i) && bt x (i - 16)) := b_shl 16 (by omega) x hi
theorem b_shl24 (x : Int32) {i : Nat} (hi : i < 32) : bt (x <<< ((24 : Int32) &&& 31)) i = (decide (24 ≤ i) && bt x (i - 24)) := b_shl 24 (by omega) x hi
theorem b_sshr8 (x : Int32) {i : Nat} (hi : i < 32) : bt (x >>> ((8 : Int32) &&& 31)) i = if 8 + i < 32 then bt x (8 + i) else bt x 31 := b_sshr 8 (by omega) x hi
theorem and1_bt (x : Int32) : decide (x &&& 1 = 1) = bt x 0 := by
  rcases and1 x with h | h
  · have e := congrArg (fun z => bt z 0) h
    simp only [b_and, b_0] at e
    rw [h]
    have : bt 1 0 = true := by decide
    rw [this, Bool.and_true] at e
    rw [e]; decide
  · have e := congrArg (fun z => bt z 0) h
    simp only [b_and] at e
    rw [h]
    have : bt 1 0 = true := by decide
    rw [this, Bool.and_true] at e
    rw [e]; decide
theorem bi_bt (x : Int32) {j : Nat} (hj : j < 32) : bi x j = bt x j := by
  unfold bi
  rw [and1_bt, b_sshr j hj x (by decide), Nat.add_zero, if_pos hj]
theorem bi_or (x y : Int32) {j : Nat} (hj : j < 32) : bi (x ||| y) j = (bi x j || bi y j) := by rw [bi_bt _ hj, bi_bt _ hj, bi_bt _ hj, b_or]
theorem bi_and (x y : Int32) {j : Nat} (hj : j < 32) : bi (x &&& y) j = (bi x j && bi y j) := by rw [bi_bt _ hj, bi_bt _ hj, bi_bt _ hj, b_and]
theorem bi_not (x : Int32) {j : Nat} (hj : j < 32) : bi (x ^^^ (-1 : Int32)) j = !bi x j := by rw [bi_bt _ hj, bi_bt _ hj, b_xor, b_m1 j hj, Bool.xor_true]
theorem bi_0 {j : Nat} (hj : j < 32) : bi 0 j = false := by rw [bi_bt _ hj, b_0]
theorem bi_255 {j : Nat} (hj : j < 8) : bi 255 j = true := by rw [bi_bt _ (by omega), b_255, decide_eq_true hj]
theorem and_eq0 {x y : Int32} : x &&& y = 0 ↔ ∀ j, j < 32 → ¬ (bi x j = true ∧ bi y j = true) := by
  constructor
  · intro h j hj q
    have e := congrArg (fun z => bi z j) h
    simp only [bi_and _ _ hj, bi_0 hj, q.1, q.2] at e
    cases e
  · intro h
    refine b_ext (fun j hj => ?_)
    rw [b_and, b_0, ← bi_bt _ hj, ← bi_bt _ hj]
    cases c1 : bi x j
    · rfl
    · cases c2 : bi y j
      · rfl
      · exact absurd ⟨c1, c2⟩ (h j hj)
theorem bi_sh {k j : Nat} (hk : k < 31) (hj : j < 32) : bi ((1 : Int32) <<< (nI k &&& 31)) j = decide (j = k) := by
  have h2 : 2 ^ k ≤ 2 ^ 30 := Nat.pow_le_pow_right (by decide) (by omega)
  rw [sh1 k hk, bi_nat (by omega) hj, Nat.testBit_two_pow]
  by_cases q : k = j
  · subst q; simp
  · rw [decide_eq_false q, decide_eq_false (fun e => q e.symm)]
theorem bi_all {n j : Nat} (hn : n ≤ 30) (hj : j < 32) : bi (((1 : Int32) <<< (nI n &&& 31)) - 1) j = decide (j < n) := by
  have h2 : 2 ^ n ≤ 2 ^ 30 := Nat.pow_le_pow_right (by decide) hn
  have h3 : 0 < 2 ^ n := Nat.two_pow_pos n
  rw [sh1 n (by omega), L1, pk_sub h3, bi_nat (by omega) hj, Nat.testBit_two_pow_sub_one]
