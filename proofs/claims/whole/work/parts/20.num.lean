/-! numbers, bits, rows: what the models mean -/
theorem inb_nI {i n : Nat} (h : i < n) (hn : n < 2 ^ 31) : inb (nI i) n = true := by
  have q : ¬ (nI i < 0 ∨ n ≤ (nI i).toNatClampNeg) := vp_in_nI h hn
  unfold inb
  exact decide_eq_true q
theorem rd_ok {α : Type} {f : Nat → Int32} {n i : Nat} {x : Int32} {k : Int32 → Option α} (e : x = nI i) (h : i < n) (hn : n < 2 ^ 31) : rd f n x k = k (f i) := by
  subst e
  unfold rd
  rw [if_pos (inb_nI h hn), nI_clamp (by omega)]
theorem wr_ok {α : Type} {f : Nat → Int32} {n i : Nat} {x v : Int32} {k : (Nat → Int32) → Option α} (e : x = nI i) (h : i < n) (hn : n < 2 ^ 31) : wr f n x v k = k (upd f i v) := by
  subst e
  unfold wr
  rw [if_pos (inb_nI h hn), nI_clamp (by omega)]
theorem acp_ok {α : Type} {f g : Nat → Int32} {n0 n1 a b n : Nat} {x y z : Int32} {k : (Nat → Int32) → Option α} (ex : x = nI a) (ey : y = nI b) (ez : z = nI n) (h0 : a + n ≤ n0) (h1 : b + n ≤ n1) (hn0 : n0 < 2 ^ 31) (hn1 : n1 < 2 ^ 31) : acp f n0 x g n1 y z k = k (va_cpy f g a b n) := by
  subst ex; subst ey; subst ez
  unfold acp
  rw [nI_clamp (by omega), nI_clamp (by omega), nI_clamp (by omega), if_pos ⟨nI_pos (by omega), nI_pos (by omega), nI_pos (by omega), h0, h1⟩]
theorem L0 : (0 : Int32) = nI 0 := rfl
theorem L1 : (1 : Int32) = nI 1 := rfl
theorem L2 : (2 : Int32) = nI 2 := rfl
theorem L3 : (3 : Int32) = nI 3 := rfl
theorem L4 : (4 : Int32) = nI 4 := rfl
theorem L5 : (5 : Int32) = nI 5 := rfl
theorem L6 : (6 : Int32) = nI 6 := rfl
theorem L7 : (7 : Int32) = nI 7 := rfl
theorem L8 : (8 : Int32) = nI 8 := rfl
theorem L9 : (9 : Int32) = nI 9 := rfl
theorem L10 : (10 : Int32) = nI 10 := rfl
theorem L13 : (13 : Int32) = nI 13 := rfl
theorem L14 : (14 : Int32) = nI 14 := rfl
theorem L32 : (32 : Int32) = nI 32 := rfl
theorem L41 : (41 : Int32) = nI 41 := rfl
theorem L42 : (42 : Int32) = nI 42 := rfl
theorem L63 : (63 : Int32) = nI 63 := rfl
theorem L64 : (64 : Int32) = nI 64 := rfl
theorem L65 : (65 : Int32) = nI 65 := rfl
theorem L66 : (66 : Int32) = nI 66 := rfl
theorem L99 : (99 : Int32) = nI 99 := rfl
/-! bits -/
theorem and1 (x : Int32) : x &&& 1 = 0 ∨ x &&& 1 = 1 := by
  have h := pk_andE x (m := 1) 1 (by decide)
  obtain ⟨j, hj, e⟩ := h
  rcases (show j = 0 ∨ j = 1 by omega) with rfl | rfl
  · exact Or.inl e
  · exact Or.inr e
def bi (x : Int32) (j : Nat) : Bool := decide (((x >>> (nI j &&& 31)) &&& 1) = 1)
theorem bi_v (x : Int32) (j : Nat) : (x >>> (nI j &&& 31)) &&& 1 = b2i (bi x j) := by
  unfold bi
  rcases and1 (x >>> (nI j &&& 31)) with h | h
  · rw [h]; decide
  · rw [h]; decide
theorem mbit (x : Int32) (j : Nat) : mX3_bit x (nI j) = some (b2i (bi x j)) := by
  unfold mX3_bit
  rw [bi_v]
theorem b2i_1 {b : Bool} : b2i b = 1 ↔ b = true := by cases b <;> decide
theorem b2i_0 {b : Bool} : b2i b = 0 ↔ b = false := by cases b <;> decide
theorem mhas (x : Int32) (j : Nat) : mX4_has x (nI j) = some (bi x j) := by
  unfold mX4_has
  rw [bi_v]
  cases bi x j <;> decide
/-- the set of the first n places at which p holds -/
def msk (p : Nat → Bool) : Nat → Int32
  | 0 => 0
  | n + 1 => if p n = true then msk p n ||| ((1 : Int32) <<< (nI n &&& 31)) else msk p n
theorem msk_s (p : Nat → Bool) (n : Nat) : msk p (n + 1) = if p n = true then msk p n ||| ((1 : Int32) <<< (nI n &&& 31)) else msk p n := rfl
theorem msk_cong {p q : Nat → Bool} : ∀ {n : Nat}, (∀ k, k < n → p k = q k) → msk p n = msk q n
  | 0, _ => rfl
  | n + 1, h => by rw [msk_s, msk_s, msk_cong (fun k hk => h k (by omega)), h n (by omega)]
/-- the same, as a number -/
def mskN (p : Nat → Bool) : Nat → Nat
  | 0 => 0
  | n + 1 => mskN p n + (if p n = true then 2 ^ n else 0)
theorem mskN_lt (p : Nat → Bool) : ∀ n, mskN p n < 2 ^ n
  | 0 => Nat.zero_lt_one
  | n + 1 => by
    have h := mskN_lt p n
    show mskN p n + (if p n = true then 2 ^ n else 0) < 2 ^ (n + 1)
    rw [Nat.pow_succ]
    split <;> omega
theorem sh1 : ∀ n, n < 31 → (1 : Int32) <<< (nI n &&& 31) = nI (2 ^ n) := by decide +kernel
theorem or_hi {a n : Nat} (h : a < 2 ^ n) : a ||| 2 ^ n = a + 2 ^ n := by
  have := Nat.two_pow_add_eq_or_of_lt h 1
  rw [Nat.mul_one] at this
  rw [Nat.or_comm, ← this, Nat.add_comm]
theorem nI_or (a b : Nat) : nI a ||| nI b = nI (a ||| b) := by
  apply Int32.toBitVec_inj.mp
  show (BitVec.ofNat 32 a) ||| (BitVec.ofNat 32 b) = BitVec.ofNat 32 (a ||| b)
  rw [BitVec.ofNat_or]
theorem msk_nat (p : Nat → Bool) : ∀ n, n ≤ 31 → msk p n = nI (mskN p n)
  | 0, _ => rfl
  | n + 1, h => by
    rw [msk_s, msk_nat p n (by omega)]
    show _ = nI (mskN p n + (if p n = true then 2 ^ n else 0))
    split
    · rw [sh1 n (by omega), nI_or, or_hi (mskN_lt p n)]
    · rfl
theorem mskN_bit (p : Nat → Bool) : ∀ n j, (mskN p n).testBit j = (decide (j < n) && p j)
  | 0, j => by simp [mskN]
  | n + 1, j => by
    show (mskN p n + (if p n = true then 2 ^ n else 0)).testBit j = _
    have hl := mskN_lt p n
    have ih := mskN_bit p n j
    split
    · next hp =>
      rw [← or_hi hl, Nat.testBit_or, ih, Nat.testBit_two_pow]
      by_cases hj : j = n
      · subst hj; simp [hp]
      · have : (j < n + 1) ↔ (j < n) := by omega
        simp only [this]
        have h2 : decide (n = j) = false := by simp; omega
        rw [h2, Bool.or_false]
    · next hp =>
      rw [Nat.add_zero, ih]
      by_cases hj : j = n
      · subst hj; simp [hp]
      · have : (j < n + 1) ↔ (j < n) := by omega
        simp only [this]
theorem sA : ∀ n, n < 32 → ((nI n &&& 31).toBitVec.smod 32).toNat = n := by decide +kernel
theorem bi_nat {k : Nat} (hk : k < 2 ^ 31) {j : Nat} (hj : j < 32) : bi (nI k) j = k.testBit j := by
  unfold bi
  rw [pk_shrN hk _ j (sA j hj)]
  have h2 := pk_andN (n := k / 2 ^ j) (by have := Nat.div_le_self k (2 ^ j); omega) (m := 1) 1 (by decide)
  rw [h2]
  rw [Nat.testBit_eq_decide_div_mod_eq]
  have : k / 2 ^ j % 2 ^ 1 < 2 := by omega
  rcases (show k / 2 ^ j % 2 = 0 ∨ k / 2 ^ j % 2 = 1 by omega) with h | h
  · rw [show (2 ^ 1 : Nat) = 2 from rfl, h]; decide
  · rw [show (2 ^ 1 : Nat) = 2 from rfl, h]; decide
theorem bi_msk (p : Nat → Bool) {n j : Nat} (hn : n ≤ 30) (hj : j < 32) : bi (msk p n) j = (decide (j < n) && p j) := by
  have h1 := mskN_lt p n
  have h2 : 2 ^ n ≤ 2 ^ 30 := Nat.pow_le_pow_right (by decide) hn
  rw [msk_nat p n (by omega), bi_nat (by omega) hj, mskN_bit]
