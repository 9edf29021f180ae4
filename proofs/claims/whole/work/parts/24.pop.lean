/-! how many bits are set, as the library counts them -/
theorem land_split (n m : Nat) : n &&& m = 256 * ((n / 256) &&& (m / 256)) + ((n % 256) &&& (m % 256)) := by
  have h1 := Nat.and_div_two_pow (a := n) (b := m) (n := 8)
  have h2 := Nat.and_mod_two_pow (a := n) (b := m) (n := 8)
  have e : (2 : Nat) ^ 8 = 256 := rfl
  rw [e] at h1 h2
  rw [← h1, ← h2]
  omega
def pc1 (M n : Nat) : Nat := n - ((n / 2) &&& M)
def pc2 (M n : Nat) : Nat := (n &&& M) + ((n / 4) &&& M)
def pc3 (M n : Nat) : Nat := (n + n / 16) &&& M
theorem pd1 : ∀ r, r < 256 → ∀ t, t < 2 → (128 * t + r / 2) &&& 85 = (r / 2) &&& 85 := by decide +kernel
theorem pd2 : ∀ r, r < 256 → ∀ t, t < 4 → (64 * t + r / 4) &&& 51 = (r / 4) &&& 51 := by decide +kernel
theorem pd3 : ∀ r, r < 256 → r &&& 15 = r % 16 := by decide +kernel
theorem pc1_s {M q r : Nat} (M' : Nat) (hr : r < 256) (hM : M % 256 = 85) (hM' : M / 256 = M') : pc1 M (256 * q + r) = 256 * pc1 M' q + pc1 85 r := by
  subst hM'
  unfold pc1
  have e := land_split ((256 * q + r) / 2) M
  rw [hM, show (256 * q + r) / 2 / 256 = q / 2 by omega, show (256 * q + r) / 2 % 256 = 128 * (q % 2) + r / 2 by omega, pd1 r hr _ (Nat.mod_lt _ (by decide))] at e
  rw [e]
  have h1 : (q / 2) &&& (M / 256) ≤ q / 2 := Nat.and_le_left
  have h2 : (r / 2) &&& 85 ≤ r / 2 := Nat.and_le_left
  omega
theorem pc2_s {M q r : Nat} (M' : Nat) (hr : r < 256) (hM : M % 256 = 51) (hM' : M / 256 = M') : pc2 M (256 * q + r) = 256 * pc2 M' q + pc2 51 r := by
  subst hM'
  unfold pc2
  have e := land_split ((256 * q + r) / 4) M
  rw [hM, show (256 * q + r) / 4 / 256 = q / 4 by omega, show (256 * q + r) / 4 % 256 = 64 * (q % 4) + r / 4 by omega, pd2 r hr _ (Nat.mod_lt _ (by decide))] at e
  have e2 := land_split (256 * q + r) M
  rw [hM, show (256 * q + r) / 256 = q by omega, show (256 * q + r) % 256 = r by omega] at e2
  rw [e, e2]
  omega
theorem pc3_s {M q r : Nat} (M' : Nat) (hr : r ≤ 68) (hq : q % 16 ≤ 4) (hM : M % 256 = 15) (hM' : M / 256 = M') : pc3 M (256 * q + r) = 256 * pc3 M' q + (r + r / 16) % 16 := by
  subst hM'
  unfold pc3
  have e := land_split ((256 * q + r) + (256 * q + r) / 16) M
  have h : (256 * q + r) + (256 * q + r) / 16 = 256 * (q + q / 16) + (r + r / 16 + 16 * (q % 16)) := by omega
  rw [hM, h, show (256 * (q + q / 16) + (r + r / 16 + 16 * (q % 16))) / 256 = q + q / 16 by omega, show (256 * (q + q / 16) + (r + r / 16 + 16 * (q % 16))) % 256 = r + r / 16 + 16 * (q % 16) by omega, pd3 _ (by omega)] at e
  rw [h, e]
  omega
theorem pcb_ok : ∀ r, r < 256 → pc2 51 (pc1 85 r) ≤ 68 ∧ pc2 51 (pc1 85 r) % 16 ≤ 4 ∧ pc1 85 r < 256 ∧ (pc2 51 (pc1 85 r) + pc2 51 (pc1 85 r) / 16) % 16 = cnt (fun j => r.testBit j) 8 := by decide +kernel
theorem cnt_add (p : Nat → Bool) (a : Nat) : ∀ b, cnt p (a + b) = cnt p a + cnt (fun j => p (a + j)) b
  | 0 => rfl
  | b + 1 => by rw [← Nat.add_assoc, cnt_s, cnt_s, cnt_add p a b]; omega
theorem byte_bit {n j : Nat} (k : Nat) (hj : j < 8) : n.testBit (k + j) = (n / 2 ^ k % 256).testBit j := by
  rw [show (256 : Nat) = 2 ^ 8 from rfl, Nat.testBit_mod_two_pow, Nat.testBit_div_two_pow, decide_eq_true hj, Bool.true_and, Nat.add_comm]
