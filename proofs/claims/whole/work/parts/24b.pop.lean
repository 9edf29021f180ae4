theorem pop_last {z0 z1 z2 z3 a : Nat} (k0 : z0 ≤ 8) (k1 : z1 ≤ 8) (k2 : z2 ≤ 8) (k3 : z3 ≤ 8) (ha : a = 256 * (256 * (256 * z3 + z2) + z1) + z0) : ((a + a / 256) + (a + a / 256) / 65536) &&& 63 = z0 + z1 + z2 + z3 := by
  have e1 : a / 256 = 256 * (256 * z3 + z2) + z1 := by omega
  obtain ⟨b, hb⟩ : ∃ b, b = a + a / 256 := ⟨_, rfl⟩
  rw [← hb]
  have e2 : b = 65536 * (256 * z3 + z3 + z2) + 256 * (z2 + z1) + (z1 + z0) := by omega
  have e3 : b / 65536 = 256 * z3 + z3 + z2 := by omega
  rw [e3]
  have e4 : (b + (256 * z3 + z3 + z2)) &&& 63 = (b + (256 * z3 + z3 + z2)) % 64 := Nat.and_two_pow_sub_one_eq_mod _ 6
  rw [e4]
  omega
theorem pop_nat {n : Nat} (hn : n < 4294967296) {a : Nat} (ha : a = pc3 252645135 (pc2 858993459 (pc1 1431655765 n))) : ((a + a / 256) + (a + a / 256) / 65536) &&& 63 = cnt (fun j => n.testBit j) 32 := by
  obtain ⟨b0, hb0⟩ : ∃ b, b = n % 256 := ⟨_, rfl⟩
  obtain ⟨b1, hb1⟩ : ∃ b, b = n / 256 % 256 := ⟨_, rfl⟩
  obtain ⟨b2, hb2⟩ : ∃ b, b = n / 65536 % 256 := ⟨_, rfl⟩
  obtain ⟨b3, hb3⟩ : ∃ b, b = n / 16777216 % 256 := ⟨_, rfl⟩
  have hN : n = 256 * (256 * (256 * b3 + b2) + b1) + b0 := by subst hb0; subst hb1; subst hb2; subst hb3; omega
  have l0 : b0 < 256 := by omega
  have l1 : b1 < 256 := by omega
  have l2 : b2 < 256 := by omega
  have l3 : b3 < 256 := by omega
  obtain ⟨s0, t0, u0, c0⟩ := pcb_ok b0 l0
  obtain ⟨s1, t1, u1, c1⟩ := pcb_ok b1 l1
  obtain ⟨s2, t2, u2, c2⟩ := pcb_ok b2 l2
  obtain ⟨s3, t3, u3, c3⟩ := pcb_ok b3 l3
  have e1 : pc1 1431655765 n = 256 * (256 * (256 * pc1 85 b3 + pc1 85 b2) + pc1 85 b1) + pc1 85 b0 := by
    rw [hN, pc1_s 5592405 l0 rfl rfl, pc1_s 21845 l1 rfl rfl, pc1_s 85 l2 rfl rfl]
  have e2 : pc2 858993459 (pc1 1431655765 n) = 256 * (256 * (256 * (pc2 51 (pc1 85 b3)) + pc2 51 (pc1 85 b2)) + pc2 51 (pc1 85 b1)) + pc2 51 (pc1 85 b0) := by
    rw [e1, pc2_s 3355443 u0 rfl rfl, pc2_s 13107 u1 rfl rfl, pc2_s 51 u2 rfl rfl]
  have f3 : pc3 15 ((pc2 51 (pc1 85 b3))) = ((pc2 51 (pc1 85 b3)) + (pc2 51 (pc1 85 b3)) / 16) % 16 := by
    unfold pc3
    rw [pd3 _ (by omega)]
  have e3 : pc3 252645135 (pc2 858993459 (pc1 1431655765 n)) = 256 * (256 * (256 * cnt (fun j => b3.testBit j) 8 + cnt (fun j => b2.testBit j) 8) + cnt (fun j => b1.testBit j) 8) + cnt (fun j => b0.testBit j) 8 := by
    rw [e2, pc3_s 986895 s0 (by omega) rfl rfl, pc3_s 3855 s1 (by omega) rfl rfl, pc3_s 15 s2 (by omega) rfl rfl, f3, c0, c1, c2, c3]
  have k0 := cnt_le (fun j => b0.testBit j) 8
  have k1 := cnt_le (fun j => b1.testBit j) 8
  have k2 := cnt_le (fun j => b2.testBit j) 8
  have k3 := cnt_le (fun j => b3.testBit j) 8
  have hc : cnt (fun j => n.testBit j) 32 = cnt (fun j => b0.testBit j) 8 + cnt (fun j => b1.testBit j) 8 + cnt (fun j => b2.testBit j) 8 + cnt (fun j => b3.testBit j) 8 := by
    rw [show (32 : Nat) = 8 + 8 + 8 + 8 from rfl, cnt_add, cnt_add, cnt_add]
    congr 1
    · congr 1
      · congr 1
        · exact cnt_cong (fun j hj => by rw [hb0]; have := byte_bit (n := n) 0 hj; simpa using this)
        · exact cnt_cong (fun j hj => by rw [hb1]; exact byte_bit (n := n) 8 hj)
      · exact cnt_cong (fun j hj => by rw [hb2]; exact byte_bit (n := n) 16 hj)
    · exact cnt_cong (fun j hj => by rw [hb3]; exact byte_bit (n := n) 24 hj)
  rw [hc]
  exact pop_last k0 k1 k2 k3 (by rw [ha, e3])
theorem nI_and (a b : Nat) : nI a &&& nI b = nI (a &&& b) := by
  apply Int32.toBitVec_inj.mp
  show (BitVec.ofNat 32 a) &&& (BitVec.ofNat 32 b) = BitVec.ofNat 32 (a &&& b)
  rw [BitVec.ofNat_and]
theorem of32 (x : Int32) : ∃ n, n < 4294967296 ∧ x = nI n ∧ ∀ j, bt x j = n.testBit j := by
  refine ⟨x.toBitVec.toNat, x.toBitVec.isLt, ?_, fun j => rfl⟩
  apply Int32.toBitVec_inj.mp
  show x.toBitVec = BitVec.ofNat 32 x.toBitVec.toNat
  rw [BitVec.ofNat_toNat, BitVec.setWidth_eq]
theorem bnd_eq {α β : Type} (x : α) (k : α → Option β) : bnd x k = k x := rfl
theorem bitCount_ok (x : Int32) : mJ6_bitCount_0f7a4 x = some (nI (cnt (bi x) 32)) := by
  obtain ⟨n, hn, rfl, hb⟩ := of32 x
  have e0 : cnt (bi (nI n)) 32 = cnt (fun j => n.testBit j) 32 := cnt_cong (fun j hj => by rw [bi_bt _ hj, hb])
  unfold mJ6_bitCount_0f7a4
  have h1 : (n / 2) &&& 1431655765 ≤ n := Nat.le_trans Nat.and_le_left (Nat.div_le_self _ _)
  have b1 : pc1 1431655765 n < 4294967296 := by unfold pc1; omega
  have s1 : nI n - (((nI n).toUInt32 >>> ((1 : Int32).toUInt32 &&& Int32.toUInt32 31)).toInt32 &&& (1431655765 : Int32)) = nI (pc1 1431655765 n) := by
    rw [pk_ushrN hn _ 1 (by decide), show (1431655765 : Int32) = nI 1431655765 from rfl, nI_and, pk_sub (by rw [Nat.pow_one]; exact h1)]
    rfl
  rw [s1, bnd_eq]
  generalize ez1 : pc1 1431655765 n = z1 at *
  have m1 : z1 &&& 858993459 ≤ 858993459 := Nat.and_le_right
  have m2 : (z1 / 4) &&& 858993459 ≤ 858993459 := Nat.and_le_right
  have b2 : pc2 858993459 z1 ≤ 1717986918 := by unfold pc2; omega
  have s2 : (nI z1 &&& (858993459 : Int32)) + (((nI z1).toUInt32 >>> ((2 : Int32).toUInt32 &&& Int32.toUInt32 31)).toInt32 &&& (858993459 : Int32)) = nI (pc2 858993459 z1) := by
    rw [pk_ushrN b1 _ 2 (by decide), show (858993459 : Int32) = nI 858993459 from rfl, nI_and, nI_and, nI_add]
    rfl
  rw [s2, bnd_eq]
  generalize ez2 : pc2 858993459 z1 = z2 at *
  have b3 : pc3 252645135 z2 ≤ 252645135 := Nat.and_le_right
  have s3 : (nI z2 + ((nI z2).toUInt32 >>> ((4 : Int32).toUInt32 &&& Int32.toUInt32 31)).toInt32) &&& (252645135 : Int32) = nI (pc3 252645135 z2) := by
    rw [pk_ushrN (by omega) _ 4 (by decide), show (252645135 : Int32) = nI 252645135 from rfl, nI_add, nI_and]
    rfl
  rw [s3, bnd_eq]
  generalize ez3 : pc3 252645135 z2 = z3 at *
  have s4 : nI z3 + ((nI z3).toUInt32 >>> ((8 : Int32).toUInt32 &&& Int32.toUInt32 31)).toInt32 = nI (z3 + z3 / 256) := by
    rw [pk_ushrN (by omega) _ 8 (by decide), nI_add]
  rw [s4, bnd_eq]
  have s5 : nI (z3 + z3 / 256) + ((nI (z3 + z3 / 256)).toUInt32 >>> ((16 : Int32).toUInt32 &&& Int32.toUInt32 31)).toInt32 = nI ((z3 + z3 / 256) + (z3 + z3 / 256) / 65536) := by
    rw [pk_ushrN (by omega) _ 16 (by decide), nI_add]
  rw [s5, bnd_eq, L63, nI_and, pop_nat hn (a := z3) (by rw [ez1, ez2, ez3]), e0]
