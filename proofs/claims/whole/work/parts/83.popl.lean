/-! Long.bitCount -/
theorem dvl {y lo hi K : Nat} (h : y = lo + K * hi) (hl : lo < K) : y / K = hi := by
  have hK : 0 < K := by omega
  rw [h, Nat.add_mul_div_left _ _ hK, Nat.div_eq_of_lt hl, Nat.zero_add]
set_option maxHeartbeats 200000 in
theorem pl8 {c0 c1 c2 c3 c4 c5 c6 c7 y : Nat} (h0 : c0 ≤ 8) (h1 : c1 ≤ 8) (h2 : c2 ≤ 8) (h3 : c3 ≤ 8) (h4 : c4 ≤ 8) (h5 : c5 ≤ 8) (h6 : c6 ≤ 8) (h7 : c7 ≤ 8) (hy : y = (c0) + 256 * (c1) + 65536 * (c2) + 16777216 * (c3) + 4294967296 * (c4) + 1099511627776 * (c5) + 281474976710656 * (c6) + 72057594037927936 * (c7)) : y / 2 ^ 8 = (c1) + 256 * (c2) + 65536 * (c3) + 16777216 * (c4) + 4294967296 * (c5) + 1099511627776 * (c6) + 281474976710656 * (c7) := by
  exact dvl (lo := (c0)) (K := 2 ^ 8) (by rw [hy, show (2 : Nat) ^ 8 = 256 from rfl]; simp only [Nat.mul_add, ← Nat.mul_assoc, Nat.add_assoc]) (by rw [show (2 : Nat) ^ 8 = 256 from rfl]; omega)
set_option maxHeartbeats 200000 in
theorem pl16 {c0 c1 c2 c3 c4 c5 c6 c7 y : Nat} (h0 : c0 ≤ 8) (h1 : c1 ≤ 8) (h2 : c2 ≤ 8) (h3 : c3 ≤ 8) (h4 : c4 ≤ 8) (h5 : c5 ≤ 8) (h6 : c6 ≤ 8) (h7 : c7 ≤ 8) (hy : y = (c0 + c1) + 256 * (c1 + c2) + 65536 * (c2 + c3) + 16777216 * (c3 + c4) + 4294967296 * (c4 + c5) + 1099511627776 * (c5 + c6) + 281474976710656 * (c6 + c7) + 72057594037927936 * (c7)) : y / 2 ^ 16 = (c2 + c3) + 256 * (c3 + c4) + 65536 * (c4 + c5) + 16777216 * (c5 + c6) + 4294967296 * (c6 + c7) + 1099511627776 * (c7) := by
  exact dvl (lo := (c0 + c1) + 256 * (c1 + c2)) (K := 2 ^ 16) (by rw [hy, show (2 : Nat) ^ 16 = 65536 from rfl]; simp only [Nat.mul_add, ← Nat.mul_assoc, Nat.add_assoc]) (by rw [show (2 : Nat) ^ 16 = 65536 from rfl]; omega)
set_option maxHeartbeats 200000 in
theorem pl32 {c0 c1 c2 c3 c4 c5 c6 c7 y : Nat} (h0 : c0 ≤ 8) (h1 : c1 ≤ 8) (h2 : c2 ≤ 8) (h3 : c3 ≤ 8) (h4 : c4 ≤ 8) (h5 : c5 ≤ 8) (h6 : c6 ≤ 8) (h7 : c7 ≤ 8) (hy : y = (c0 + c1 + c2 + c3) + 256 * (c1 + c2 + c3 + c4) + 65536 * (c2 + c3 + c4 + c5) + 16777216 * (c3 + c4 + c5 + c6) + 4294967296 * (c4 + c5 + c6 + c7) + 1099511627776 * (c5 + c6 + c7) + 281474976710656 * (c6 + c7) + 72057594037927936 * (c7)) : y / 2 ^ 32 = (c4 + c5 + c6 + c7) + 256 * (c5 + c6 + c7) + 65536 * (c6 + c7) + 16777216 * (c7) := by
  exact dvl (lo := (c0 + c1 + c2 + c3) + 256 * (c1 + c2 + c3 + c4) + 65536 * (c2 + c3 + c4 + c5) + 16777216 * (c3 + c4 + c5 + c6)) (K := 2 ^ 32) (by rw [hy, show (2 : Nat) ^ 32 = 4294967296 from rfl]; simp only [Nat.mul_add, ← Nat.mul_assoc, Nat.add_assoc]) (by rw [show (2 : Nat) ^ 32 = 4294967296 from rfl]; omega)
set_option maxHeartbeats 200000 in
theorem ps8 {c0 c1 c2 c3 c4 c5 c6 c7 : Nat} (h0 : c0 ≤ 8) (h1 : c1 ≤ 8) (h2 : c2 ≤ 8) (h3 : c3 ≤ 8) (h4 : c4 ≤ 8) (h5 : c5 ≤ 8) (h6 : c6 ≤ 8) (h7 : c7 ≤ 8) : ((c0) + 256 * (c1) + 65536 * (c2) + 16777216 * (c3) + 4294967296 * (c4) + 1099511627776 * (c5) + 281474976710656 * (c6) + 72057594037927936 * (c7)) + ((c1) + 256 * (c2) + 65536 * (c3) + 16777216 * (c4) + 4294967296 * (c5) + 1099511627776 * (c6) + 281474976710656 * (c7)) = (c0 + c1) + 256 * (c1 + c2) + 65536 * (c2 + c3) + 16777216 * (c3 + c4) + 4294967296 * (c4 + c5) + 1099511627776 * (c5 + c6) + 281474976710656 * (c6 + c7) + 72057594037927936 * (c7) ∧ (c0 + c1) + 256 * (c1 + c2) + 65536 * (c2 + c3) + 16777216 * (c3 + c4) + 4294967296 * (c4 + c5) + 1099511627776 * (c5 + c6) + 281474976710656 * (c6 + c7) + 72057594037927936 * (c7) < 18446744073709551616 := ⟨by omega, by omega⟩
set_option maxHeartbeats 200000 in
theorem ps16 {c0 c1 c2 c3 c4 c5 c6 c7 : Nat} (h0 : c0 ≤ 8) (h1 : c1 ≤ 8) (h2 : c2 ≤ 8) (h3 : c3 ≤ 8) (h4 : c4 ≤ 8) (h5 : c5 ≤ 8) (h6 : c6 ≤ 8) (h7 : c7 ≤ 8) : ((c0 + c1) + 256 * (c1 + c2) + 65536 * (c2 + c3) + 16777216 * (c3 + c4) + 4294967296 * (c4 + c5) + 1099511627776 * (c5 + c6) + 281474976710656 * (c6 + c7) + 72057594037927936 * (c7)) + ((c2 + c3) + 256 * (c3 + c4) + 65536 * (c4 + c5) + 16777216 * (c5 + c6) + 4294967296 * (c6 + c7) + 1099511627776 * (c7)) = (c0 + c1 + c2 + c3) + 256 * (c1 + c2 + c3 + c4) + 65536 * (c2 + c3 + c4 + c5) + 16777216 * (c3 + c4 + c5 + c6) + 4294967296 * (c4 + c5 + c6 + c7) + 1099511627776 * (c5 + c6 + c7) + 281474976710656 * (c6 + c7) + 72057594037927936 * (c7) ∧ (c0 + c1 + c2 + c3) + 256 * (c1 + c2 + c3 + c4) + 65536 * (c2 + c3 + c4 + c5) + 16777216 * (c3 + c4 + c5 + c6) + 4294967296 * (c4 + c5 + c6 + c7) + 1099511627776 * (c5 + c6 + c7) + 281474976710656 * (c6 + c7) + 72057594037927936 * (c7) < 18446744073709551616 := ⟨by omega, by omega⟩
set_option maxHeartbeats 200000 in
theorem ps32 {c0 c1 c2 c3 c4 c5 c6 c7 : Nat} (h0 : c0 ≤ 8) (h1 : c1 ≤ 8) (h2 : c2 ≤ 8) (h3 : c3 ≤ 8) (h4 : c4 ≤ 8) (h5 : c5 ≤ 8) (h6 : c6 ≤ 8) (h7 : c7 ≤ 8) : ((c0 + c1 + c2 + c3) + 256 * (c1 + c2 + c3 + c4) + 65536 * (c2 + c3 + c4 + c5) + 16777216 * (c3 + c4 + c5 + c6) + 4294967296 * (c4 + c5 + c6 + c7) + 1099511627776 * (c5 + c6 + c7) + 281474976710656 * (c6 + c7) + 72057594037927936 * (c7)) + ((c4 + c5 + c6 + c7) + 256 * (c5 + c6 + c7) + 65536 * (c6 + c7) + 16777216 * (c7)) < 18446744073709551616 ∧ (((c0 + c1 + c2 + c3) + 256 * (c1 + c2 + c3 + c4) + 65536 * (c2 + c3 + c4 + c5) + 16777216 * (c3 + c4 + c5 + c6) + 4294967296 * (c4 + c5 + c6 + c7) + 1099511627776 * (c5 + c6 + c7) + 281474976710656 * (c6 + c7) + 72057594037927936 * (c7)) + ((c4 + c5 + c6 + c7) + 256 * (c5 + c6 + c7) + 65536 * (c6 + c7) + 16777216 * (c7))) % 256 = c0 + c1 + c2 + c3 + c4 + c5 + c6 + c7 := ⟨by omega, by
  have e : ((c0 + c1 + c2 + c3) + 256 * (c1 + c2 + c3 + c4) + 65536 * (c2 + c3 + c4 + c5) + 16777216 * (c3 + c4 + c5 + c6) + 4294967296 * (c4 + c5 + c6 + c7) + 1099511627776 * (c5 + c6 + c7) + 281474976710656 * (c6 + c7) + 72057594037927936 * (c7)) + ((c4 + c5 + c6 + c7) + 256 * (c5 + c6 + c7) + 65536 * (c6 + c7) + 16777216 * (c7)) = (c0 + c1 + c2 + c3 + c4 + c5 + c6 + c7) + 256 * ((1 * (c1 + c2 + c3 + c4) + 256 * (c2 + c3 + c4 + c5) + 65536 * (c3 + c4 + c5 + c6) + 16777216 * (c4 + c5 + c6 + c7) + 4294967296 * (c5 + c6 + c7) + 1099511627776 * (c6 + c7) + 281474976710656 * (c7)) + (1 * (c5 + c6 + c7) + 256 * (c6 + c7) + 65536 * (c7))) := by omega
  rw [e, Nat.add_mul_mod_self_left]; exact Nat.mod_eq_of_lt (by omega)⟩
set_option maxHeartbeats 400000 in
theorem klb_is (x : Int64) : klb x = nI (zcnt (fun i => (znq x).testBit i) 0 64) := by
  obtain ⟨c0, c1, c2, c3, c4, c5, c6, c7, h0, h1, h2, h3, h4, h5, h6, h7, e, ec⟩ := pop64 (znq x) (znq_lt x)
  have E1 : znq (klb1 x) = zp1 8 (znq x) := by
    unfold klb1 zp1
    have e1 : znq ((x.toUInt64 >>> ((nI 1).toInt64.toUInt64 &&& Int64.toUInt64 63)).toInt64 &&& 6148914691236517205) = znq x / 2 &&& zrep 85 8 := by
      rw [znq_and, znq_sh x _ 1 (by decide)]; rfl
    rw [znq_sub, e1]
    rw [e1]; exact Nat.le_trans Nat.and_le_left (Nat.div_le_self _ _)
  have A2 : ∀ y : Int64, znq (klb2 y) = zp2 8 (znq y) ∧ znq (klb2 y) ≤ 2 * 3689348814741910323 := fun y => by
    unfold klb2 zp2
    have e1 : znq (y &&& 3689348814741910323) = znq y &&& zrep 51 8 := znq_and _ _
    have e2 : znq ((y.toUInt64 >>> ((nI 2).toInt64.toUInt64 &&& Int64.toUInt64 63)).toInt64 &&& 3689348814741910323) = znq y / 4 &&& zrep 51 8 := by
      rw [znq_and, znq_sh y _ 2 (by decide)]; rfl
    have l1 : znq y &&& zrep 51 8 ≤ zrep 51 8 := Nat.and_le_right
    have l2 : znq y / 4 &&& zrep 51 8 ≤ zrep 51 8 := Nat.and_le_right
    have l3 : zrep 51 8 = 3689348814741910323 := rfl
    have e3 := znq_add (x := y &&& 3689348814741910323) (y := (y.toUInt64 >>> ((nI 2).toInt64.toUInt64 &&& Int64.toUInt64 63)).toInt64 &&& 3689348814741910323) (by rw [e1, e2]; omega)
    rw [e3, e1, e2]
    exact ⟨rfl, by omega⟩
  obtain ⟨E2, B2⟩ := A2 (klb1 x)
  have E3 : znq (klb3 (klb2 (klb1 x))) = zp3 8 (zp2 8 (zp1 8 (znq x))) := by
    unfold klb3
    have e1 : znq ((klb2 (klb1 x)).toUInt64 >>> ((nI 4).toInt64.toUInt64 &&& Int64.toUInt64 63)).toInt64 = znq (klb2 (klb1 x)) / 16 := znq_sh _ _ 4 (by decide)
    rw [znq_and, znq_add (by rw [e1]; omega), e1, E2, E1]; rfl
  rw [e] at E3
  have S4 : ∀ (k : Nat) (y : Int64), k < 64 → znq y + znq y / 2 ^ k < 18446744073709551616 → znq (klb4 k y) = znq y + znq y / 2 ^ k := fun k y hk hb => by
    unfold klb4
    have e1 : znq (y.toUInt64 >>> ((nI k).toInt64.toUInt64 &&& Int64.toUInt64 63)).toInt64 = znq y / 2 ^ k := znq_sh _ _ k ((show ∀ k < 64, ((nI k).toInt64.toUInt64 &&& Int64.toUInt64 63).toNat % 64 = k by decide +kernel) k hk)
    rw [znq_add (by rw [e1]; exact hb), e1]
  have E3' : znq (klb3 (klb2 (klb1 x))) = (c0) + 256 * (c1) + 65536 * (c2) + 16777216 * (c3) + 4294967296 * (c4) + 1099511627776 * (c5) + 281474976710656 * (c6) + 72057594037927936 * (c7) := by rw [E3]
  have D4 := pl8 h0 h1 h2 h3 h4 h5 h6 h7 E3'
  have E4 : znq (klb4 8 (klb3 (klb2 (klb1 x)))) = (c0 + c1) + 256 * (c1 + c2) + 65536 * (c2 + c3) + 16777216 * (c3 + c4) + 4294967296 * (c4 + c5) + 1099511627776 * (c5 + c6) + 281474976710656 * (c6 + c7) + 72057594037927936 * (c7) := by
    have P := ps8 h0 h1 h2 h3 h4 h5 h6 h7
    have e : znq (klb3 (klb2 (klb1 x))) + znq (klb3 (klb2 (klb1 x))) / 2 ^ 8 = (c0 + c1) + 256 * (c1 + c2) + 65536 * (c2 + c3) + 16777216 * (c3 + c4) + 4294967296 * (c4 + c5) + 1099511627776 * (c5 + c6) + 281474976710656 * (c6 + c7) + 72057594037927936 * (c7) := by rw [D4, E3']; exact P.1
    rw [S4 8 _ (by decide) (by rw [e]; exact P.2), e]
  have D5 := pl16 h0 h1 h2 h3 h4 h5 h6 h7 E4
  have E5 : znq (klb4 16 (klb4 8 (klb3 (klb2 (klb1 x))))) = (c0 + c1 + c2 + c3) + 256 * (c1 + c2 + c3 + c4) + 65536 * (c2 + c3 + c4 + c5) + 16777216 * (c3 + c4 + c5 + c6) + 4294967296 * (c4 + c5 + c6 + c7) + 1099511627776 * (c5 + c6 + c7) + 281474976710656 * (c6 + c7) + 72057594037927936 * (c7) := by
    have P := ps16 h0 h1 h2 h3 h4 h5 h6 h7
    have e : znq (klb4 8 (klb3 (klb2 (klb1 x)))) + znq (klb4 8 (klb3 (klb2 (klb1 x)))) / 2 ^ 16 = (c0 + c1 + c2 + c3) + 256 * (c1 + c2 + c3 + c4) + 65536 * (c2 + c3 + c4 + c5) + 16777216 * (c3 + c4 + c5 + c6) + 4294967296 * (c4 + c5 + c6 + c7) + 1099511627776 * (c5 + c6 + c7) + 281474976710656 * (c6 + c7) + 72057594037927936 * (c7) := by rw [D5, E4]; exact P.1
    rw [S4 16 _ (by decide) (by rw [e]; exact P.2), e]
  have D6 := pl32 h0 h1 h2 h3 h4 h5 h6 h7 E5
  have E6 : znq (klb4 32 (klb4 16 (klb4 8 (klb3 (klb2 (klb1 x)))))) % 256 = c0 + c1 + c2 + c3 + c4 + c5 + c6 + c7 := by
    have P := ps32 h0 h1 h2 h3 h4 h5 h6 h7
    rw [S4 32 _ (by decide) (by rw [D6, E5]; exact P.1), D6, E5]; exact P.2
  apply znn_inj
  unfold klb
  have E7 : ∀ y : Int64, znn y.toInt32 = znq y % 4294967296 := fun y => by
    unfold znn znq
    rw [Int64.toBitVec_toInt32, BitVec.signExtend_eq_setWidth_of_le _ (by decide), BitVec.toNat_setWidth]
  rw [znn_and, E7, show znn (nI 127) = 2 ^ 7 - 1 from rfl, Nat.and_two_pow_sub_one_eq_mod, znn_nI (by omega), ec]
  generalize znq (klb4 32 (klb4 16 (klb4 8 (klb3 (klb2 (klb1 x)))))) = Y at E6
  clear E1 E2 A2 B2 E3 E3' D4 E4 D5 E5 D6 e S4
  have e1 : Y % 4294967296 % 2 ^ 7 = Y % 256 % 128 := by omega
  rw [e1, E6]; exact Nat.mod_eq_of_lt (by omega)
