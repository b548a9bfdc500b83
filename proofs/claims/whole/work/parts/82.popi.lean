/-! how many bits: Integer.bitCount, Long.bitCount -/
def znn (x : Int32) : Nat := x.toBitVec.toNat
def znq (x : Int64) : Nat := x.toBitVec.toNat
theorem znn_lt (x : Int32) : znn x < 4294967296 := x.toBitVec.isLt
theorem znq_lt (x : Int64) : znq x < 18446744073709551616 := x.toBitVec.isLt
theorem znn_inj {x y : Int32} (h : znn x = znn y) : x = y := Int32.toBitVec_inj.mp (BitVec.eq_of_toNat_eq h)
theorem znn_and (x y : Int32) : znn (x &&& y) = znn x &&& znn y := by unfold znn; rw [Int32.toBitVec_and, BitVec.toNat_and]
theorem znn_add {x y : Int32} (h : znn x + znn y < 4294967296) : znn (x + y) = znn x + znn y := by
  unfold znn at *; rw [Int32.toBitVec_add, BitVec.toNat_add]; exact Nat.mod_eq_of_lt h
theorem znn_sub {x y : Int32} (h : znn y ≤ znn x) : znn (x - y) = znn x - znn y := by
  have := znn_lt x; have := znn_lt y
  unfold znn at *; rw [Int32.toBitVec_sub, BitVec.toNat_sub]; omega
theorem znn_sh (x : Int32) (u : UInt32) (k : Nat) (h : u.toNat % 32 = k) : znn (x.toUInt32 >>> u).toInt32 = znn x / 2 ^ k := by
  show (x.toUInt32 >>> u).toNat = _
  rw [UInt32.toNat_shiftRight, h, Nat.shiftRight_eq_div_pow]; rfl
theorem znq_and (x y : Int64) : znq (x &&& y) = znq x &&& znq y := by unfold znq; rw [Int64.toBitVec_and, BitVec.toNat_and]
theorem znq_add {x y : Int64} (h : znq x + znq y < 18446744073709551616) : znq (x + y) = znq x + znq y := by
  unfold znq at *; rw [Int64.toBitVec_add, BitVec.toNat_add]; exact Nat.mod_eq_of_lt h
theorem znq_sub {x y : Int64} (h : znq y ≤ znq x) : znq (x - y) = znq x - znq y := by
  have := znq_lt x; have := znq_lt y
  unfold znq at *; rw [Int64.toBitVec_sub, BitVec.toNat_sub]; omega
theorem znq_sh (x : Int64) (u : UInt64) (k : Nat) (h : u.toNat % 64 = k) : znq (x.toUInt64 >>> u).toInt64 = znq x / 2 ^ k := by
  show (x.toUInt64 >>> u).toNat = _
  rw [UInt64.toNat_shiftRight, h, Nat.shiftRight_eq_div_pow]; rfl
theorem znn_nI {n : Nat} (h : n < 2 ^ 31) : znn (nI n) = n := by
  show (Int32.ofNat n).toBitVec.toNat = n
  rw [Int32.toBitVec_ofNat', BitVec.toNat_ofNat]; exact Nat.mod_eq_of_lt (by omega)
theorem kbc_is (x : Int32) : kbc x = nI (zcnt (fun i => (znn x).testBit i) 0 32) := by
  obtain ⟨c0, c1, c2, c3, h0, h1, h2, h3, e, ec⟩ := pop32 (znn x) (znn_lt x)
  have E1 : znn (kbc1 x) = zp1 4 (znn x) := by
    unfold kbc1 zp1
    have e1 : znn ((x.toUInt32 >>> (Int32.toUInt32 (nI 1) &&& Int32.toUInt32 31)).toInt32 &&& 1431655765) = znn x / 2 &&& zrep 85 4 := by
      rw [znn_and, znn_sh x _ 1 (by decide)]; rfl
    rw [znn_sub, e1]
    rw [e1]; exact Nat.le_trans Nat.and_le_left (Nat.div_le_self _ _)
  have A2 : ∀ y : Int32, znn (kbc2 y) = zp2 4 (znn y) := fun y => by
    unfold kbc2 zp2
    have e1 : znn (y &&& 858993459) = znn y &&& zrep 51 4 := znn_and _ _
    have e2 : znn ((y.toUInt32 >>> (Int32.toUInt32 (nI 2) &&& Int32.toUInt32 31)).toInt32 &&& 858993459) = znn y / 4 &&& zrep 51 4 := by
      rw [znn_and, znn_sh y _ 2 (by decide)]; rfl
    have l1 : znn y &&& zrep 51 4 ≤ zrep 51 4 := Nat.and_le_right
    have l2 : znn y / 4 &&& zrep 51 4 ≤ zrep 51 4 := Nat.and_le_right
    have l3 : zrep 51 4 = 858993459 := rfl
    rw [znn_add, e1, e2]
    rw [e1, e2]; omega
  have E2 := A2 (kbc1 x)
  have B2 : znn (kbc2 (kbc1 x)) ≤ 2 * 858993459 := by
    rw [E2]; unfold zp2
    have l1 : znn (kbc1 x) &&& zrep 51 4 ≤ zrep 51 4 := Nat.and_le_right
    have l2 : znn (kbc1 x) / 4 &&& zrep 51 4 ≤ zrep 51 4 := Nat.and_le_right
    have l3 : zrep 51 4 = 858993459 := rfl
    omega
  have E3 : znn (kbc3 (kbc2 (kbc1 x))) = zp3 4 (zp2 4 (zp1 4 (znn x))) := by
    unfold kbc3
    have e1 : znn ((kbc2 (kbc1 x)).toUInt32 >>> (Int32.toUInt32 (nI 4) &&& Int32.toUInt32 31)).toInt32 = znn (kbc2 (kbc1 x)) / 16 := znn_sh _ _ 4 (by decide)
    rw [znn_and, znn_add (by rw [e1]; omega), e1, E2, E1]; rfl
  rw [e] at E3
  have S4 : ∀ (k : Nat) (y : Int32), k < 32 → znn y + znn y / 2 ^ k < 4294967296 → znn (kbc4 k y) = znn y + znn y / 2 ^ k := fun k y hk hb => by
    unfold kbc4
    have e1 : znn (y.toUInt32 >>> (Int32.toUInt32 (nI k) &&& Int32.toUInt32 31)).toInt32 = znn y / 2 ^ k := znn_sh _ _ k ((show ∀ k < 32, (Int32.toUInt32 (nI k) &&& Int32.toUInt32 31).toNat % 32 = k by decide +kernel) k hk)
    rw [znn_add (by rw [e1]; exact hb), e1]
  have E4 : znn (kbc4 8 (kbc3 (kbc2 (kbc1 x)))) = (c0 + c1) + 256 * (c1 + c2) + 65536 * (c2 + c3) + 16777216 * c3 := by
    rw [S4 8 _ (by decide) (by rw [E3]; omega), E3]; omega
  have E5 : znn (kbc4 16 (kbc4 8 (kbc3 (kbc2 (kbc1 x))))) = (c0 + c1 + c2 + c3) + 256 * (c1 + c2 + c3) + 65536 * (c2 + c3) + 16777216 * c3 := by
    rw [S4 16 _ (by decide) (by rw [E4]; omega), E4]; omega
  apply znn_inj
  unfold kbc
  rw [znn_and, E5, show znn (nI 63) = 2 ^ 6 - 1 from rfl, Nat.and_two_pow_sub_one_eq_mod, znn_nI (by omega), ec]
  omega
theorem kbc_kt {x : Int32} (h : kz x) : kbc x = nI (zcnt (kt x) 1 30) := by
  rw [kbc_is]
  refine congrArg nI ?_
  have e2 : zcnt (fun i => (znn x).testBit i) (0 + 30) 2 = 0 := zcnt_zero.mpr (fun j hj _ => h j (by omega))
  have e1 : zcnt (kt x) (0 + 1) 30 = zcnt (fun i => kt x (i + 1)) 0 30 := zcnt_sh _ 1 30 0
  rw [show 32 = 30 + 2 from rfl, zcnt_add, e2, Nat.add_zero]
  exact (zcnt_congr (fun j _ _ => rfl)).trans e1.symm
