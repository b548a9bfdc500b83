/-! how many bits: the JDK's way, byte by byte -/
def zrep (m : Nat) : Nat → Nat
  | 0 => 0
  | n + 1 => 256 * zrep m n + m
theorem and_by (q r M m : Nat) (hr : r < 256) (hm : m < 256) : (256 * q + r) &&& (256 * M + m) = 256 * (q &&& M) + (r &&& m) := by
  apply Nat.eq_of_testBit_eq
  intro i
  have hrm : r &&& m < 2 ^ 8 := Nat.and_lt_two_pow r (show m < 2 ^ 8 from hm)
  rw [Nat.testBit_and, show (256 : Nat) = 2 ^ 8 from rfl, Nat.testBit_two_pow_mul_add q hr, Nat.testBit_two_pow_mul_add M hm, Nat.testBit_two_pow_mul_add _ hrm]
  by_cases h : i < 8
  · rw [if_pos h, if_pos h, if_pos h, Nat.testBit_and]
  · rw [if_neg h, if_neg h, if_neg h, Nat.testBit_and]
def zp1 (n x : Nat) : Nat := x - (x / 2 &&& zrep 85 n)
def zp2 (n x : Nat) : Nat := (x &&& zrep 51 n) + (x / 4 &&& zrep 51 n)
def zp3 (n x : Nat) : Nat := (x + x / 16) &&& zrep 15 n
def zc1 (r : Nat) : Nat := r - (r / 2 &&& 85)
def zc2 (r : Nat) : Nat := (r &&& 51) + (r / 4 &&& 51)
theorem zp_tab1 : ∀ r < 256, ∀ b < 2, (128 * b + r / 2) &&& 85 = r / 2 &&& 85 := by decide +kernel
theorem zp_tab2 : ∀ r < 256, ∀ b < 4, (64 * b + r / 4) &&& 51 = r / 4 &&& 51 := by decide +kernel
theorem zp_tab3 : ∀ r < 256, zc1 r < 256 ∧ r / 2 &&& 85 ≤ r ∧ zc2 (zc1 r) % 16 ≤ 4 ∧ zc2 (zc1 r) ≤ 68 ∧ (zc2 (zc1 r) + zc2 (zc1 r) / 16) % 16 = zcnt (fun i => r.testBit i) 0 8 ∧ zcnt (fun i => r.testBit i) 0 8 ≤ 8 := by decide +kernel
theorem zp1_by (n q r : Nat) (hr : r < 256) : zp1 (n + 1) (256 * q + r) = 256 * zp1 n q + zc1 r := by
  unfold zp1
  have e : (256 * q + r) / 2 = 256 * (q / 2) + (128 * (q % 2) + r / 2) := by omega
  rw [e]
  show 256 * q + r - (_ &&& (256 * zrep 85 n + 85)) = _
  rw [and_by _ _ _ _ (by omega) (by decide), zp_tab1 r hr _ (Nat.mod_lt _ (by decide))]
  have h1 : q / 2 &&& zrep 85 n ≤ q := Nat.le_trans Nat.and_le_left (Nat.div_le_self _ _)
  have h2 := (zp_tab3 r hr).2.1
  unfold zc1
  omega
theorem zp2_by (n q r : Nat) (hr : r < 256) : zp2 (n + 1) (256 * q + r) = 256 * zp2 n q + zc2 r := by
  unfold zp2
  have e : (256 * q + r) / 4 = 256 * (q / 4) + (64 * (q % 4) + r / 4) := by omega
  rw [e]
  show (_ &&& (256 * zrep 51 n + 51)) + (_ &&& (256 * zrep 51 n + 51)) = _
  rw [and_by _ _ _ _ hr (by decide), and_by _ _ _ _ (by omega) (by decide), zp_tab2 r hr _ (Nat.mod_lt _ (by decide))]
  unfold zc2
  omega
theorem and15 (a : Nat) : a &&& 15 = a % 16 := Nat.and_two_pow_sub_one_eq_mod a 4
theorem zp3_by (n q r : Nat) (hr : r ≤ 68) (hq : q % 16 ≤ 4) : zp3 (n + 1) (256 * q + r) = 256 * zp3 n q + (r + r / 16) % 16 := by
  unfold zp3
  have e : (256 * q + r) + (256 * q + r) / 16 = 256 * (q + q / 16) + (r + 16 * (q % 16) + r / 16) := by omega
  rw [e]
  show (_ &&& (256 * zrep 15 n + 15)) = _
  rw [and_by _ _ _ _ (by omega) (by decide), and15, show (r + 16 * (q % 16) + r / 16) % 16 = (r + r / 16) % 16 by omega]
def zpc : Nat → Nat → Nat
  | 0, _ => 0
  | n + 1, x => 256 * zpc n (x / 256) + zcnt (fun i => (x % 256).testBit i) 0 8
theorem zp12_low (n x : Nat) (h : x < 256 ^ n) : zp2 n (zp1 n x) % 16 ≤ 4 := by
  cases n with
  | zero => rw [Nat.pow_zero] at h; have : x = 0 := by omega
            subst this; decide
  | succ n =>
    have hr : x % 256 < 256 := Nat.mod_lt _ (by decide)
    have T := zp_tab3 _ hr
    have e : x = 256 * (x / 256) + x % 256 := by omega
    rw [e, zp1_by _ _ _ hr, zp2_by _ _ _ T.1]
    have := T.2.2.1
    omega
theorem zp_all : ∀ (n x : Nat), x < 256 ^ n → zp3 n (zp2 n (zp1 n x)) = zpc n x
  | 0, x, h => by
    rw [Nat.pow_zero] at h; have : x = 0 := by omega
    subst this; decide
  | n + 1, x, h => by
    have hr : x % 256 < 256 := Nat.mod_lt _ (by decide)
    have T := zp_tab3 _ hr
    have hq : x / 256 < 256 ^ n := by rw [Nat.pow_succ] at h; omega
    have e : zp3 (n + 1) (zp2 (n + 1) (zp1 (n + 1) x)) = zp3 (n + 1) (zp2 (n + 1) (zp1 (n + 1) (256 * (x / 256) + x % 256))) := by rw [show 256 * (x / 256) + x % 256 = x by omega]
    rw [e, zp1_by _ _ _ hr, zp2_by _ _ _ T.1, zp3_by _ _ _ T.2.2.2.1 (zp12_low n _ hq), zp_all n _ hq, T.2.2.2.2.1]
    rfl
theorem zcnt_sh (p : Nat → Bool) (d : Nat) : ∀ m k, zcnt p (k + d) m = zcnt (fun i => p (i + d)) k m
  | 0, k => rfl
  | m + 1, k => by
    unfold zcnt
    rw [show k + d + 1 = (k + 1) + d by omega, zcnt_sh p d m (k + 1)]
theorem tb_hi (x i : Nat) : x.testBit (i + 8) = (x / 256).testBit i := by
  rw [show x / 256 = x >>> 8 from (Nat.shiftRight_eq_div_pow x 8).symm, Nat.testBit_shiftRight, Nat.add_comm]
theorem tb_lo (x i : Nat) (h : i < 8) : x.testBit i = (x % 256).testBit i := by
  rw [show (256 : Nat) = 2 ^ 8 from rfl, Nat.testBit_mod_two_pow, decide_eq_true h]; rfl
theorem zcnt_byte (x n : Nat) : zcnt (fun i => x.testBit i) 0 (8 + n) = zcnt (fun i => (x % 256).testBit i) 0 8 + zcnt (fun i => (x / 256).testBit i) 0 n := by
  rw [zcnt_add]
  congr 1
  · exact zcnt_congr (fun j _ hj => tb_lo x j (by omega))
  · rw [show 0 + 8 = 0 + 8 from rfl, zcnt_sh]
    exact zcnt_congr (fun j _ _ => tb_hi x j)
theorem pop32 (x : Nat) (h : x < 2 ^ 32) : ∃ c0 c1 c2 c3, c0 ≤ 8 ∧ c1 ≤ 8 ∧ c2 ≤ 8 ∧ c3 ≤ 8 ∧ zp3 4 (zp2 4 (zp1 4 x)) = c0 + 256 * c1 + 65536 * c2 + 16777216 * c3 ∧ zcnt (fun i => x.testBit i) 0 32 = c0 + c1 + c2 + c3 := by
  have B : ∀ y, zcnt (fun i => (y % 256).testBit i) 0 8 ≤ 8 := fun y => zcnt_le _ _ _
  refine ⟨_, _, _, _, B x, B (x / 256), B (x / 256 / 256), B (x / 256 / 256 / 256), ?_, ?_⟩
  · rw [zp_all 4 x (by simpa using h)]
    show 256 * (256 * (256 * (256 * 0 + _) + _) + _) + _ = _
    omega
  · rw [show 32 = 8 + (8 + (8 + (8 + 0))) from rfl, zcnt_byte, zcnt_byte, zcnt_byte, zcnt_byte]
    show _ + (_ + (_ + (_ + 0))) = _
    omega
theorem pop64 (x : Nat) (h : x < 2 ^ 64) : ∃ c0 c1 c2 c3 c4 c5 c6 c7, c0 ≤ 8 ∧ c1 ≤ 8 ∧ c2 ≤ 8 ∧ c3 ≤ 8 ∧ c4 ≤ 8 ∧ c5 ≤ 8 ∧ c6 ≤ 8 ∧ c7 ≤ 8 ∧ zp3 8 (zp2 8 (zp1 8 x)) = c0 + 256 * c1 + 65536 * c2 + 16777216 * c3 + 4294967296 * c4 + 1099511627776 * c5 + 281474976710656 * c6 + 72057594037927936 * c7 ∧ zcnt (fun i => x.testBit i) 0 64 = c0 + c1 + c2 + c3 + c4 + c5 + c6 + c7 := by
  have B : ∀ y, zcnt (fun i => (y % 256).testBit i) 0 8 ≤ 8 := fun y => zcnt_le _ _ _
  refine ⟨_, _, _, _, _, _, _, _, B x, B (x / 256), B (x / 256 / 256), B (x / 256 / 256 / 256), B (x / 256 / 256 / 256 / 256), B (x / 256 / 256 / 256 / 256 / 256), B (x / 256 / 256 / 256 / 256 / 256 / 256), B (x / 256 / 256 / 256 / 256 / 256 / 256 / 256), ?_, ?_⟩
  · rw [zp_all 8 x (by simpa using h)]
    show 256 * (256 * (256 * (256 * (256 * (256 * (256 * (256 * 0 + _) + _) + _) + _) + _) + _) + _) + _ = _
    omega
  · rw [show 64 = 8 + (8 + (8 + (8 + (8 + (8 + (8 + (8 + 0))))))) from rfl, zcnt_byte, zcnt_byte, zcnt_byte, zcnt_byte, zcnt_byte, zcnt_byte, zcnt_byte, zcnt_byte]
    show _ + (_ + (_ + (_ + (_ + (_ + (_ + (_ + 0))))))) = _
    omega
