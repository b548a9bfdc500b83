/-! worlds as bits of longs -/
def lb (x : Int64) (i : Nat) : Bool := x.toBitVec.getLsbD i
theorem lb_and (x y : Int64) (i : Nat) : lb (x &&& y) i = (lb x i && lb y i) := by
  show (x &&& y).toBitVec.getLsbD i = _
  rw [Int64.toBitVec_and, BitVec.getLsbD_and]; rfl
theorem lb_or (x y : Int64) (i : Nat) : lb (x ||| y) i = (lb x i || lb y i) := by
  show (x ||| y).toBitVec.getLsbD i = _
  rw [Int64.toBitVec_or, BitVec.getLsbD_or]; rfl
theorem lb_m1 {i : Nat} (h : i < 64) : lb (-1) i = true := by
  show (-1 : Int64).toBitVec.getLsbD i = true
  rw [show (-1 : Int64).toBitVec = BitVec.allOnes 64 from by decide, BitVec.getLsbD_allOnes]
  exact decide_eq_true h
theorem lb_xn (x : Int64) {i : Nat} (h : i < 64) : lb (x ^^^ (-1)) i = !lb x i := by
  show (x ^^^ (-1)).toBitVec.getLsbD i = !(x.toBitVec.getLsbD i)
  rw [Int64.toBitVec_xor, BitVec.getLsbD_xor, show (-1 : Int64).toBitVec.getLsbD i = true from lb_m1 h]
  cases x.toBitVec.getLsbD i <;> rfl
theorem lb_0 (i : Nat) : lb 0 i = false := by
  show (0 : Int64).toBitVec.getLsbD i = false
  simp
theorem lb_ext {x y : Int64} (h : ∀ i, i < 64 → lb x i = lb y i) : x = y := Int64.toBitVec_inj.mp (BitVec.eq_of_getLsbD_eq (fun i hi => h i hi))
theorem lb_zero {x : Int64} : x = 0 ↔ ∀ i, i < 64 → lb x i = false := ⟨fun h i _ => by rw [h]; exact lb_0 i, fun h => lb_ext (fun i hi => by rw [h i hi, lb_0])⟩
theorem lb_pop (x : Int64) : klb x = nI (zcnt (lb x) 0 64) := by
  rw [klb_is]
  exact congrArg nI (zcnt_congr (fun i _ _ => BitVec.testBit_toNat _))
theorem col_tab : ∀ j < 6, ∀ i < 64, lb (zcol j) i = i.testBit j := by decide +kernel
theorem col_hi : ∀ w < 64, ∀ j < 6, (decide (nI w >>> ((nI (j + 7) - nI 6 - nI 1) &&& 31) &&& nI 1 = 0)) = !(w.testBit j) := by decide +kernel
theorem ful_tab : ∀ V < 6, ∀ i < 64, lb (k_ful V) i = decide (i < 2 ^ V) := by decide +kernel
theorem tb_64 {w i j : Nat} (hi : i < 64) : (64 * w + i).testBit j = if j < 6 then i.testBit j else w.testBit (j - 6) := by
  rw [show 64 * w + i = 2 ^ 6 * w + i from rfl, Nat.testBit_two_pow_mul_add _ (show i < 2 ^ 6 from hi)]
theorem lb_col {v w i : Nat} (h1 : 1 ≤ v) (h2 : v ≤ 12) (hw : w < 64) (hi : i < 64) : lb (k_col v w) i = (64 * w + i).testBit (v - 1) := by
  unfold k_col
  rw [tb_64 hi]
  by_cases e : v ≤ 6
  · rw [if_pos e, if_pos (by omega)]; exact col_tab (v - 1) (by omega) i hi
  · rw [if_neg e, if_neg (show ¬ v - 1 < 6 by omega)]
    have := col_hi w hw (v - 7) (by omega)
    rw [show v - 7 + 7 = v from by omega] at this
    rw [show v - 1 - 6 = v - 7 from by omega]
    cases x : w.testBit (v - 7) with
    | true =>
      rw [x] at this
      rw [if_neg (of_decide_eq_false this)]; exact lb_m1 hi
    | false =>
      rw [x] at this
      rw [if_pos (of_decide_eq_true this)]; exact lb_0 i
theorem kt_nI {n v : Nat} (h1 : 1 ≤ v) (h : v ≤ 32) : kt (nI n) v = n.testBit (v - 1) := by
  show (nI n).toBitVec.getLsbD (v - 1) = _
  rw [show (nI n).toBitVec = BitVec.ofNat 32 n from rfl, BitVec.getLsbD_ofNat, decide_eq_true (show v - 1 < 32 by omega), Bool.true_and]
theorem sh_tab : ∀ j < 12, (((nI (j + 1) - nI 1) &&& 31 : Int32).toBitVec.smod 32).toNat = j := by decide +kernel
theorem and1 (m : Nat) : nI m &&& nI 1 = nI 1 ↔ m.testBit 0 = true := by
  have e : kt (nI m &&& nI 1) 1 = m.testBit 0 := by rw [kt_and, kt_nI (by decide) (by decide), show kt (nI 1) 1 = true from by decide, Bool.and_true]
  constructor
  · intro h; rw [h] at e; rw [← e]; decide
  · intro h
    refine kz_ext (kz_and' _ (fun i hi => ?_)) (fun i hi => ?_) (fun v v1 v2 => ?_)
    · rw [show (nI 1).toBitVec = BitVec.ofNat 32 1 from rfl, BitVec.getLsbD_ofNat, show Nat.testBit 1 i = false from Nat.testBit_lt_two_pow (Nat.one_lt_two_pow (by omega)), Bool.and_false]
    · rw [show (nI 1).toBitVec = BitVec.ofNat 32 1 from rfl, BitVec.getLsbD_ofNat, show Nat.testBit 1 i = false from Nat.testBit_lt_two_pow (Nat.one_lt_two_pow (by omega)), Bool.and_false]
    · by_cases ev : v = 1
      · subst ev; rw [e, h]; decide
      · rw [kt_and, kt_nI (n := 1) v1 (by omega), show Nat.testBit 1 (v - 1) = false from Nat.testBit_lt_two_pow (Nat.one_lt_two_pow (by omega)), Bool.and_false]
theorem mb_is {s v : Nat} (hs : s < 2 ^ 31) (h1 : 1 ≤ v) (h2 : v ≤ 12) : (nI s >>> ((nI v - nI 1) &&& 31)) &&& nI 1 = nI 1 ↔ s.testBit (v - 1) = true := by
  have := sh_tab (v - 1) (by omega)
  rw [show v - 1 + 1 = v from by omega] at this
  rw [pk_shrN hs _ (v - 1) this, and1, Nat.testBit_div_two_pow, Nat.zero_add]
