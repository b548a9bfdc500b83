/-! masks: bit v - 1 stands for the variable v -/
def kt (x : Int32) (v : Nat) : Bool := x.toBitVec.getLsbD (v - 1)
def kz (x : Int32) : Prop := ∀ i, 30 ≤ i → x.toBitVec.getLsbD i = false
theorem kt_or (x y : Int32) (v : Nat) : kt (x ||| y) v = (kt x v || kt y v) := by
  show (x ||| y).toBitVec.getLsbD (v - 1) = _
  rw [Int32.toBitVec_or, BitVec.getLsbD_or]; rfl
theorem kt_and (x y : Int32) (v : Nat) : kt (x &&& y) v = (kt x v && kt y v) := by
  show (x &&& y).toBitVec.getLsbD (v - 1) = _
  rw [Int32.toBitVec_and, BitVec.getLsbD_and]; rfl
theorem kt_0 (v : Nat) : kt 0 v = false := by
  show (0 : Int32).toBitVec.getLsbD (v - 1) = false
  simp
theorem kt_n0 (v : Nat) : kt (nI 0) v = false := kt_0 v
theorem kt_xn (x : Int32) {v : Nat} (h : v ≤ 32) (h0 : 1 ≤ v) : kt (x ^^^ (-1)) v = !kt x v := by
  show (x ^^^ (-1)).toBitVec.getLsbD (v - 1) = !(x.toBitVec.getLsbD (v - 1))
  rw [Int32.toBitVec_xor, BitVec.getLsbD_xor]
  have : (-1 : Int32).toBitVec.getLsbD (v - 1) = true := by
    rw [show (-1 : Int32).toBitVec = BitVec.allOnes 32 from by decide]
    rw [BitVec.getLsbD_allOnes]; exact decide_eq_true (by omega)
  rw [this]; cases x.toBitVec.getLsbD (v - 1) <;> rfl
theorem kb_tab : ∀ u < 31, (1 ≤ u → kb (-(nI u)) = kb (nI u)) ∧ ∀ v < 31, 1 ≤ u → 1 ≤ v → kt (kb (nI u)) v = decide (u = v) := by decide +kernel
theorem kt_kb {u v : Nat} (h1 : 1 ≤ u) (h2 : u ≤ 30) (h3 : 1 ≤ v) (h4 : v ≤ 30) : kt (kb (nI u)) v = decide (u = v) := (kb_tab u (by omega)).2 v (by omega) h1 h3
theorem kb_lok {V : Nat} {l : Int32} (h : lok V l) (hV : V ≤ 30) : kb l = kb (nI (zv l)) := by
  obtain ⟨h1, h2, -, h3, -⟩ := h.is hV
  rcases h3 with ⟨-, e⟩ | ⟨-, e⟩
  · exact congrArg kb e
  · exact (congrArg kb e).trans ((kb_tab _ (by omega)).1 h1)
theorem kb_tw : ∀ u < 30, (kb (nI (u + 1))).toBitVec = BitVec.twoPow 32 u := by decide +kernel
theorem kt_iff (x : Int32) {v : Nat} (h1 : 1 ≤ v) (h2 : v ≤ 30) : x &&& kb (nI v) = 0 ↔ kt x v = false := by
  obtain ⟨u, rfl⟩ : ∃ u, v = u + 1 := ⟨v - 1, by omega⟩
  have e := kb_tw u (by omega)
  constructor
  · intro h
    have : kt (x &&& kb (nI (u + 1))) (u + 1) = kt 0 (u + 1) := congrArg (fun z => kt z (u + 1)) h
    rw [kt_and, kt_kb h1 h2 h1 h2, decide_eq_true rfl, Bool.and_true] at this
    exact this.trans (kt_0 _)
  · intro h
    apply Int32.toBitVec_inj.mp
    rw [Int32.toBitVec_and, e]
    apply BitVec.eq_of_getLsbD_eq
    intro i hi
    rw [BitVec.getLsbD_and, BitVec.getLsbD_twoPow]
    by_cases hu : u = i
    · subst hu
      rw [show x.toBitVec.getLsbD u = false from h]; simp
    · rw [decide_eq_false hu]; simp
theorem kt_niff (x : Int32) {v : Nat} (h1 : 1 ≤ v) (h2 : v ≤ 30) : (¬ x &&& kb (nI v) = 0) ↔ kt x v = true := by
  rw [kt_iff x h1 h2]; cases kt x v <;> simp
theorem kz_0 : kz 0 := fun i _ => by simp
theorem kz_n0 : kz (nI 0) := kz_0
theorem kz_or {x y : Int32} (hx : kz x) (hy : kz y) : kz (x ||| y) := fun i hi => by
  rw [Int32.toBitVec_or, BitVec.getLsbD_or, hx i hi, hy i hi]; rfl
theorem kz_and {x : Int32} (hx : kz x) (y : Int32) : kz (x &&& y) := fun i hi => by
  rw [Int32.toBitVec_and, BitVec.getLsbD_and, hx i hi]; rfl
theorem kz_and' {y : Int32} (x : Int32) (hy : kz y) : kz (x &&& y) := fun i hi => by
  rw [Int32.toBitVec_and, BitVec.getLsbD_and, hy i hi, Bool.and_false]
theorem kz_kb {v : Nat} (h1 : 1 ≤ v) (h2 : v ≤ 30) : kz (kb (nI v)) := fun i hi => by
  obtain ⟨u, rfl⟩ : ∃ u, v = u + 1 := ⟨v - 1, by omega⟩
  rw [kb_tw u (by omega), BitVec.getLsbD_twoPow, decide_eq_false (show ¬ u = i by omega), Bool.and_false]
theorem kz_ext {x y : Int32} (hx : kz x) (hy : kz y) (h : ∀ v, 1 ≤ v → v ≤ 30 → kt x v = kt y v) : x = y := by
  apply Int32.toBitVec_inj.mp
  apply BitVec.eq_of_getLsbD_eq
  intro i hi
  by_cases h30 : 30 ≤ i
  · rw [hx i h30, hy i h30]
  · exact h (i + 1) (by omega) (by omega)
theorem kz_zero {x : Int32} (hx : kz x) : x = 0 ↔ ∀ v, 1 ≤ v → v ≤ 30 → kt x v = false :=
  ⟨fun h v _ _ => by rw [h]; exact kt_0 v, fun h => kz_ext hx kz_0 (fun v a b => by rw [h v a b, kt_0])⟩
/-- a number and the one below it share no bit: a power of two -/
theorem nat_pw : ∀ (n x : Nat), x < 2 ^ n → 0 < x → (x &&& (x - 1) = 0 ↔ ∃ i, i < n ∧ x = 2 ^ i)
  | 0, x, h, h0 => by simp at h; omega
  | n + 1, x, h, h0 => by
    have hd : (x &&& (x - 1)) / 2 = x / 2 &&& (x - 1) / 2 := Nat.and_div_two
    have hm : (x &&& (x - 1)) % 2 = 0 := by
      rcases Nat.mod_two_eq_zero_or_one (x &&& (x - 1)) with hh | hh
      · exact hh
      · have := Nat.and_mod_two_eq_one.mp hh; omega
    rcases Nat.mod_two_eq_zero_or_one x with e | e
    · have h1 : (x - 1) / 2 = x / 2 - 1 := by omega
      have ih := nat_pw n (x / 2) (by rw [Nat.pow_succ] at h; omega) (by omega)
      rw [h1] at hd
      constructor
      · intro hz
        rw [hz] at hd
        obtain ⟨i, hi, ei⟩ := ih.mp hd.symm
        exact ⟨i + 1, by omega, by rw [Nat.pow_succ]; omega⟩
      · rintro ⟨i, hi, ei⟩
        cases i with
        | zero => rw [Nat.pow_zero] at ei; omega
        | succ i =>
          have := ih.mpr ⟨i, by omega, by rw [Nat.pow_succ] at ei; omega⟩
          rw [this] at hd; omega
    · have h1 : (x - 1) / 2 = x / 2 := by omega
      rw [h1, Nat.and_self] at hd
      constructor
      · intro hz
        rw [hz] at hd
        exact ⟨0, by omega, by rw [Nat.pow_zero]; omega⟩
      · rintro ⟨i, hi, ei⟩
        cases i with
        | zero => rw [Nat.pow_zero] at ei; omega
        | succ i => rw [Nat.pow_succ] at ei; omega
theorem kz_one {x : Int32} (hx : kz x) : (¬ x = 0 ∧ x &&& (x - nI 1) = 0) ↔ ∃ v, 1 ≤ v ∧ v ≤ 30 ∧ x = kb (nI v) := by
  have hlt : x.toBitVec.toNat < 2 ^ 30 := by
    apply Nat.lt_pow_two_of_testBit
    intro i hi
    exact hx i hi
  constructor
  · rintro ⟨h0, h1⟩
    have hp : 0 < x.toBitVec.toNat := by
      rcases Nat.eq_zero_or_pos x.toBitVec.toNat with e | e
      · exact absurd (Int32.toBitVec_inj.mp (BitVec.eq_of_toNat_eq (by rw [e]; rfl))) h0
      · exact e
    have h2 : x.toBitVec.toNat &&& (x.toBitVec.toNat - 1) = 0 := by
      have := congrArg (fun z : Int32 => z.toBitVec.toNat) h1
      simp only [Int32.toBitVec_and, Int32.toBitVec_sub, BitVec.toNat_and, BitVec.toNat_sub] at this
      rw [show (nI 1).toBitVec.toNat = 1 from by decide, show (2 ^ 32 - 1 + x.toBitVec.toNat) % 2 ^ 32 = x.toBitVec.toNat - 1 by omega] at this
      exact this
    obtain ⟨i, hi, e⟩ := (nat_pw 30 _ hlt hp).mp h2
    refine ⟨i + 1, by omega, by omega, Int32.toBitVec_inj.mp (BitVec.eq_of_toNat_eq ?_)⟩
    rw [kb_tw i hi, e, BitVec.toNat_twoPow, Nat.mod_eq_of_lt (Nat.pow_lt_pow_right (by decide) (by omega))]
  · rintro ⟨v, h1, h2, rfl⟩
    exact (show ∀ v < 31, 1 ≤ v → (¬ kb (nI v) = 0 ∧ kb (nI v) &&& (kb (nI v) - nI 1) = 0) by decide +kernel) v (by omega) h1
theorem kbc_kb : ∀ v < 31, 1 ≤ v → kbc (kb (nI v) - nI 1) + nI 1 = nI v := by decide +kernel
