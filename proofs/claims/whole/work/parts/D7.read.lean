/-! the reference's place in the text, and the class's token -/
section RD
variable {κ α : Nat → Nat → Int32}
theorem zspan_cg {P Q : Nat → Bool} : ∀ m p, (∀ i, p ≤ i → i < p + m → P i = Q i) → zspan P m p = zspan Q m p
  | 0, p, _ => rfl
  | m + 1, p, h => by
    unfold zspan
    rw [h p (Nat.le_refl _) (by omega), zspan_cg m (p + 1) (fun i a b => h i (by omega) (by omega))]
/-- one text: its length and its bytes -/
def txE (κ α : Nat → Nat → Int32) : Prop := kLen κ ≤ 400 ∧ aLen α = kLen κ ∧ ∀ i, i < kLen κ → κ 77 i = α 121 i ∧ ∃ b : Int8, α 121 i = b.toInt32
theorem txE.bl (h : txE κ α) {i : Nat} (hi : i < kLen κ) : a_blank α i = k_bl κ i := by unfold a_blank k_bl; rw [(h.2.2 i hi).1]
theorem txE.dg (h : txE κ α) {i : Nat} (hi : i < kLen κ) : a_dgt α i = k_dg κ i := by unfold a_dgt a_dig k_dg; rw [(h.2.2 i hi).1]
theorem txE.lt (h : txE κ α) {i : Nat} (hi : i < kLen κ) : a_let α i = k_lt κ i := by unfold a_let k_lt; rw [(h.2.2 i hi).1]
theorem txE.hp (h : txE κ α) {e : Nat} (he : aPl α = e) (hl : e ≤ kLen κ) : a_hp α = zspan (k_bl κ) (kLen κ - e) e := by
  unfold a_hp
  rw [he, h.2.1]
  exact zspan_cg _ _ (fun i a b => h.bl (by omega))
theorem txE.start (h : txE κ α) (he : aPl α = 0) : a_hp α = tkP κ 0 := h.hp he (Nat.zero_le _)
theorem txE.next (h : txE κ α) {j : Nat} (hj : tkP κ j < kLen κ) (he : aPl α = k_eot κ (tkP κ j)) : a_hp α = tkP κ (j + 1) := by
  rw [h.hp he (eot_rng hj).2]
  show _ = (if tkP κ j < kLen κ then zspan (k_bl κ) (kLen κ - k_eot κ (tkP κ j)) (k_eot κ (tkP κ j)) else tkP κ j)
  rw [if_pos hj]
/-- a byte as the reference sees it -/
theorem by_tab : ∀ n < 256, ((BitVec.ofNat 8 n).toInt < 0 → (Int8.ofBitVec (BitVec.ofNat 8 n)).toInt32 < 0 ∧ nI 127 < ((Int8.ofBitVec (BitVec.ofNat 8 n)).toInt32 &&& nI 255)) ∧ (¬ (BitVec.ofNat 8 n).toInt < 0 → (Int8.ofBitVec (BitVec.ofNat 8 n)).toInt32 &&& nI 255 = (Int8.ofBitVec (BitVec.ofNat 8 n)).toInt32) := by decide +kernel
theorem by_is (b : Int8) : (b.toInt32 < 0 ∧ nI 127 < (b.toInt32 &&& nI 255)) ∨ b.toInt32 &&& nI 255 = b.toInt32 := by
  have T := by_tab b.toBitVec.toNat b.toBitVec.isLt
  have e : Int8.ofBitVec (BitVec.ofNat 8 b.toBitVec.toNat) = b := by rw [BitVec.ofNat_toNat, BitVec.setWidth_eq]; exact Int8.ofBitVec_toBitVec b
  rw [e] at T
  by_cases h : (BitVec.ofNat 8 b.toBitVec.toNat).toInt < 0
  · exact .inl (T.1 h)
  · exact .inr (T.2 h)
/-- the character at a token -/
theorem txE.chr (h : txE κ α) {f : Nat} (hf : a_hp α = f) (hl : f < kLen κ) : (∀ c, c ≤ 127 → (a_chr α = nI c ↔ κ 77 f = nI c)) ∧ a_dig (a_chr α) = k_dg κ f ∧ ¬ a_chr α = -1 := by
  obtain ⟨e1, b, e2⟩ := h.2.2 f hl
  have ec : a_chr α = b.toInt32 &&& nI 255 := by unfold a_chr; rw [hf, h.2.1, if_pos hl, e2]
  rw [e1, e2]
  unfold a_dig k_dg
  rw [ec, e1, e2]
  rcases by_is b with ⟨x, y⟩ | x
  · refine ⟨fun c hc => ⟨fun z => ?_, fun z => ?_⟩, ?_, fun z => ?_⟩
    · rw [z] at y; have := (nI_ltI (by decide) (by omega)).mp y; omega
    · rw [z] at x; exact absurd x (Int32.not_lt.mpr (nI_le (a := 0) (Nat.zero_le _) (by omega)))
    · have n1 : decide (b.toInt32 &&& nI 255 ≤ nI 57) = false := decide_eq_false (fun z => absurd (Int32.lt_of_lt_of_le y z) (by decide))
      have n2 : decide (nI 48 ≤ b.toInt32) = false := decide_eq_false (fun z => absurd (Int32.lt_of_le_of_lt z x) (by decide))
      rw [n1, n2, Bool.and_false, Bool.false_and]
    · rw [z] at y; exact absurd y (by decide)
  · rw [x]
    refine ⟨fun c _ => Iff.rfl, rfl, fun z => ?_⟩
    rw [z] at x; exact absurd x (by decide)
theorem txE.end (h : txE κ α) (hf : a_hp α = kLen κ) : a_chr α = -1 := by unfold a_chr; rw [hf, h.2.1, if_neg (Nat.lt_irrefl _)]
end RD
