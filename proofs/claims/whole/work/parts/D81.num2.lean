/-! a number is read, or refused -/
section NV
variable {κ α : Nat → Nat → Int32}
theorem txE.num (h : txE κ α) {f : Nat} (hf : a_hp α = f) (hl : f < kLen κ) (hd : k_dg κ f = true) (h2 : k_eot κ f - f ≤ 2) : a_number α = zup α 100 24 (nI (k_eot κ f)) := by
  have er := eot_rng hl
  unfold a_number
  rw [h.nq hf hl hd, hf, if_pos ⟨by omega, h2⟩]
theorem txE.numF (h : txE κ α) {f : Nat} (hf : a_hp α = f) (hl : f ≤ kLen κ) (h0 : α 100 25 = 0) (hn : ¬ (f < kLen κ ∧ k_dg κ f = true ∧ k_eot κ f - f ≤ 2)) : a_number α 100 25 = nI 1 + nI 8 * nI f := by
  have nq : ¬ (1 ≤ a_nq α - f ∧ a_nq α - f ≤ 2) := by
    by_cases lt : f < kLen κ
    · by_cases hd : k_dg κ f = true
      · rw [h.nq hf lt hd]; exact fun x => hn ⟨lt, hd, x.2⟩
      · have : a_nq α = f := by unfold a_nq; rw [(h.chr hf lt).2.1, if_neg hd]; exact hf
        rw [this]; omega
    · have : a_nq α = f := by
        unfold a_nq
        rw [h.end (by omega), if_neg (by decide)]; exact hf
      rw [this]; omega
  unfold a_number a_fails
  rw [hf, if_neg nq, zup_i (by decide), if_pos h0, zup_same]
end NV
