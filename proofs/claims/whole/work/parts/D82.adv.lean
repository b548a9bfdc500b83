/-! the class goes on to the next token -/
section AV
variable {κ κ' : Nat → Nat → Int32} {m j : Nat}
/-- the class stands at token j -/
def tkN (κ κ' : Nat → Nat → Int32) (m j : Nat) : Prop := tkS κ κ' m ∧ j ≤ m ∧ κ' 5 4 = nI j ∧ κ' 5 7 = κ' 78 j
theorem tok0_at (n : Nat) {p i : Nat} (h : ¬ (p = 5 ∧ (i = 4 ∨ i = 7))) : k_tok0 κ' n p i = κ' p i := by unfold k_tok0; exact (if_neg (by omega)).trans (if_neg (by omega))
theorem tkN.adv (h : tkN κ κ' m j) (hj : j < m) : k_adv κ' = k_tok0 κ' (j + 1) ∧ tkN κ (k_adv κ') m (j + 1) := by
  obtain ⟨s, -, h4, h7⟩ := h
  have hm := s.1
  have c4 : (κ' 5 4).toNatClampNeg = j := by rw [h4]; exact nI_clamp (by omega)
  have c3 : (κ' 5 3).toNatClampNeg = m + 1 := by rw [s.2.1]; exact nI_clamp (by omega)
  have e : k_adv κ' = k_tok0 κ' (j + 1) := by unfold k_adv; rw [c4, c3, if_pos (by omega)]
  refine ⟨e, ?_⟩
  rw [e]
  refine ⟨s.of (tok0_at _ (by omega)) (funext fun i => tok0_at _ (by omega)) (funext fun i => tok0_at _ (by omega)), by omega, ?_, ?_⟩
  · unfold k_tok0; rw [zup_i (by decide), zup_same]
  · rw [show k_tok0 κ' (j + 1) 78 (j + 1) = κ' 78 (j + 1) from tok0_at _ (by omega)]; unfold k_tok0; rw [zup_same]
/-- the place of the token now -/
theorem tkN.pl (h : tkN κ κ' m j) : κ' 79 (κ' 5 4).toNatClampNeg = nI (tkP κ j) := by
  obtain ⟨s, hj, h4, -⟩ := h
  have hm := s.1
  rw [h4, nI_clamp (show j < 2 ^ 31 by omega)]
  by_cases e : j = m
  · subst e; rw [s.2.2.1]; exact s.2.2.2.2.2
  · exact (s.2.2.2.1 j (by omega)).2.2
/-- the token now -/
theorem tkN.tok (h : tkN κ κ' m j) : (j < m → tkP κ j < kLen κ ∧ κ' 5 7 = k_tokOf κ (tkP κ j) (k_eot κ (tkP κ j))) ∧ (j = m → tkP κ j = kLen κ ∧ κ' 5 7 = -7) := by
  obtain ⟨s, hj, h4, h7⟩ := h
  refine ⟨fun x => ?_, fun x => ?_⟩
  · obtain ⟨a, b, -⟩ := s.2.2.2.1 j x
    exact ⟨a, h7.trans b⟩
  · subst x; exact ⟨s.2.2.1, h7.trans s.2.2.2.2.1⟩
end AV
