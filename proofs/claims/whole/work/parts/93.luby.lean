/-! both count their starts alike; the choice and the assumptions -/
theorem lub_eq : ∀ i < 210, 1 ≤ i → lubF 208 i = k_lub i := by decide +kernel
section CH
variable {κ α : Nat → Nat → Int32}
theorem first_eq (hA : κ 19 1 = α 101 3) (hl : ∀ k, k < aA α → κ 20 k = α 101 (16 + k) ∧ lok 30 (α 101 (16 + k))) (h : asR (κ 3 6) (κ 3 7) (α 105)) : k_first κ = a_assOpen α := by
  unfold k_first a_assOpen
  rw [show kA κ = aA α from by unfold kA aA; rw [hA]]
  refine zfind_congr (fun k _ hk => ?_)
  obtain ⟨e, hL⟩ := hl k (by omega)
  obtain ⟨v, h1, h2, ev, d⟩ := lok_two hL
  have N := zv_tab (v := v) (by omega) h1
  have X := ztr_tab _ (h.val h1 h2)
  have ekb : kb (α 101 (16 + k)) = kb (nI v) := by have := kb_lok hL (Nat.le_refl _); rwa [ev] at this
  have nle : ∀ x : Int32, (x = nI 1 ∨ x = -1 ∨ x = 0) → ((x ≤ 0 ↔ ¬ x = nI 1) ∧ (-x ≤ 0 ↔ ¬ x = -1)) := by rintro x (rfl | rfl | rfl) <;> decide
  have Y := nle _ (h.val h1 h2)
  unfold k_asB a_tr
  rw [e, ekb, ev, decide_eq_decide]
  rcases d with d | d
  · rw [d, if_pos N.1, if_pos N.1, kt_iff _ h1 h2, Y.1, ← h.pos h1 h2]; simp
  · rw [d, if_neg N.2.1, if_neg N.2.1, kt_iff _ h1 h2, Y.2, ← h.neg h1 h2]; simp
end CH
