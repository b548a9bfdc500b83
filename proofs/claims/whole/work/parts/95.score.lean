/-! the scores rise alike -/
theorem sc_step {κ a b : Nat → Nat → Int32} {v : Nat} (h1 : 1 ≤ v) (h2 : v ≤ 30) (hy : kt (κ 3 16) v = true ↔ ¬ b 113 v = 0) (hs : ∀ u, 1 ≤ u → u ≤ 30 → a 21 u = b 101 (63 + u)) : ∀ u, 1 ≤ u → u ≤ 30 → k_scF κ v a 21 u = a_scF v b 101 (63 + u) := by
  intro u u1 u2
  unfold k_scF a_scF
  have ed : (if κ 3 16 &&& kb (nI v) = 0 then nI 0 else nI 16) = (if b 113 v = 0 then nI 0 else nI 16) := by
    by_cases e : b 113 v = 0
    · rw [if_pos e, if_pos ((kt_iff _ h1 h2).mpr (by
        cases x : kt (κ 3 16) v with
        | false => rfl
        | true => exact absurd e (hy.mp x)))]
    · rw [if_neg e, if_neg ((kt_niff _ h1 h2).mpr (hy.mpr e))]
  by_cases e : u = v
  · subst e
    rw [zup_same, zup_same, ed, hs u u1 u2]
  · rw [zup_i e, zup_i (show ¬ 63 + u = 63 + v by omega), zup_i (show ¬ 63 + u = 63 + v by omega)]
    exact hs u u1 u2
theorem sc_off {κ a b : Nat → Nat → Int32} {v : Nat} : (∀ p, ¬ p = 21 → k_scF κ v a p = a p) ∧ (∀ p, ¬ p = 101 → a_scF v b p = b p) ∧ ∀ j, ¬ j = 63 + v → a_scF v b 101 j = b 101 j := by
  refine ⟨fun p hp => funext fun j => ?_, fun p hp => funext fun j => ?_, fun j hj => ?_⟩
  · unfold k_scF; exact zup_p hp
  · unfold a_scF; rw [zup_p hp, zup_p hp]
  · unfold a_scF; rw [zup_i hj, zup_i hj]
