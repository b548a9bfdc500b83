/-! the scores, the whole loop -/
theorem sc_all {κ : Nat → Nat → Int32} : ∀ (m k : Nat) (a b : Nat → Nat → Int32), 1 ≤ k → k + m ≤ 31 → (∀ v, 1 ≤ v → v ≤ 30 → (kt (κ 3 16) v = true ↔ ¬ b 113 v = 0)) → (∀ u, 1 ≤ u → u ≤ 30 → a 21 u = b 101 (63 + u)) →
    (∀ u, 1 ≤ u → u ≤ 30 → zit (k_scF κ) k m a 21 u = zit a_scF k m b 101 (63 + u)) ∧ (∀ p, ¬ p = 21 → zit (k_scF κ) k m a p = a p) ∧ (∀ p, ¬ p = 101 → zit a_scF k m b p = b p) ∧ ∀ j, ¬ (64 ≤ j ∧ j ≤ 93) → zit a_scF k m b 101 j = b 101 j := by
  intro m
  induction m with
  | zero => intro k a b _ _ _ h; exact ⟨h, fun _ _ => rfl, fun _ _ => rfl, fun _ _ => rfl⟩
  | succ m ih =>
    intro k a b h1 h2 hy hs
    have S := sc_step (κ := κ) (a := a) (b := b) h1 (by omega) (hy k h1 (by omega)) hs
    obtain ⟨o1, o2, o3⟩ := sc_off (κ := κ) (a := a) (b := b) (v := k)
    show (∀ u, 1 ≤ u → u ≤ 30 → zit (k_scF κ) (k + 1) m (k_scF κ k a) 21 u = zit a_scF (k + 1) m (a_scF k b) 101 (63 + u)) ∧ (∀ p, ¬ p = 21 → zit (k_scF κ) (k + 1) m (k_scF κ k a) p = a p) ∧ (∀ p, ¬ p = 101 → zit a_scF (k + 1) m (a_scF k b) p = b p) ∧ ∀ j, ¬ (64 ≤ j ∧ j ≤ 93) → zit a_scF (k + 1) m (a_scF k b) 101 j = b 101 j
    generalize k_scF κ k a = a' at S o1
    generalize a_scF k b = b' at S o2 o3
    obtain ⟨r1, r2, r3, r4⟩ := ih (k + 1) a' b' (by omega) (by omega) (fun v v1 v2 => by rw [o2 113 (by decide)]; exact hy v v1 v2) S
    exact ⟨r1, fun p hp => (r2 p hp).trans (o1 p hp), fun p hp => (r3 p hp).trans (o2 p hp), fun j hj => (r4 j hj).trans (o3 j (by omega))⟩
