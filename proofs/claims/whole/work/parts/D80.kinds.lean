/-! what a token is -/
section TD
variable {κ : Nat → Nat → Int32}
theorem neg_tab : ∀ n < 100, ¬ nI n = -1 ∧ ¬ nI n = -2 ∧ ¬ nI n = -7 ∧ ¬ nI n < 0 := by decide +kernel
theorem tok_dig {f : Nat} (hl : f < kLen κ) (hd : k_dg κ f = true) (h2 : k_eot κ f - f ≤ 2) : ∃ n, n ≤ 99 ∧ k_tokOf κ f (k_eot κ f) = nI n := by
  obtain ⟨d, d1, d2⟩ := dg_is hd
  have er := eot_rng hl
  have ee : k_eot κ f = zspan (k_dg κ) (kLen κ - (f + 1)) (f + 1) := by unfold k_eot; rw [if_pos hd]
  unfold k_tokOf
  rw [if_pos hd]
  by_cases e1 : k_eot κ f - f = 1
  · rw [if_pos e1, d2, (tok_tab d (by omega) 0 (by decide)).2.1]; exact ⟨d, by omega, rfl⟩
  · have e2 : k_eot κ f - f = 2 := by omega
    obtain ⟨x, x1, x2⟩ := dg_is ((zspan_rng (k_dg κ) (kLen κ - (f + 1)) (f + 1)).2.2.1 (f + 1) (Nat.le_refl _) (by rw [← ee]; omega))
    rw [if_neg e1, if_pos e2, d2, x2, (tok_tab d (by omega) x (by omega)).2.2.2]; exact ⟨10 * d + x, by omega, rfl⟩
theorem tok_kind {f : Nat} (hl : f < kLen κ) : (k_tokOf κ f (k_eot κ f) = -1 ↔ κ 77 f = nI 45) ∧ (k_tokOf κ f (k_eot κ f) = -2 ↔ κ 77 f = nI 59) ∧ ¬ k_tokOf κ f (k_eot κ f) = -7 ∧ (k_tokOf κ f (k_eot κ f) < 0 ↔ ¬ (k_dg κ f = true ∧ k_eot κ f - f ≤ 2)) := by
  have er := eot_rng hl
  have no45 : κ 77 f = nI 45 → k_dg κ f = false ∧ k_lt κ f = false := fun e => by unfold k_dg k_lt; rw [e]; decide
  have no59 : κ 77 f = nI 59 → k_dg κ f = false ∧ k_lt κ f = false := fun e => by unfold k_dg k_lt; rw [e]; decide
  by_cases hd : k_dg κ f = true
  · have n45 : ¬ κ 77 f = nI 45 := fun e => by rw [(no45 e).1] at hd; exact absurd hd (by decide)
    have n59 : ¬ κ 77 f = nI 59 := fun e => by rw [(no59 e).1] at hd; exact absurd hd (by decide)
    by_cases h2 : k_eot κ f - f ≤ 2
    · obtain ⟨n, n1, n2⟩ := tok_dig hl hd h2
      have T := neg_tab n (by omega)
      rw [n2]
      exact ⟨⟨fun x => absurd x T.1, fun x => absurd x n45⟩, ⟨fun x => absurd x T.2.1, fun x => absurd x n59⟩, T.2.2.1, ⟨fun x => absurd x T.2.2.2, fun x => absurd ⟨hd, h2⟩ x⟩⟩
    · have e : k_tokOf κ f (k_eot κ f) = -6 := by unfold k_tokOf; rw [if_pos hd, if_neg (by omega), if_neg (by omega)]
      rw [e]
      exact ⟨⟨fun x => absurd x (by decide), fun x => absurd x n45⟩, ⟨fun x => absurd x (by decide), fun x => absurd x n59⟩, by decide, ⟨fun _ x => h2 x.2, fun _ => by decide⟩⟩
  · have hn : ¬ (k_dg κ f = true ∧ k_eot κ f - f ≤ 2) := fun x => hd x.1
    by_cases ht : k_lt κ f = true
    · have n45 : ¬ κ 77 f = nI 45 := fun e => by rw [(no45 e).2] at ht; exact absurd ht (by decide)
      have n59 : ¬ κ 77 f = nI 59 := fun e => by rw [(no59 e).2] at ht; exact absurd ht (by decide)
      have e : k_tokOf κ f (k_eot κ f) = -3 ∨ k_tokOf κ f (k_eot κ f) = -4 ∨ k_tokOf κ f (k_eot κ f) = -5 ∨ k_tokOf κ f (k_eot κ f) = -6 := by
        unfold k_tokOf
        rw [if_neg hd, if_pos ht]
        split
        · exact .inl rfl
        · split
          · exact .inr (.inl rfl)
          · split
            · exact .inr (.inr (.inl rfl))
            · exact .inr (.inr (.inr rfl))
      rcases e with e | e | e | e <;> rw [e] <;> exact ⟨⟨fun x => absurd x (by decide), fun x => absurd x n45⟩, ⟨fun x => absurd x (by decide), fun x => absurd x n59⟩, by decide, ⟨fun _ => hn, fun _ => by decide⟩⟩
    · have e : k_tokOf κ f (k_eot κ f) = if κ 77 f = nI 45 then -1 else if κ 77 f = nI 59 then -2 else -6 := by unfold k_tokOf; rw [if_neg hd, if_neg ht]
      rw [e]
      by_cases a : κ 77 f = nI 45
      · rw [if_pos a]
        exact ⟨⟨fun _ => a, fun _ => rfl⟩, ⟨fun x => absurd x (by decide), fun x => by rw [a] at x; exact absurd x (by decide)⟩, by decide, ⟨fun _ => hn, fun _ => by decide⟩⟩
      · rw [if_neg a]
        by_cases b : κ 77 f = nI 59
        · rw [if_pos b]
          exact ⟨⟨fun x => absurd x (by decide), fun x => absurd x a⟩, ⟨fun _ => b, fun _ => rfl⟩, by decide, ⟨fun _ => hn, fun _ => by decide⟩⟩
        · rw [if_neg b]
          exact ⟨⟨fun x => absurd x (by decide), fun x => absurd x a⟩, ⟨fun x => absurd x (by decide), fun x => absurd x b⟩, by decide, ⟨fun _ => hn, fun _ => by decide⟩⟩
end TD
