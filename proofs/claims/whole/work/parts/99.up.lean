/-! the state now, under small changes -/
def aAs (α : Nat → Nat → Int32) : Nat × (Nat → Int32) := (aA α, fun k => if k < 8 then α 101 (16 + k) else 0)
/-- what a step that learns nothing may change in the row -/
def stW (j : Nat) : Prop := (8 ≤ j ∧ j ≤ 15) ∨ (33 ≤ j ∧ j ≤ 62) ∨ (94 ≤ j ∧ j ≤ 124)
section UP
variable {κ κ' α α' : Nat → Nat → Int32} {τ τ' : (Nat → Nat → Int64) × (Nat → Nat)}
theorem stW.V (ea : ∀ j, ¬ stW j → α' 101 j = α 101 j) : aV α' = aV α := by unfold aV; rw [ea 0 (by unfold stW; omega)]
theorem stW.N (ea : ∀ j, ¬ stW j → α' 101 j = α 101 j) : aN α' = aN α := by unfold aN; rw [ea 1 (by unfold stW; omega)]
theorem stW.S (ea : ∀ j, ¬ stW j → α' 101 j = α 101 j) : aS α' = aS α := funext fun c => by unfold aS; rw [ea (125 + c) (by unfold stW; omega)]
theorem stW.L (ea : ∀ j, ¬ stW j → α' 101 j = α 101 j) : aL α' = aL α := funext fun c => funext fun k => by unfold aL; rw [ea (1326 + 30 * c + k) (by unfold stW; omega)]
theorem stW.A (ea : ∀ j, ¬ stW j → α' 101 j = α 101 j) : aA α' = aA α := by unfold aA; rw [ea 3 (by unfold stW; omega)]
theorem stW.Ln (ea : ∀ j, ¬ stW j → α' 101 j = α 101 j) : aLn α' = aLn α := by unfold aLn; rw [ea 6 (by unfold stW; omega)]
theorem stW.lt (ea : ∀ j, ¬ stW j → α' 101 j = α 101 j) : a_learnt α' = a_learnt α := funext fun c => by unfold a_learnt; rw [ea (525 + c) (by unfold stW; omega)]
theorem stW.gn (ea : ∀ j, ¬ stW j → α' 101 j = α 101 j) : a_gone α' = a_gone α := funext fun c => by unfold a_gone; rw [ea (525 + c) (by unfold stW; omega)]
theorem stW.Cl (ea : ∀ j, ¬ stW j → α' 101 j = α 101 j) : aCl α' = aCl α := by unfold aCl; rw [stW.N ea, stW.gn ea, stW.S ea, stW.L ea]
theorem stW.As (ea : ∀ j, ¬ stW j → α' 101 j = α 101 j) : aAs α' = aAs α := by
  unfold aAs; rw [stW.A ea]
  refine congrArg (Prod.mk _) (funext fun k => ?_)
  by_cases hk : k < 8
  · rw [if_pos hk, if_pos hk, ea (16 + k) (by unfold stW; omega)]
  · rw [if_neg hk, if_neg hk]
theorem sN.W (h : sN κ α τ) (ea : ∀ j, ¬ stW j → α' 101 j = α 101 j) : aW α' := by
  have c2 := h.1.2.1
  unfold aW at c2 ⊢
  rw [stW.V ea, stW.N ea, stW.S ea, stW.L ea, ea 0 (by unfold stW; omega), ea 1 (by unfold stW; omega)]
  exact ⟨c2.1, c2.2.1, fun c hc => by rw [ea (125 + c) (by unfold stW; omega)]; exact c2.2.2.1 c hc, c2.2.2.2⟩
theorem kW.eq (h : kW κ τ) (e : ∀ p, p = 11 ∨ p = 15 → κ' p = κ p) (e0 : τ'.2 0 = τ.2 0) : kW κ' τ' := by
  unfold kW kN kS at *
  rw [e 11 (.inl rfl), e 15 (.inr rfl), e0]
  exact h
theorem sN.up (h : sN κ α τ) (ek : ∀ p, 11 ≤ p → p ≤ 21 → κ' p = κ p) (e4 : κ' 10 4 = κ 10 4) (hp : phR κ' α') (ea : ∀ j, ¬ stW j → α' 101 j = α 101 j)
    (hc : κ' 10 6 = κ 10 6 ∧ κ' 10 8 = α' 101 8 ∧ κ' 10 9 = α' 101 9 ∧ κ' 10 10 = α' 101 10 ∧ κ' 10 11 = α' 101 11) (e0 : τ'.2 0 = τ.2 0) : sN κ' α' τ' := by
  have hW' := h.W ea
  obtain ⟨⟨c1, c2, c3, c4⟩, ⟨b1, b2, b3, b4⟩, -, s, ⟨m5, -, -, -, -, m6⟩, g1, g2, g3, g4, g5, g6⟩ := h
  refine ⟨⟨?_, hW', ?_, c4.eq (fun p hp => ek p (by omega) (by omega)) e0⟩, ⟨?_, ?_, ?_, ?_⟩, hp, fun v a b => ?_, ⟨?_, hc.2.1, hc.2.2.1, hc.2.2.2.1, hc.2.2.2.2, ?_⟩, ?_, ?_, ?_, ?_, ?_, ?_⟩
  · obtain ⟨x, y⟩ := c1.of (κ' := κ') (fun p a b => ek p a (by omega))
    refine ⟨x.trans (ea 1 (by unfold stW; omega)).symm, fun c hc => ?_⟩
    rw [stW.N ea] at hc
    rw [stW.S ea, stW.L ea, ea (525 + c) (by unfold stW; omega)]
    exact y c hc
  · unfold aWd; rw [stW.N ea, stW.S ea, stW.L ea]; exact c3
  · rw [e4, ea 0 (by unfold stW; omega)]; exact b1
  · unfold aWA at b2 ⊢
    rw [stW.A ea, stW.V ea, ea 3 (by unfold stW; omega)]
    exact ⟨b2.1, b2.2.1, fun k hk => by rw [ea (16 + k) (by unfold stW; omega)]; exact b2.2.2 k hk⟩
  · rw [ek 19 (by decide) (by decide), ea 3 (by unfold stW; omega)]; exact b3
  · rw [stW.A ea]
    intro k hk
    have := b2.2.1
    rw [ek 20 (by decide) (by decide), ea (16 + k) (by unfold stW; omega)]; exact b4 k hk
  · rw [ek 21 (by decide) (by decide), ea (63 + v) (by unfold stW; omega)]; exact s v a b
  · rw [hc.1, ea 5 (by unfold stW; omega)]; exact m5
  · rw [ek 11 (by decide) (by decide), ea 2 (by unfold stW; omega)]; exact m6
  · rw [stW.Ln ea, ea 6 (by unfold stW; omega)]; exact g1
  · rw [ea 7 (by unfold stW; omega)]; exact g2
  · rw [stW.Ln ea, stW.lt ea, stW.N ea, ea 7 (by unfold stW; omega)]; exact g3
  · rw [stW.N ea, stW.lt ea]
    intro c a b
    rw [ea _ (by unfold stW; omega)]; exact g4 c a b
  · rw [stW.N ea, stW.lt ea, ea 7 (by unfold stW; omega), ea (925 + _) (by unfold stW; omega)]; exact g5
  · rw [stW.N ea, stW.lt ea, ea 2 (by unfold stW; omega)]; exact g6
end UP
