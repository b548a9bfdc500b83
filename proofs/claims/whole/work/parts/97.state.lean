/-! the state now, alike in class and reference: what the search rests on -/
/-- the row of lines: what was learnt, in order; and the line of a refutation -/
def lgR (α : Nat → Nat → Int32) : Prop := α 101 6 = nI (aLn α) ∧ (α 101 7 = 0 ∨ α 101 7 = nI 1) ∧ aLn α = zcnt (a_learnt α) 0 (aN α) + (if α 101 7 = 0 then 0 else 1) ∧ (∀ c, c < aN α → a_learnt α c = true → α 101 (925 + zcnt (a_learnt α) 0 c) = nI c) ∧ (¬ α 101 7 = 0 → α 101 (925 + zcnt (a_learnt α) 0 (aN α)) = -1) ∧ α 101 2 = nI (aN α - zcnt (a_learnt α) 0 (aN α))
def sN (κ α : Nat → Nat → Int32) (τ : (Nat → Nat → Int64) × (Nat → Nat)) : Prop :=
  (cR κ α ∧ aW α ∧ aWd α ∧ kW κ τ) ∧ (κ 10 4 = α 101 0 ∧ aWA α ∧ κ 19 1 = α 101 3 ∧ ∀ k, k < aA α → κ 20 k = α 101 (16 + k)) ∧ phR κ α ∧ (∀ v, 1 ≤ v → v ≤ 30 → κ 21 v = α 101 (63 + v)) ∧
  (κ 10 6 = α 101 5 ∧ κ 10 8 = α 101 8 ∧ κ 10 9 = α 101 9 ∧ κ 10 10 = α 101 10 ∧ κ 10 11 = α 101 11 ∧ κ 11 6 = α 101 2) ∧ lgR α
/-- what learning writes into the row -/
def l9W (α : Nat → Nat → Int32) (m p j : Nat) : Prop := p = 112 ∨ p = 113 ∨ p = 114 ∨ (p = 101 ∧ (j = 1 ∨ j = 6 ∨ j = 8 ∨ (64 ≤ j ∧ j ≤ 93) ∨ j = 125 + aN α ∨ j = 525 + aN α ∨ j = 925 + aLn α ∨ (1326 + 30 * aN α ≤ j ∧ j < 1326 + 30 * aN α + m)))
section L9
variable {α : Nat → Nat → Int32} {c : Nat}
theorem a_l8_at {p j : Nat} (h : ¬ l9W α (a_lst α c).length p j ∨ (p = 101 ∧ 64 ≤ j ∧ j ≤ 93)) : a_l8 α c p j = α p j := by
  have hN5 : aN (a_l5 α c) = aN α := zo_N (a_l5_off α c) (by decide)
  have H : ¬ (p = 112 ∨ p = 113 ∨ p = 114) ∧ (p = 101 → ¬ j = 1 ∧ ¬ j = 6 ∧ ¬ j = 8 ∧ (j ≤ 93 ∨ ¬ j = 125 + aN α ∧ ¬ j = 525 + aN α ∧ ¬ j = 925 + aLn α ∧ ¬ (1326 + 30 * aN α ≤ j ∧ j < 1326 + 30 * aN α + (a_lst α c).length))) := by
    rcases h with h | h
    · unfold l9W at h
      refine ⟨by omega, fun e => ?_⟩
      subst e
      omega
    · exact ⟨by omega, fun e => by omega⟩
  obtain ⟨H1, H2⟩ := H
  have o5 : a_l5 α c p = α p := (a_l5_off α c) p (by simp; omega)
  have o5' : a_l5 α c 101 = α 101 := (a_l5_off α c) 101 (by decide)
  unfold a_l8 a_l7 a_l6 a_begins a_wrl
  rw [hN5]
  by_cases e : p = 101
  · subst e
    obtain ⟨a1, a2, a3, a4⟩ := H2 rfl
    by_cases e2 : j = 2
    · subst e2
      rw [zup_i (by decide), zup_i (by decide), zup_i (by omega)]
      show (if 101 = 101 ∧ 1326 + 30 * aN α ≤ 2 ∧ _ then _ else _) = _
      rw [if_neg (fun x => by omega), zup_same, o5', if_neg (show ¬ nI 1 = 0 by decide)]
      exact Int32.add_zero _
    · rw [zup_i a3, zup_i a2, zup_i (by omega)]
      show (if 101 = 101 ∧ 1326 + 30 * aN α ≤ j ∧ _ then _ else _) = _
      rw [if_neg (fun x => by omega), zup_i e2, zup_i a1, zup_i (by omega), zup_i (by omega), o5']
  · rw [zup_p e, zup_p e, zup_p e]
    show (if p = 101 ∧ _ ∧ _ then _ else _) = _
    rw [if_neg (fun x => e x.1), zup_p e, zup_p e, zup_p e, zup_p e, o5]
theorem a_l9_fr (hV : aV α ≤ 30) {p j : Nat} (h : ¬ l9W α (a_lst α c).length p j) : a_l9 α c p j = α p j := by
  unfold a_l9
  by_cases e : p = 101
  · subst e
    rw [zit_scF _ _ _ _ (by unfold l9W at h; omega)]
    exact a_l8_at (.inl h)
  · rw [show zit a_scF 1 (aV α) (a_l8 α c) p = a_l8 α c p from (zit_off (L := [101]) _ (fun k a => (zoff.rf.up (by decide)).up (by decide)) _ _ _) p (by simp; exact e)]
    exact a_l8_at (.inl h)
theorem a_l9_n (hV : aV α ≤ 30) (hL : aLn α ≤ 400) (hN : aN α < 400) : a_l9 α c 101 1 = nI (aN α + 1) ∧ a_l9 α c 101 6 = nI (aLn α + 1) ∧ a_l9 α c 101 8 = α 101 8 + nI 1 ∧ a_l9 α c 101 (125 + aN α) = nI (a_cnt (a_l5 α c)) ∧ a_l9 α c 101 (525 + aN α) = nI 1 ∧ a_l9 α c 101 (925 + aLn α) = nI (aN α) := by
  have hN5 : aN (a_l5 α c) = aN α := zo_N (a_l5_off α c) (by decide)
  unfold a_l9
  rw [zit_scF _ _ _ 1 (by omega), zit_scF _ _ _ 6 (by omega), zit_scF _ _ _ 8 (by omega), zit_scF _ _ _ (125 + aN α) (by omega), zit_scF _ _ _ (525 + aN α) (by omega), zit_scF _ _ _ (925 + aLn α) (by omega)]
  unfold a_l8
  refine ⟨?_, ?_, ?_, ?_, ?_, ?_⟩
  · rw [zup_i (by decide), zup_i (by decide), zup_i (by omega)]
    unfold a_l7; rw [a_wrl_p (.inr (by omega))]; unfold a_l6 a_begins; rw [zup_i (by decide), zup_same, hN5]
  · rw [zup_i (by decide), zup_same]
  · rw [zup_same]
  · rw [zup_i (by omega), zup_i (by omega), zup_i (by omega)]
    unfold a_l7; rw [a_wrl_p (.inr (by omega))]; unfold a_l6 a_begins; rw [hN5, zup_i (by omega), zup_i (by omega), zup_same]
  · rw [zup_i (by omega), zup_i (by omega), zup_i (by omega)]
    unfold a_l7; rw [a_wrl_p (.inr (by omega))]; unfold a_l6 a_begins; rw [hN5, zup_i (by omega), zup_i (by omega), zup_i (by omega), zup_same]
  · rw [zup_i (by omega), zup_i (by omega), zup_same]
theorem a_l8_113 : a_l8 α c 113 = a_l3 α c 113 := by
  have hN5 : aN (a_l5 α c) = aN α := zo_N (a_l5_off α c) (by decide)
  funext j
  unfold a_l8 a_l7 a_l6 a_begins a_wrl
  rw [zup_p (by decide), zup_p (by decide), zup_p (by decide)]
  show (if 113 = 101 ∧ _ ∧ _ then _ else _) = _
  rw [if_neg (fun x => absurd x.1 (by decide)), zup_p (by decide), zup_p (by decide), zup_p (by decide), zup_p (by decide)]
  exact (zTm_off (a_l3 α c) (aV α)).at (p := 113) (by decide) j
end L9
