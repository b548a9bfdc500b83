/-! one clause more, in both -/
section AB
variable {κ α α' : Nat → Nat → Int32} {τ : (Nat → Nat → Int64) × (Nat → Nat)} {p m : Nat} {bo : Bool} {g : Nat → Int32}
theorem app_cR (h : cR κ α) (hW : aW α) (hk : kW κ τ) (hN : aN α < 400) (hm : m ≤ 30) (hp : 17 ≤ p) (hg : ∀ i, i < m → κ (p + 1) i = g i) (hl : ∀ i, i < m → lok 30 (g i))
    (a1 : α' 101 1 = nI (aN α + 1)) (aO : ∀ c, c < aN α → α' 101 (125 + c) = α 101 (125 + c) ∧ α' 101 (525 + c) = α 101 (525 + c) ∧ ∀ k, k < 30 → α' 101 (1326 + 30 * c + k) = α 101 (1326 + 30 * c + k))
    (nS : aS α' (aN α) = m) (nL : ∀ k, k < m → aL α' (aN α) k = g k) (nd : kKd (zbo bo) (α' 101 (525 + aN α))) :
    cR (k_app (k_rmK κ τ (kS κ (aN α) + m)) p (aN α) m bo) α' ∧ k_app (k_rmK κ τ (kS κ (aN α) + m)) p (aN α) m bo 11 6 = κ 11 6 + zbo (!bo) ∧
    ∀ q, ¬ (11 ≤ q ∧ q ≤ 16) → k_app (k_rmK κ τ (kS κ (aN α) + m)) p (aN α) m bo q = κ q := by
  have eN : kN κ = aN α := h.n
  have hs := hk.s30 (i := aN α) (by omega)
  let κ5 := k_rmK κ τ (kS κ (aN α) + m)
  have e5 : ∀ q, q ≠ 16 → κ5 q = κ q := fun q hq => k_rmK_at hq
  have eS5 : kS κ5 (aN α) = kS κ (aN α) := by unfold kS; rw [e5 15 (by decide)]
  obtain ⟨f1, f2, f3, f4, f5, f6, f7⟩ := k_app_is (κ := κ5) (p := p) (n := aN α) (g := g) (m := m) (bo := bo) (by omega) (fun i hi => by rw [e5 _ (by omega)]; exact hg i hi) hl
  rw [eS5] at f2 f5 f7
  have eN' : aN α' = aN α + 1 := by unfold aN at *; rw [a1]; exact nI_clamp (by omega)
  refine ⟨?_, ?_, fun q hq => funext fun j => ?_⟩
  · refine h.more hW eN' (f4.trans a1.symm) (fun q c hq hc => ?_) (fun j hj => ?_) (fun c hc k hk' => ?_) aO f1 nS nL f2 f5 (by omega) (by rw [f3]; exact nd)
    · rw [f7 q c (by omega) (by omega) (by omega) (by omega), e5 q (by omega)]
    · rw [f7 15 j (by omega) (by omega) (by omega) (by omega), e5 15 (by decide)]
    · obtain ⟨-, y, -, -⟩ := h.2 c hc
      have hm1 := hk.mon (m := aN α - (c + 1)) (i := c + 1) (by omega)
      have hm2 := hk.2.2.1 c (by omega)
      have hm3 := hk.2.2.2.2.1
      rw [show c + 1 + (aN α - (c + 1)) = aN α from by omega] at hm1
      rw [eN] at hm3
      unfold kLn at y
      rw [f7 16 _ (by omega) (by omega) (by omega) (by omega)]
      exact k_rmK_lt (by omega)
  · rw [f6, e5 11 (by decide)]
  · rw [f7 q j (by omega) (by omega) (by omega) (by omega), e5 q (by omega)]
theorem aW.more (hW : aW α) (hN : aN α < 400) (hm : m ≤ 30) (a0 : α' 101 0 = α 101 0) (a1 : α' 101 1 = nI (aN α + 1)) (aO : ∀ c, c < aN α → α' 101 (125 + c) = α 101 (125 + c) ∧ ∀ k, k < 30 → α' 101 (1326 + 30 * c + k) = α 101 (1326 + 30 * c + k))
    (nS : α' 101 (125 + aN α) = nI m) (nL : ∀ k, k < m → aL α' (aN α) k = g k) (hl : ∀ i, i < m → lok (aV α) (g i)) : aW α' ∧ aS α' (aN α) = m := by
  have eN' : aN α' = aN α + 1 := by unfold aN at *; rw [a1]; exact nI_clamp (by omega)
  have eV : aV α' = aV α := by unfold aV; rw [a0]
  have eS : aS α' (aN α) = m := by unfold aS; rw [nS]; exact nI_clamp (by omega)
  refine ⟨⟨⟨by rw [eV, a0]; exact hW.1.1, by rw [eV]; exact hW.1.2⟩, ⟨by rw [eN', a1], by omega⟩, fun c hc => ?_, fun c hc k hk => ?_⟩, eS⟩
  · rw [eN'] at hc
    by_cases e : c = aN α
    · subst e; rw [eS]; exact ⟨nS, hm⟩
    · have e2 : aS α' c = aS α c := by unfold aS; rw [(aO c (by omega)).1]
      rw [e2, (aO c (by omega)).1]; exact hW.2.2.1 c (by omega)
  · rw [eN'] at hc
    rw [eV]
    by_cases e : c = aN α
    · subst e; rw [eS] at hk; rw [nL k hk]; exact hl k hk
    · have e2 : aS α' c = aS α c := by unfold aS; rw [(aO c (by omega)).1]
      rw [e2] at hk
      have h30 := hW.s30' (c := c) (by omega)
      rw [show aL α' c k = aL α c k from (aO c (by omega)).2 k (by omega)]
      exact hW.2.2.2 c (by omega) k hk
theorem aWd.more (hd : aWd α) (hW : aW α) (hN : aN α < 400) (a1 : α' 101 1 = nI (aN α + 1)) (aO : ∀ c, c < aN α → α' 101 (125 + c) = α 101 (125 + c) ∧ ∀ k, k < 30 → α' 101 (1326 + 30 * c + k) = α 101 (1326 + 30 * c + k))
    (nS : aS α' (aN α) = m) (nL : ∀ k, k < m → aL α' (aN α) k = g k) (hg : ∀ i j, i < j → j < m → ¬ zv (g i) = zv (g j)) : aWd α' := fun c hc i j hi hj => by
  have eN' : aN α' = aN α + 1 := by unfold aN at *; rw [a1]; exact nI_clamp (by omega)
  rw [eN'] at hc
  by_cases e : c = aN α
  · subst e; rw [nS] at hj; rw [nL i (by omega), nL j hj]; exact hg i j hi hj
  · have e2 : aS α' c = aS α c := by unfold aS; rw [(aO c (by omega)).1]
    rw [e2] at hj
    have h30 := hW.s30' (c := c) (by omega)
    rw [show aL α' c i = aL α c i from (aO c (by omega)).2 i (by omega), show aL α' c j = aL α c j from (aO c (by omega)).2 j (by omega)]
    exact hd c (by omega) i j hi hj
end AB
