/-! the stores stay alike when both take one clause more -/
theorem mR.eq {m1 m2 : Int32} {n : Nat} {f g : Nat → Int32} (h : mR m1 m2 n f) (e : ∀ k, k < n → g k = f k) : mR m1 m2 n g := ⟨h.1, h.2.1, fun v a b => by
  refine ⟨(h.2.2 v a b).1.trans ⟨fun ⟨k, x, y⟩ => ⟨k, x, (e k x).trans y⟩, fun ⟨k, x, y⟩ => ⟨k, x, (e k x).symm.trans y⟩⟩, (h.2.2 v a b).2.trans ⟨fun ⟨k, x, y⟩ => ⟨k, x, (e k x).trans y⟩, fun ⟨k, x, y⟩ => ⟨k, x, (e k x).symm.trans y⟩⟩⟩⟩
theorem cR.more {κ κ' α α' : Nat → Nat → Int32} {m : Nat} {g : Nat → Int32} (h : cR κ α) (hW : aW α) (hN : aN α' = aN α + 1) (h1 : κ' 11 5 = α' 101 1)
    (k12 : ∀ q c, q = 12 ∨ q = 13 ∨ q = 14 → c < aN α → κ' q c = κ q c) (k15 : ∀ j, j ≤ aN α → κ' 15 j = κ 15 j) (k16 : ∀ c, c < aN α → ∀ k, k < aS α c → κ' 16 (kS κ c + k) = κ 16 (kS κ c + k))
    (aO : ∀ c, c < aN α → α' 101 (125 + c) = α 101 (125 + c) ∧ α' 101 (525 + c) = α 101 (525 + c) ∧ ∀ k, k < 30 → α' 101 (1326 + 30 * c + k) = α 101 (1326 + 30 * c + k))
    (nm : mR (κ' 12 (aN α)) (κ' 13 (aN α)) m g) (nS : aS α' (aN α) = m) (nL : ∀ k, k < m → aL α' (aN α) k = g k) (nK : ∀ k, k < m → κ' 16 (kS κ (aN α) + k) = g k)
    (n15 : κ' 15 (aN α + 1) = nI (kS κ (aN α) + m)) (hb : kS κ (aN α) + m < 2 ^ 31) (nd : kKd (κ' 14 (aN α)) (α' 101 (525 + aN α))) : cR κ' α' := by
  have eS : ∀ c, c ≤ aN α → kS κ' c = kS κ c := fun c hc => by unfold kS; rw [k15 c hc]
  refine ⟨h1, fun c hc => ?_⟩
  rcases Nat.lt_or_ge c (aN α) with x | x
  · obtain ⟨a1, a2, a3, a4⟩ := h.2 c x
    obtain ⟨b1, b2, b3⟩ := aO c x
    have e1 : aS α' c = aS α c := by unfold aS; rw [b1]
    have h30 := hW.s30' x
    have e2 : ∀ k, k < aS α c → aL α' c k = aL α c k := fun k hk => b3 k (by omega)
    rw [k12 12 c (.inl rfl) x, k12 13 c (.inr (.inl rfl)) x, k12 14 c (.inr (.inr rfl)) x, e1, b2]
    refine ⟨a1.eq e2, ?_, fun k hk => ?_, a4⟩
    · unfold kLn; rw [eS _ (by omega), eS _ (by omega)]; exact a2
    · rw [eS c (by omega), k16 c x k hk, a3 k hk, e2 k hk]
  · have ec : c = aN α := by omega
    subst ec
    rw [nS]
    refine ⟨nm.eq nL, ?_, fun k hk => ?_, nd⟩
    · unfold kLn
      rw [eS _ (Nat.le_refl _), show kS κ' (aN α + 1) = kS κ (aN α) + m from by unfold kS; rw [n15]; exact nI_clamp hb]
      omega
    · rw [eS _ (Nat.le_refl _), nK k hk, nL k hk]
