/-! how a search ends -/
/-- what a search leaves as it was, its end included -/
def aFe (α α' : Nat → Nat → Int32) : Prop := (∀ p, ¬ (p = 100 ∨ p = 101 ∨ (105 ≤ p ∧ p ≤ 109) ∨ (112 ≤ p ∧ p ≤ 114)) → α' p = α p) ∧ (∀ j, ¬ (j = 10 ∨ j = 11 ∨ (15 ≤ j ∧ j ≤ 17)) → α' 100 j = α 100 j) ∧ ∀ j, j = 0 ∨ j = 2 ∨ j = 4 ∨ j = 15 ∨ (24 ≤ j ∧ j ≤ 31) → α' 101 j = α 101 j
def kFe (κ κ' : Nat → Nat → Int32) : Prop := (∀ p, ¬ (p = 3 ∨ (10 ≤ p ∧ p ≤ 16) ∨ p = 21 ∨ (70 ≤ p ∧ p ≤ 74)) → κ' p = κ p) ∧ κ' 10 16 = κ 10 16
def zMo (κ α : Nat → Nat → Int32) (V : Nat) : Prop := κ 10 15 = α 101 14 ∧ ∀ v, 1 ≤ v → v ≤ V → (kt (κ 10 14) v = true ∧ α 101 (94 + v) = nI 1) ∨ (kt (κ 10 14) v = false ∧ α 101 (94 + v) = nI 0)
def zEr (κ α : Nat → Nat → Int32) (τ' : (Nat → Nat → Int64) × (Nat → Nat)) (κe αe : Nat → Nat → Int32) (r : Nat) : Prop :=
  sN κe αe τ' ∧ κe 10 7 = αe 101 7 ∧ αe 101 12 = nI r ∧ (r = 0 → κe 10 13 = αe 101 13) ∧ (¬ r = 0 → αe 101 13 = α 101 13) ∧ (r = 1 → κe 10 15 = κe 10 4 ∧ zMo κe αe (aV αe)) ∧ (¬ r = 1 → κe 10 14 = κ 10 14 ∧ κe 10 15 = κ 10 15 ∧ ∀ j, j = 14 ∨ (94 ≤ j ∧ j ≤ 124) → αe 101 j = α 101 j) ∧ aFe α αe ∧ kFe κ κe
def zEd (κ α : Nat → Nat → Int32) (τ : (Nat → Nat → Int64) × (Nat → Nat)) (s : Int32 × (Nat → Nat → Int32) × ((Nat → Nat → Int64) × (Nat → Nat))) (a : Int32 × (Nat → Nat → Int32)) : Prop :=
  ∃ r, r ≤ 3 ∧ s.1 = nI r ∧ a.1 = nI r ∧ (∃ t', kQ s.2.1 t') ∧ tFr τ s.2.2 ∧ zEr κ α s.2.2 (zup (k_leave s.2.1 (-1)) 10 12 (nI r)) a.2 r
def zOn (κ α : Nat → Nat → Int32) (τ : (Nat → Nat → Int64) × (Nat → Nat)) (B t n : Nat) (s : Int32 × (Nat → Nat → Int32) × ((Nat → Nat → Int64) × (Nat → Nat))) (a : Int32 × (Nat → Nat → Int32)) : Prop :=
  s.1 = -1 ∧ a.1 = -1 ∧ ∃ T' L' R' t' w' n', n' < B ∧ 31 * (B - n') + 30 - t' < 31 * (B - n) + 30 - t ∧ zSr s.2.1 a.2 s.2.2 T' L' R' t' w' ∧ zCo s.2.1 a.2 n' ∧ aFr α a.2 ∧ kFr κ s.2.1 ∧ tFr τ s.2.2
/-- what a step may change in the row, lines and refutation with it -/
def stX (j : Nat) : Prop := stW j ∨ j = 6 ∨ j = 7 ∨ (925 ≤ j ∧ j < 1326)
section EN
variable {κ κ' α α' : Nat → Nat → Int32} {τ τ' : (Nat → Nat → Int64) × (Nat → Nat)} {T : Nat → Int32} {L : Nat → Nat} {R : Nat → Int32} {t w : Nat}
theorem sN.upx (h : sN κ α τ) (ek : ∀ p, 11 ≤ p → p ≤ 21 → κ' p = κ p) (e4 : κ' 10 4 = κ 10 4) (hp : phR κ' α') (ea : ∀ j, ¬ stX j → α' 101 j = α 101 j) (lg : lgR α')
    (hc : κ' 10 6 = κ 10 6 ∧ κ' 10 8 = α' 101 8 ∧ κ' 10 9 = α' 101 9 ∧ κ' 10 10 = α' 101 10 ∧ κ' 10 11 = α' 101 11) (e0 : τ'.2 0 = τ.2 0) : sN κ' α' τ' := by
  have eV : aV α' = aV α := by unfold aV; rw [ea 0 (by unfold stX stW; omega)]
  have eN : aN α' = aN α := by unfold aN; rw [ea 1 (by unfold stX stW; omega)]
  have eS : ∀ c, c < 400 → aS α' c = aS α c := fun c hc => by unfold aS; rw [ea (125 + c) (by unfold stX stW; omega)]
  have eL : ∀ c, aL α' c = aL α c := fun c => funext fun k => by unfold aL; rw [ea (1326 + 30 * c + k) (by unfold stX stW; omega)]
  have eA : aA α' = aA α := by unfold aA; rw [ea 3 (by unfold stX stW; omega)]
  obtain ⟨⟨c1, c2, c3, c4⟩, ⟨b1, b2, b3, b4⟩, -, s, ⟨m5, -, -, -, -, m6⟩, -⟩ := h
  have h4 := c2.2.1.2
  refine ⟨⟨?_, ?_, ?_, c4.eq (fun p hp => ek p (by omega) (by omega)) e0⟩, ⟨?_, ?_, ?_, ?_⟩, hp, fun v a b => ?_, ⟨?_, hc.2.1, hc.2.2.1, hc.2.2.2.1, hc.2.2.2.2, ?_⟩, lg⟩
  · obtain ⟨x, y⟩ := c1.of (κ' := κ') (fun p a b => ek p a (by omega))
    refine ⟨x.trans (ea 1 (by unfold stX stW; omega)).symm, fun c hc => ?_⟩
    rw [eN] at hc
    rw [eS c (by omega), eL, ea (525 + c) (by unfold stX stW; omega)]
    exact y c hc
  · unfold aW at c2 ⊢
    rw [eV, eN, ea 0 (by unfold stX stW; omega), ea 1 (by unfold stX stW; omega)]
    refine ⟨c2.1, c2.2.1, fun c hc => ?_, fun c hc k hk => ?_⟩
    · rw [eS c (by omega), ea (125 + c) (by unfold stX stW; omega)]; exact c2.2.2.1 c hc
    · rw [eS c (by omega)] at hk; rw [eL]; exact c2.2.2.2 c hc k hk
  · intro c hc i j hi hj
    rw [eN] at hc
    rw [eS c (by omega)] at hj
    rw [eL]; exact c3 c hc i j hi hj
  · rw [e4, ea 0 (by unfold stX stW; omega)]; exact b1
  · unfold aWA at b2 ⊢
    rw [eA, eV, ea 3 (by unfold stX stW; omega)]
    refine ⟨b2.1, b2.2.1, fun k hk => ?_⟩
    have := b2.2.1
    rw [ea (16 + k) (by unfold stX stW; omega)]; exact b2.2.2 k hk
  · rw [ek 19 (by decide) (by decide), ea 3 (by unfold stX stW; omega)]; exact b3
  · rw [eA]
    intro k hk
    have := b2.2.1
    rw [ek 20 (by decide) (by decide), ea (16 + k) (by unfold stX stW; omega)]; exact b4 k hk
  · rw [ek 21 (by decide) (by decide), ea (63 + v) (by unfold stX stW; omega)]; exact s v a b
  · rw [hc.1, ea 5 (by unfold stX stW; omega)]; exact m5
  · rw [ek 11 (by decide) (by decide), ea 2 (by unfold stX stW; omega)]; exact m6
/-- both leave all and write their answer -/
theorem ends_both {how : Nat} (hs : sN κ α τ) (hT : aT α T L R t w) (hk : kT κ T L R t w) (hw : tW 30 T t) :
    sN (zup (k_leave κ (-1)) 10 12 (nI how)) (zup (a_leaves α (-1)) 101 12 (nI how)) τ ∧ (∀ p j, ¬ p = 3 → ¬ (p = 10 ∧ (j = 5 ∨ j = 12)) → zup (k_leave κ (-1)) 10 12 (nI how) p j = κ p j) ∧
    (∀ p j, ¬ (p = 100 ∧ (j = 10 ∨ j = 11)) → ¬ (p = 101 ∧ (j = 12 ∨ (33 ≤ j ∧ j ≤ 62))) → ¬ p = 105 → zup (a_leaves α (-1)) 101 12 (nI how) p j = α p j) ∧ zup (a_leaves α (-1)) 101 12 (nI how) 101 12 = nI how := by
  have hb : (if (0 : Int32) ≤ -1 then (-1 : Int32) else nI 0) = nI 0 := by decide
  obtain ⟨q1, q2, q3, q4, q5, q6, q7⟩ := leave_sN (b := -1) hb hw hT hk hs
  obtain ⟨-, -, -, l4, l5⟩ := leave_both (b := -1) hb hw hT hk hs.2.2.1
  have ek : ∀ p j, ¬ (p = 10 ∧ j = 12) → zup (k_leave κ (-1)) 10 12 (nI how) p j = k_leave κ (-1) p j := fun p j h => if_neg h
  have ea : ∀ p j, ¬ (p = 101 ∧ j = 12) → zup (a_leaves α (-1)) 101 12 (nI how) p j = a_leaves α (-1) p j := fun p j h => if_neg h
  obtain ⟨r1, r2, r3, r4, r5, r6⟩ := q1.2.2.2.2.1
  refine ⟨q1.up (fun p x y => funext fun i => ek p i (by omega)) (ek 10 4 (by omega)) (fun v x y => by rw [ek 10 5 (by omega), ea 101 (32 + v) (by omega)]; exact q1.2.2.1 v x y) (fun j hj => ea 101 j (by unfold stW at hj; omega)) ⟨ek 10 6 (by omega), ?_, ?_, ?_, ?_⟩ rfl, fun p j x y => (ek p j (by omega)).trans (l5 p j (by omega) (by omega)), fun p j x y z => (ea p j (by omega)).trans (l4 p j (by omega) (by omega) (by omega)), zup_same _ _ _ _⟩
  · rw [ek 10 8 (by omega), ea 101 8 (by omega)]; exact r2
  · rw [ek 10 9 (by omega), ea 101 9 (by omega)]; exact r3
  · rw [ek 10 10 (by omega), ea 101 10 (by omega)]; exact r4
  · rw [ek 10 11 (by omega), ea 101 11 (by omega)]; exact r5
end EN
