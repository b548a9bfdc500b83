/-! leaving and starting anew, with the whole state -/
section AN
variable {κ α : Nat → Nat → Int32} {τ : (Nat → Nat → Int64) × (Nat → Nat)} {T : Nat → Int32} {L : Nat → Nat} {R : Nat → Int32} {t w : Nat}
theorem leave_sN {w' : Nat} {b : Int32} (hb : (if 0 ≤ b then b else nI 0) = nI w') (hw : tW 30 T t) (ha : aT α T L R t w) (hk : kT κ T L R t w) (h : sN κ α τ) :
    sN (k_leave κ b) (a_leaves α b) τ ∧ aFr α (a_leaves α b) ∧ kFr κ (k_leave κ b) ∧ (∀ j, ¬ (j = 10 ∨ j = 11) → a_leaves α b 100 j = α 100 j) ∧ (∀ j, ¬ (33 ≤ j ∧ j ≤ 62) → a_leaves α b 101 j = α 101 j) ∧
    (∀ j, ¬ (j = 2 ∨ j = 6 ∨ j = 7 ∨ j = 8) → k_leave κ b 3 j = κ 3 j) ∧ (∀ j, ¬ j = 5 → k_leave κ b 10 j = κ 10 j) := by
  obtain ⟨l1, l2, l3, l4, l5⟩ := leave_both hb hw ha hk h.2.2.1
  obtain ⟨r1, r2, r3, r4, r5, r6⟩ := h.2.2.2.2.1
  refine ⟨h.up (fun p x y => funext fun i => l5 p i (by omega) (by omega)) (l5 10 4 (by omega) (by omega)) l3 (fun j hj => l4 101 j (by omega) (by unfold stW at hj; omega) (by omega)) ⟨l5 10 6 (by omega) (by omega), ?_, ?_, ?_, ?_⟩ rfl, ⟨fun p hp => funext fun j => l4 p j (by omega) (by omega) (by omega), fun j hj => l4 100 j (by omega) (by omega) (by omega), fun j hj => l4 101 j (by omega) (by omega) (by omega)⟩, ⟨fun p hp => funext fun j => l5 p j (by omega) (by omega), fun j hj => l5 10 j (by omega) (by omega)⟩, fun j hj => l4 100 j (by omega) (by omega) (by omega), fun j hj => l4 101 j (by omega) (by omega) (by omega), fun j hj => l5 3 j (by omega) (by omega), fun j hj => l5 10 j (by omega) (by omega)⟩
  · rw [l5 10 8 (by omega) (by omega), l4 101 8 (by omega) (by omega) (by omega)]; exact r2
  · rw [l5 10 9 (by omega) (by omega), l4 101 9 (by omega) (by omega) (by omega)]; exact r3
  · rw [l5 10 10 (by omega) (by omega), l4 101 10 (by omega) (by omega) (by omega)]; exact r4
  · rw [l5 10 11 (by omega) (by omega), l4 101 11 (by omega) (by omega) (by omega)]; exact r5
/-- the search's stand -/
def zSr (κ α : Nat → Nat → Int32) (τ : (Nat → Nat → Int64) × (Nat → Nat)) (T : Nat → Int32) (L : Nat → Nat) (R : Nat → Int32) (t w : Nat) : Prop :=
  sN κ α τ ∧ (α 101 7 = 0 ∧ κ 10 7 = 0) ∧ aT α T L R t w ∧ kT κ T L R t w ∧ tI (aV α) (aCl α) (aAs α) T L R t w
theorem zSr.w30 (h : zSr κ α τ T L R t w) : tW 30 T t := h.2.2.2.2.1.to30 h.1.1.2.1.1.2
theorem anew_both {a : Nat} (h : zSr κ α τ T L R t w) (h12 : κ 3 12 = α 100 16 + nI 1) (h13 : κ 3 13 = α 100 17) (ha : α 100 17 = nI a) (ha2 : a ≤ 199) :
    ∃ t' w', zSr (k_anew κ) (a_anew α) τ T L R t' w' ∧ k_anew κ 3 12 = a_anew α 100 16 ∧ k_anew κ 3 13 = a_anew α 100 17 ∧ (∃ a', a' ≤ a + 1 ∧ a_anew α 100 17 = nI a') ∧ k_anew κ 3 11 = κ 3 11 ∧ a_anew α 100 15 = α 100 15 ∧ aFr α (a_anew α) ∧ kFr κ (k_anew κ) := by
  have w30 := h.w30
  obtain ⟨hs, ⟨h7, h7'⟩, hT, hk, hI⟩ := h
  obtain ⟨r1, r2, r3, r4, r5, r6⟩ := hs.2.2.2.2.1
  have el : k_lub ((κ 3 13).toNatClampNeg + 1) = lubF 208 ((α 100 17).toNatClampNeg + 1) := by
    rw [h13, ha, nI_clamp (show a < 2 ^ 31 by omega)]
    exact (lub_eq (a + 1) (by omega) (by omega)).symm
  unfold k_anew a_anew
  rw [h12, r1, el]
  by_cases e : α 101 5 = 0 ∨ α 100 16 + nI 1 < α 101 5 * nI (lubF 208 ((α 100 17).toNatClampNeg + 1))
  · rw [if_pos e, if_pos e]
    have ez : ∀ p j, ¬ (p = 100 ∧ j = 16) → zup α 100 16 (α 100 16 + nI 1) p j = α p j := fun p j hp => if_neg hp
    have ez1 : zup α 100 16 (α 100 16 + nI 1) 101 = α 101 := funext fun j => ez 101 j (by omega)
    have ew : ∀ j, ¬ stW j → zup α 100 16 (α 100 16 + nI 1) 101 j = α 101 j := fun j _ => ez 101 j (by omega)
    refine ⟨t, w, ⟨?_, ⟨by rw [ez1]; exact h7, h7'⟩, ?_, hk, ?_⟩, ?_, ?_, ⟨a, by omega, ?_⟩, rfl, ?_, ?_, kFr.rf⟩
    · refine hs.up (fun _ _ _ => rfl) rfl (fun v x y => by rw [ez1]; exact hs.2.2.1 v x y) ew ?_ rfl
      rw [ez1]; exact ⟨rfl, r2, r3, r4, r5⟩
    · exact hT.of (fun p x y => funext fun i => ez p i (by omega)) (ez 100 10 (by omega)) ((ez 100 11 (by omega)).trans hT.1.2)
    · rw [stW.V ew, stW.Cl ew, stW.As ew]; exact hI
    · rw [zup_same]; exact h12
    · rw [ez 100 17 (by omega)]; exact h13
    · rw [ez 100 17 (by omega)]; exact ha
    · exact ez 100 15 (by omega)
    · exact ⟨fun p hp => funext fun j => ez p j (by omega), fun j hj => ez 100 j (by omega), fun j hj => ez 101 j (by omega)⟩
  · rw [if_neg e, if_neg e]
    generalize ea1 : zup (zup (zup (zup α 100 16 (α 100 16 + nI 1)) 100 17 (α 100 17 + nI 1)) 100 16 (nI 0)) 101 11 (α 101 11 + nI 1) = α1
    generalize ek1 : zup (zup (zup κ 10 11 (κ 10 11 + nI 1)) 3 13 (κ 3 13 + nI 1)) 3 12 (nI 0) = κ1
    have ez : ∀ p j, ¬ (p = 100 ∧ (j = 16 ∨ j = 17)) → ¬ (p = 101 ∧ j = 11) → α1 p j = α p j := fun p j x y => by
      rw [← ea1]; unfold zup
      rw [if_neg y, if_neg (by omega), if_neg (by omega), if_neg (by omega)]
    have ek : ∀ p j, ¬ (p = 3 ∧ (j = 12 ∨ j = 13)) → ¬ (p = 10 ∧ j = 11) → κ1 p j = κ p j := fun p j x y => by
      rw [← ek1]; unfold zup
      rw [if_neg (by omega), if_neg (by omega), if_neg y]
    have ew : ∀ j, ¬ stW j → α1 101 j = α 101 j := fun j hj => ez 101 j (by omega) (by unfold stW at hj; omega)
    have k1 : kT κ1 T L R t w := hk.of (fun p x y => funext fun i => ek p i (by omega) (by omega)) (ek 3 2 (by omega) (by omega)) (ek 3 6 (by omega) (by omega)) (ek 3 7 (by omega) (by omega)) ((ek 3 8 (by omega) (by omega)).trans hk.1.2)
    have a1 : aT α1 T L R t w := hT.of (fun p x y => funext fun i => ez p i (by omega) (by omega)) (ez 100 10 (by omega) (by omega)) ((ez 100 11 (by omega) (by omega)).trans hT.1.2)
    have s1 : sN κ1 α1 τ := by
      refine hs.up (fun p x y => funext fun i => ek p i (by omega) (by omega)) (ek 10 4 (by omega) (by omega)) (fun v x y => by rw [ek 10 5 (by omega) (by omega), ez 101 (32 + v) (by omega) (by omega)]; exact hs.2.2.1 v x y) ew ⟨ek 10 6 (by omega) (by omega), ?_, ?_, ?_, ?_⟩ rfl
      · rw [ek 10 8 (by omega) (by omega), ez 101 8 (by omega) (by omega)]; exact r2
      · rw [ek 10 9 (by omega) (by omega), ez 101 9 (by omega) (by omega)]; exact r3
      · rw [ek 10 10 (by omega) (by omega), ez 101 10 (by omega) (by omega)]; exact r4
      · rw [← ek1, ← ea1, zup_p (by decide), zup_p (by decide), zup_same, zup_same, r5]
    have hb0 : (if (0 : Int32) ≤ nI 0 then nI 0 else nI 0) = nI 0 := by decide
    obtain ⟨q1, q2, q3, q4, q5, q6, q7⟩ := leave_sN hb0 w30 a1 k1 s1
    obtain ⟨l1, l2, l3, -, -⟩ := leave_both hb0 w30 a1 k1 s1.2.2.1
    have ew2 : ∀ j, ¬ stW j → a_leaves α1 (nI 0) 101 j = α 101 j := fun j hj => (q5 j (by unfold stW at hj; omega)).trans (ew j hj)
    refine ⟨tC L (nI 0) t, 0, ⟨q1, ⟨?_, ?_⟩, l1, l2, ?_⟩, ?_, ?_, ⟨a + 1, by omega, ?_⟩, ?_, ?_, ?_, ?_⟩
    · rw [ew2 7 (by unfold stW; omega)]; exact h7
    · rw [q7 7 (by decide), ek 10 7 (by omega) (by omega)]; exact h7'
    · rw [stW.V ew2, stW.Cl ew2, stW.As ew2]; exact hI.cut (b := 0) (Nat.zero_le _)
    · rw [q6 12 (by decide), q4 16 (by decide), ← ek1, ← ea1, zup_same, zup_p (by decide), zup_same]
    · rw [q6 13 (by decide), q4 17 (by decide), ← ek1, ← ea1, zup_i (by decide), zup_same, zup_p (by decide), zup_i (by decide), zup_same, h13]
    · rw [q4 17 (by decide), ← ea1, zup_p (by decide), zup_i (by decide), zup_same, ha, nI_add]
    · rw [q6 11 (by decide), ek 3 11 (by omega) (by omega)]
    · rw [q4 15 (by decide), ez 100 15 (by omega) (by omega)]
    · exact aFr.tr ⟨fun p hp => funext fun j => ez p j (by omega) (by omega), fun j hj => ez 100 j (by omega) (by omega), fun j hj => ez 101 j (by omega) (by omega)⟩ q2
    · exact kFr.tr ⟨fun p hp => funext fun j => ek p j (by omega) (by omega), fun j hj => ek 10 j (by omega) (by omega)⟩ q3
end AN
