/-! keep and back -/
section KP
variable {E : zEnv} {κ κ' α α' A A' : Nat → Nat → Int32} {τ τ' : (Nat → Nat → Int64) × (Nat → Nat)} {k : Nat}
theorem ke_row {s : Nat} : ∀ m (β : Nat → Nat → Int32), (∀ j, j < m → zit (a_keF s) 0 m β 103 (13326 * s + j) = β 101 j) ∧ ∀ p i, ¬ (p = 103 ∧ 13326 * s ≤ i ∧ i < 13326 * s + m) → zit (a_keF s) 0 m β p i = β p i
  | 0, β => ⟨fun j hj => by omega, fun _ _ _ => rfl⟩
  | m + 1, β => by
    obtain ⟨i1, i2⟩ := ke_row (s := s) m β
    rw [zit_succ, Nat.zero_add]
    generalize zit (a_keF s) 0 m β = a at i1 i2
    unfold a_keF
    refine ⟨fun j hj => ?_, fun p i x => (if_neg (by omega)).trans (i2 p i (by omega))⟩
    by_cases e : j = m
    · subst e; rw [zup_same]; exact i2 101 _ (by omega)
    · rw [zup_i (by omega)]; exact i1 j (by omega)
theorem ba_row {s : Nat} : ∀ m (β : Nat → Nat → Int32), (∀ j, j < m → zit (a_baF s) 0 m β 101 j = β 103 (13326 * s + j)) ∧ ∀ p i, ¬ (p = 101 ∧ i < m) → zit (a_baF s) 0 m β p i = β p i
  | 0, β => ⟨fun j hj => by omega, fun _ _ _ => rfl⟩
  | m + 1, β => by
    obtain ⟨i1, i2⟩ := ba_row (s := s) m β
    rw [zit_succ, Nat.zero_add]
    generalize zit (a_baF s) 0 m β = a at i1 i2
    unfold a_baF
    refine ⟨fun j hj => ?_, fun p i x => (if_neg (by omega)).trans (i2 p i (by omega))⟩
    by_cases e : j = m
    · subst e; rw [zup_same]; exact i2 103 _ (by omega)
    · rw [zup_i (by omega)]; exact i1 j (by omega)
theorem rmg_F {g S : Nat} (hg : g ≤ 2) : (∀ j, ¬ j = g → ¬ j = 5 → ¬ j = 6 → (k_rmTg τ g S).2 j = τ.2 j) ∧ τ.2 g ≤ (k_rmTg τ g S).2 g ∧ S ≤ (k_rmTg τ g S).2 g ∧ (S ≤ 12000 → τ.2 g ≤ 24000 → (k_rmTg τ g S).2 g ≤ 24000) ∧ (512 ≤ τ.2 g → (k_rmTg τ g S).2 5 * 512 + τ.2 g ≤ τ.2 5 * 512 + (k_rmTg τ g S).2 g ∧ (k_rmTg τ g S).2 6 + 2 * τ.2 g ≤ τ.2 6 + 2 * (k_rmTg τ g S).2 g) := by
  refine ⟨fun j a b c => k_rmTg_k a b c, ?_, k_rmTg_ge, fun h1 h2 => ?_, fun h => ?_⟩
  · unfold k_rmTg
    by_cases h : S ≤ τ.2 g
    · rw [if_pos h]; exact Nat.le_refl _
    · rw [if_neg h]
      show τ.2 g ≤ if g = g then kRl (τ.2 g) S else _
      rw [if_pos rfl]; unfold kRl; rw [if_neg h]; split <;> omega
  · unfold k_rmTg
    by_cases h : S ≤ τ.2 g
    · rw [if_pos h]; exact h2
    · rw [if_neg h]
      show (if g = g then kRl (τ.2 g) S else _) ≤ _
      rw [if_pos rfl]; unfold kRl; rw [if_neg h]; split <;> omega
  · unfold k_rmTg
    by_cases hS : S ≤ τ.2 g
    · rw [if_pos hS]; exact ⟨Nat.le_refl _, Nat.le_refl _⟩
    · rw [if_neg hS]
      have hk : 2 * τ.2 g ≤ kRl (τ.2 g) S := by unfold kRl; rw [if_neg hS]; split <;> omega
      show (if 5 = g then _ else if 5 = 5 then _ else _) * 512 + τ.2 g ≤ τ.2 5 * 512 + (if g = g then kRl (τ.2 g) S else _) ∧ (if 6 = g then _ else if 6 = 5 then _ else if 6 = 6 then _ else _) + 2 * τ.2 g ≤ τ.2 6 + 2 * (if g = g then kRl (τ.2 g) S else _)
      rw [if_neg (show ¬ 5 = g by omega), if_pos rfl, if_pos rfl, if_neg (show ¬ 6 = g by omega), if_neg (by decide), if_pos rfl]
      generalize kRl (τ.2 g) S = K at hk
      generalize τ.2 g = L at hk h
      omega
/-- what copying wants of the state at block h -/
theorem stR.cp {h : Nat} (hs : stR (kSh κ h) A (tSh τ h)) : ∃ N S t u, kCp κ τ h N S t u ∧ N = kN (kSh κ h) ∧ S = kS (kSh κ h) (kN (kSh κ h)) ∧ t ≤ 8 ∧ u ≤ 8 ∧ kSh κ h 17 1 = nI t ∧ kSh κ h 19 1 = nI u ∧ (∀ i, i < t → lok 30 (κ (18 + 20 * h) i)) ∧ (∀ i, i < u → lok 30 (κ (20 + 20 * h) i)) ∧ (∀ v, 1 ≤ v → v ≤ 30 → (kt (kSh κ h 17 2) v = true ↔ ∃ i, i < t ∧ zv (κ (18 + 20 * h) i) = v)) ∧ ∀ v, 1 ≤ v → v ≤ 30 → (kt (kSh κ h 19 2) v = true ↔ ∃ i, i < u ∧ zv (κ (20 + 20 * h) i) = v) := by
  have kW := hs.1.1.2.2.2
  have hW := hs.1.1.2.1
  have hV := hW.1.2
  obtain ⟨t, t1, t2, t3, t4, t5, t6⟩ := hs.2.2.2.2.1
  obtain ⟨u, u1, u2, u3, u4, u5, u6⟩ := hs.2.2.2.2.2
  have h7 : κ (10 + 20 * h) 7 = A 101 7 := hs.2.1.1
  have h30 := kW.s30 (i := kN (kSh κ h)) (Nat.le_refl _)
  have hn := kW.1.2
  refine ⟨kN (kSh κ h), kS (kSh κ h) (kN (kSh κ h)), t, u, ⟨⟨kW.1.1, hn⟩, ⟨kW.2.1 _ (Nat.le_refl _), by omega, kW.2.2.2.2.1⟩, fun i hi => ?_, ⟨t2, t1⟩, ⟨u2, u1⟩, ?_⟩, rfl, rfl, t1, u1, t2, u2, fun i hi => ?_, fun i hi => ?_, fun v v1 v2 => ?_, fun v v1 v2 => ?_⟩
  · rw [hs.1.1.1.n] at hi
    rcases (hs.1.1.1.2 i hi).2.2.2 with ⟨x, -⟩ | ⟨x, -⟩ | ⟨x, -⟩
    · rw [show κ (14 + 20 * h) i = 0 from x]; rfl
    · rw [show κ (14 + 20 * h) i = nI 1 from x]; rfl
    · rw [show κ (14 + 20 * h) i = nI 2 from x]; rfl
  · rcases hs.1.2.2.2.2.2.2.1 with x | x
    · exact ⟨false, by rw [h7, x]; rfl⟩
    · exact ⟨true, by rw [h7, x]; rfl⟩
  · have := (t4 i hi)
    rw [show κ (18 + 20 * h) i = _ from this.1]; exact this.2.mono hV
  · have := (u4 i hi)
    rw [show κ (20 + 20 * h) i = _ from this.1]; exact this.2.mono hV
  · rw [t5 v v1 v2]
    exact ⟨fun ⟨i, a, b⟩ => ⟨i, a, by rw [show κ (18 + 20 * h) i = _ from (t4 i a).1]; exact b⟩, fun ⟨i, a, b⟩ => ⟨i, a, by rw [show κ (18 + 20 * h) i = _ from (t4 i a).1] at b; exact b⟩⟩
  · rw [u5 v v1 v2]
    exact ⟨fun ⟨i, a, b⟩ => ⟨i, a, by rw [show κ (20 + 20 * h) i = _ from (u4 i a).1]; exact b⟩, fun ⟨i, a, b⟩ => ⟨i, a, by rw [show κ (20 + 20 * h) i = _ from (u4 i a).1] at b; exact b⟩⟩
theorem stR.copied {g h N S t u : Nat} (hg : g ≤ 2) (hh : h ≤ 2) (hgh : ¬ g = h) (hs : stR (kSh κ h) A (tSh τ h)) (eN : N = kN (kSh κ h)) (eS : S = kS (kSh κ h) (kN (kSh κ h))) (ht : t ≤ 8) (hu : u ≤ 8) (e17 : kSh κ h 17 1 = nI t) (e19 : kSh κ h 19 1 = nI u) (lt : ∀ i, i < t → lok 30 (κ (18 + 20 * h) i)) (lu : ∀ i, i < u → lok 30 (κ (20 + 20 * h) i)) (mt : ∀ v, 1 ≤ v → v ≤ 30 → (kt (kSh κ h 17 2) v = true ↔ ∃ i, i < t ∧ zv (κ (18 + 20 * h) i) = v)) (mu : ∀ v, 1 ≤ v → v ≤ 30 → (kt (kSh κ h 19 2) v = true ↔ ∃ i, i < u ∧ zv (κ (20 + 20 * h) i) = v)) (ea : ∀ j, j < 13326 → A' 101 j = A 101 j) (hS : S ≤ 12000) (hL : τ.2 g ≤ 24000) :
    stR (kSh (k_cpA κ τ g h N S t u) g) A' (tSh (k_rmTg τ g S) g) ∧ ∀ x, ¬ (10 + 20 * g ≤ x ∧ x ≤ 21 + 20 * g) → k_cpA κ τ g h N S t u x = κ x := by
  obtain ⟨c1, c2, c3, c4, c5, ⟨c6, c7, c8⟩, ⟨c9, c10, c11⟩, c12, c13⟩ := cpA_is (κ := κ) (τ := τ) (N := N) (S := S) hg hh hgh ht hu lt lu
  obtain ⟨-, -, f3, f4, -⟩ := rmg_F (τ := τ) (S := S) hg
  refine ⟨hs.cg (fun j a b => c1 j a b) c2 (fun p c p1 p2 hc => c3 p c p1 p2 (by omega)) (fun i hi => c4 i (by omega)) (fun j hj => c5 j (by omega)) (fun p hp => ?_) (fun v hv => c12 v hv) ea ⟨by rw [← eS]; exact f3, f4 hS hL⟩, c13⟩
  rcases hp with rfl | rfl
  · refine ⟨c6.trans e17.symm, fun v v1 v2 => ?_, fun i hi => ?_⟩
    · rw [Bool.eq_iff_iff, mt v v1 v2]; exact c8 v v1 v2
    · rw [e17, nI_clamp (show t < 2 ^ 31 by omega)] at hi; exact c7 i hi
  · refine ⟨c9.trans e19.symm, fun v v1 v2 => ?_, fun i hi => ?_⟩
    · rw [Bool.eq_iff_iff, mu v v1 v2]; exact c11 v v1 v2
    · rw [e19, nI_clamp (show u < 2 ^ 31 by omega)] at hi; exact c10 i hi
end KP
