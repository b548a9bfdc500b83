/-! calls that change small things -/
section C2
variable {E : zEnv} {κ κ' α α' : Nat → Nat → Int32} {τ τ' : (Nat → Nat → Int64) × (Nat → Nat)} {k : Nat}
theorem rwR.eq {p i b : Nat} (h : rwR κ p α i b) (ek : ∀ j, κ' p j = κ p j) (ek1 : ∀ j, κ' (p + 1) j = κ (p + 1) j) (ei : α' 101 i = α 101 i) (eb : ∀ j, j < 8 → α' 101 (b + j) = α 101 (b + j)) (hV : aV α ≤ aV α') : rwR κ' p α' i b := by
  obtain ⟨D, d1, d2, d3, d4, d5, d6⟩ := h
  refine ⟨D, d1, by rw [ek]; exact d2, by rw [ei]; exact d3, fun j hj => ?_, fun v v1 v2 => ?_, fun x y hx hy => by rw [eb x (by omega), eb y (by omega)]; exact d6 x y hx hy⟩
  · rw [ek1, eb j (by omega)]; exact ⟨(d4 j hj).1, (d4 j hj).2.mono hV⟩
  · rw [ek, d5 v v1 v2]
    exact ⟨fun ⟨j, a, c⟩ => ⟨j, a, by rw [eb j (by omega)]; exact c⟩, fun ⟨j, a, c⟩ => ⟨j, a, by rw [eb j (by omega)] at c; exact c⟩⟩
theorem lgR.fr (h : lgR α) (h4 : aN α ≤ 400) (ea : ∀ j, j = 1 ∨ j = 2 ∨ j = 6 ∨ j = 7 ∨ 525 ≤ j → α' 101 j = α 101 j) : lgR α' := by
  obtain ⟨g1, g2, g3, g4, g5, g6⟩ := h
  have eN : aN α' = aN α := by unfold aN; rw [ea 1 (by omega)]
  have eLn : aLn α' = aLn α := by unfold aLn; rw [ea 6 (by omega)]
  have el : a_learnt α' = a_learnt α := funext fun c => by unfold a_learnt; rw [ea (525 + c) (by omega)]
  unfold lgR
  rw [eN, eLn, el, ea 6 (by omega), ea 7 (by omega), ea 2 (by omega), ea (925 + _) (by omega)]
  exact ⟨g1, g2, g3, fun c a b => by rw [ea _ (by omega)]; exact g4 c a b, g5, g6⟩
theorem stR.mk2 (h : stR κ α τ) (hV : α' 101 0 = nI (aV α')) (hV2 : aV α ≤ aV α' ∧ aV α' ≤ 30) (ek : ∀ p, 11 ≤ p → p ≤ 16 → κ' p = κ p) (ea : ∀ j, j = 1 ∨ j = 2 ∨ j = 6 ∨ j = 7 ∨ 125 ≤ j → α' 101 j = α 101 j) (e4 : κ' 10 4 = α' 101 0) (hph : phR κ' α') (hsc : ∀ v, 1 ≤ v → v ≤ 30 → κ' 21 v = α' 101 (63 + v))
    (hct : κ' 10 6 = α' 101 5 ∧ κ' 10 8 = α' 101 8 ∧ κ' 10 9 = α' 101 9 ∧ κ' 10 10 = α' 101 10 ∧ κ' 10 11 = α' 101 11) (hO : oR κ' α') (e0 : τ'.2 0 = τ.2 0) : stR κ' α' τ' := by
  obtain ⟨⟨⟨c1, c2, c3, c4⟩, -, -, -, ⟨-, -, -, -, -, m6⟩, lg⟩, -⟩ := h
  have eN : aN α' = aN α := by unfold aN; rw [ea 1 (by omega)]
  have eS : aS α' = aS α := funext fun c => by unfold aS; rw [ea (125 + c) (by omega)]
  have eL : aL α' = aL α := funext fun c => funext fun j => by unfold aL; rw [ea (1326 + 30 * c + j) (by omega)]
  obtain ⟨D, d1, d2, d3, d4, d5⟩ := hO.2.2.2.2
  have eA : aA α' = D := by unfold aA; rw [d3]; exact nI_clamp (by omega)
  refine ⟨⟨⟨?_, ?_, ?_, c4.eq (fun p hp => ek p (by omega) (by omega)) e0⟩, ⟨e4, ⟨by rw [eA]; exact d3, by rw [eA]; exact d1, fun j hj => (d4 j (by rwa [eA] at hj)).2⟩, by rw [d2, d3], fun j hj => (d4 j (by rwa [eA] at hj)).1⟩, hph, hsc, ⟨hct.1, hct.2.1, hct.2.2.1, hct.2.2.2.1, hct.2.2.2.2, ?_⟩, lg.fr c2.2.1.2 (fun j hj => ea j (by omega))⟩, hO⟩
  · obtain ⟨x, y⟩ := c1.of (κ' := κ') (fun p a b => ek p a b)
    refine ⟨x.trans (ea 1 (by omega)).symm, fun c hc => ?_⟩
    rw [eN] at hc
    rw [eS, eL, ea (525 + c) (by omega)]; exact y c hc
  · unfold aW at c2 ⊢
    rw [eN, eS, eL, ea 1 (by omega)]
    exact ⟨⟨hV, hV2.2⟩, c2.2.1, fun c hc => by rw [ea (125 + c) (by omega)]; exact c2.2.2.1 c hc, fun c hc j hj => (c2.2.2.2 c hc j hj).mono hV2.1⟩
  · unfold aWd; rw [eN, eS, eL]; exact c3
  · rw [ek 11 (by decide) (by decide), ea 2 (by omega)]; exact m6
theorem moR.eq (h : moR κ α) (e : κ' 10 14 = κ 10 14 ∧ κ' 10 15 = κ 10 15) (ea : ∀ j, j = 14 ∨ (94 ≤ j ∧ j ≤ 124) → α' 101 j = α 101 j) : moR κ' α' := by
  unfold moR at h ⊢
  rw [e.1, e.2, ea 14 (by omega)]
  exact h.imp id (fun ⟨M, x1, x2, x3, x4⟩ => ⟨M, x1, x2, x3, fun v a b => by rw [ea (94 + v) (by omega)]; exact x4 v a b⟩)
theorem oR.eq (h : oR κ α) (ek : ∀ j, j = 7 ∨ (12 ≤ j ∧ j ≤ 16) → κ' 10 j = κ 10 j) (ea : ∀ j, j = 7 ∨ (12 ≤ j ∧ j ≤ 15) ∨ (94 ≤ j ∧ j ≤ 124) → α' 101 j = α 101 j) (r1 : rwR κ' 17 α' 4 24) (r2 : rwR κ' 19 α' 3 16) : oR κ' α' := by
  obtain ⟨⟨o1, o2, o3⟩, ⟨o4, o5⟩, mo, -, -⟩ := h
  refine ⟨⟨?_, ?_, ?_⟩, ⟨?_, ?_⟩, mo.eq ⟨ek 14 (by omega), ek 15 (by omega)⟩ (fun j hj => ea j (by omega)), r1, r2⟩
  · rw [ek 7 (by omega), ea 7 (by omega)]; exact o1
  · rw [ek 12 (by omega), ea 12 (by omega)]; exact o2
  · rw [ek 16 (by omega), ea 15 (by omega)]; exact o3
  · rw [ek 12 (by omega), ek 13 (by omega), ea 13 (by omega)]; exact o4
  · rw [ek 12 (by omega), ea 13 (by omega)]; exact o5
/-- grow -/
theorem stR.grow (h : stR κ α τ) {n : Nat} (hn : aV α + n ≤ 30) (ek : ∀ p j, ¬ (p = 10 ∧ j = 4) → 10 ≤ p → p ≤ 21 → κ' p j = κ p j) (ea : ∀ j, ¬ j = 0 → α' 101 j = α 101 j) (e4 : κ' 10 4 = nI (aV α + n)) (a4 : α' 101 0 = nI (aV α + n)) : stR κ' α' τ := by
  have eV : aV α' = aV α + n := by unfold aV at *; rw [a4]; exact nI_clamp (by omega)
  obtain ⟨m1, m2, m3, m4, m5, m6⟩ := h.1.2.2.2.2.1
  refine h.mk2 (by rw [eV]; exact a4) ⟨by omega, by omega⟩ (fun p a b => funext fun j => ek p j (by omega) (by omega) (by omega)) (fun j hj => ea j (by omega)) (by rw [e4, a4]) (fun v a b => ?_) (fun v a b => ?_) ⟨?_, ?_, ?_, ?_, ?_⟩ (h.2.eq (fun j hj => ek 10 j (by omega) (by omega) (by omega)) (fun j hj => ea j (by omega)) (h.2.2.2.2.1.eq (fun j => ek 17 j (by omega) (by omega) (by omega)) (fun j => ek 18 j (by omega) (by omega) (by omega)) (ea 4 (by omega)) (fun j _ => ea _ (by omega)) (by omega)) (h.2.2.2.2.2.eq (fun j => ek 19 j (by omega) (by omega) (by omega)) (fun j => ek 20 j (by omega) (by omega) (by omega)) (ea 3 (by omega)) (fun j _ => ea _ (by omega)) (by omega))) rfl
  · rw [ek 10 5 (by omega) (by omega) (by omega), ea (32 + v) (by omega)]; exact h.1.2.2.1 v a b
  · rw [ek 21 v (by omega) (by omega) (by omega), ea (63 + v) (by omega)]; exact h.1.2.2.2.1 v a b
  · rw [ek 10 6 (by omega) (by omega) (by omega), ea 5 (by omega)]; exact m1
  · rw [ek 10 8 (by omega) (by omega) (by omega), ea 8 (by omega)]; exact m2
  · rw [ek 10 9 (by omega) (by omega) (by omega), ea 9 (by omega)]; exact m3
  · rw [ek 10 10 (by omega) (by omega) (by omega), ea 10 (by omega)]; exact m4
  · rw [ek 10 11 (by omega) (by omega) (by omega), ea 11 (by omega)]; exact m5
/-- phases, the unit, the rows -/
theorem stR.small (h : stR κ α τ) (ek : ∀ p j, ¬ (p = 10 ∧ (j = 5 ∨ j = 6)) → ¬ (17 ≤ p ∧ p ≤ 20) → 10 ≤ p → p ≤ 21 → κ' p j = κ p j) (ea : ∀ j, ¬ (j = 3 ∨ j = 4 ∨ j = 5 ∨ (16 ≤ j ∧ j ≤ 62)) → α' 101 j = α 101 j) (hp : phR κ' α') (e6 : κ' 10 6 = α' 101 5) (r1 : rwR κ' 17 α' 4 24) (r2 : rwR κ' 19 α' 3 16) : stR κ' α' τ := by
  have eV : aV α' = aV α := by unfold aV; rw [ea 0 (by omega)]
  obtain ⟨m1, m2, m3, m4, m5, m6⟩ := h.1.2.2.2.2.1
  refine h.mk2 (by rw [eV, ea 0 (by omega)]; exact h.1.1.2.1.1.1) ⟨by omega, by rw [eV]; exact h.1.1.2.1.1.2⟩ (fun p a b => funext fun j => ek p j (by omega) (by omega) (by omega) (by omega)) (fun j hj => ea j (by omega)) ?_ hp (fun v a b => ?_) ⟨e6, ?_, ?_, ?_, ?_⟩ (h.2.eq (fun j hj => ek 10 j (by omega) (by omega) (by omega) (by omega)) (fun j hj => ea j (by omega)) r1 r2) rfl
  · rw [ek 10 4 (by omega) (by omega) (by omega) (by omega), ea 0 (by omega)]; exact h.1.2.1.1
  · rw [ek 21 v (by omega) (by omega) (by omega) (by omega), ea (63 + v) (by omega)]; exact h.1.2.2.2.1 v a b
  · rw [ek 10 8 (by omega) (by omega) (by omega) (by omega), ea 8 (by omega)]; exact m2
  · rw [ek 10 9 (by omega) (by omega) (by omega) (by omega), ea 9 (by omega)]; exact m3
  · rw [ek 10 10 (by omega) (by omega) (by omega) (by omega), ea 10 (by omega)]; exact m4
  · rw [ek 10 11 (by omega) (by omega) (by omega) (by omega), ea 11 (by omega)]; exact m5
theorem txR.fr (h : txR κ α) (ek : ∀ p j, p = 5 ∨ p = 77 → κ' p j = κ p j) (ea : ∀ p j, p = 121 ∨ (p = 100 ∧ (j = 22 ∨ j = 25)) → α' p j = α p j) : txR κ' α' :=
  h.of (ek 5 5 (by omega)) (ek 5 6 (by omega)) (funext fun j => ek 77 j (by omega)) (ea 100 22 (by omega)) (ea 100 25 (by omega)) (funext fun j => ea 121 j (by omega))
theorem y_grow (h : zI k κ α τ) (n : Int32) : zCall E zI k κ α τ mX8_grow mX9_grow [.int n] := by
  have hW := h.1.1.1.2.1
  have hV := hW.1.2
  have e4 : κ 10 4 = nI (aV α) := h.1.1.2.1.1.trans hW.1.1
  have a4 : a0 α 101 0 = nI (aV α) := (a0_p (by omega)).trans hW.1.1
  by_cases e : n < nI 1 ∨ nI 30 - κ 10 4 < n
  · have ek : k_grow κ n = (-1, κ) := by unfold k_grow; rw [if_pos e]
    have ea : a_grows (a0 α) n = (-1, a0 α) := by
      unfold a_grows
      rw [if_neg]
      rw [a4]
      rw [e4] at e
      rintro ⟨x, y⟩
      rcases e with e | e
      · exact absurd x (Int32.not_le.mpr e)
      · exact absurd y (Int32.not_le.mpr e)
    refine .mk (fun d => s_grow d n) (fun d => t_grow d n) (by decide) (by decide) (by rw [ek, ea]) ?_
    rw [ek, ea]; exact h.a0
  · have e1 : nI 1 ≤ n := Int32.not_lt.mp (fun x => e (.inl x))
    have e2 : n ≤ nI (30 - aV α) := by
      have := Int32.not_lt.mp (fun x => e (.inr x))
      rwa [e4, pk_sub (by omega)] at this
    obtain ⟨m, hm, rfl⟩ := nI_of (x := n) (Int32.not_lt.mpr (Int32.le_trans (by decide) e1))
    have m2 := (nI_leI hm (by omega)).mp e2
    have ek : k_grow κ (nI m) = (nI (aV α + m), zup κ 10 4 (nI (aV α + m))) := by unfold k_grow; rw [if_neg e, e4, nI_add]
    have ea : a_grows (a0 α) (nI m) = (nI (aV α + m), zup (a0 α) 101 0 (nI (aV α + m))) := by
      unfold a_grows
      rw [a4, if_pos ⟨e1, by rw [pk_sub (by omega)]; exact e2⟩, nI_add]
    refine .mk (fun d => s_grow d _) (fun d => t_grow d _) (by decide) (by decide) (by rw [ek, ea]) ?_
    rw [ek, ea]
    show zI (k + 1) (zup κ 10 4 (nI (aV α + m))) (zup (a0 α) 101 0 (nI (aV α + m))) τ
    have fa : ∀ p i, ¬ (p = 100 ∧ i = 0) → ¬ (p = 101 ∧ i = 0) → zup (a0 α) 101 0 (nI (aV α + m)) p i = α p i := fun p i x y => (if_neg y).trans (a0_p x)
    have fk : ∀ p i, ¬ (p = 10 ∧ i = 4) → zup κ 10 4 (nI (aV α + m)) p i = κ p i := fun p i x => if_neg x
    exact h.fr (h.1.grow (n := m) (by omega) (fun p j x _ _ => fk p j x) (fun j hj => fa 101 j (by omega) (by omega)) (zup_same _ _ _ _) (zup_same _ _ _ _)) (h.2.1.fr (fun p j hp => fk p j (by omega)) (fun p j hp => fa p j (by omega) (by omega))) (fun p i hp => fk p i (by omega)) (fun p i hp => fa p i (by omega) (by omega)) tG.rf (fa 101 2 (by omega) (by omega))
theorem y_unit (h : zI k κ α τ) (n : Int32) : zCall E zI k κ α τ mX8_unit mX9_unit [.int n] := by
  have e6 : κ 10 6 = α 101 5 := h.1.1.2.2.2.2.1.1
  by_cases e : n < 0 ∨ nI 50 < n ∨ n = κ 10 6
  · have ek : k_unit κ n = (nI 0, κ) := by unfold k_unit; rw [if_pos e]
    have ea : a_unit α n = (nI 0, a0 α) := by
      unfold a_unit
      rw [if_neg]
      rintro ⟨x, y⟩
      simp only [Bool.and_eq_true, decide_eq_true_eq] at x
      rcases e with e | e | e
      · exact absurd x.1 (Int32.not_le.mpr e)
      · exact absurd x.2 (Int32.not_le.mpr e)
      · exact y (by rw [e, e6])
    refine .mk (fun d => s_unit d n) (fun d => t_unit d n) (by decide) (by decide) (by rw [ek, ea]) ?_
    rw [ek, ea]; exact h.a0
  · have ek : k_unit κ n = (nI 1, zup κ 10 6 n) := by unfold k_unit; rw [if_neg e]
    have ea : a_unit α n = (nI 1, zup (a0 α) 101 5 n) := by
      unfold a_unit
      rw [if_pos]
      refine ⟨?_, fun x => e (.inr (.inr (by rw [e6, x])))⟩
      simp only [Bool.and_eq_true, decide_eq_true_eq]
      exact ⟨Int32.not_lt.mp (fun x => e (.inl x)), Int32.not_lt.mp (fun x => e (.inr (.inl x)))⟩
    refine .mk (fun d => s_unit d n) (fun d => t_unit d n) (by decide) (by decide) (by rw [ek, ea]) ?_
    rw [ek, ea]
    show zI (k + 1) (zup κ 10 6 n) (zup (a0 α) 101 5 n) τ
    have fa : ∀ p i, ¬ (p = 100 ∧ i = 0) → ¬ (p = 101 ∧ i = 5) → zup (a0 α) 101 5 n p i = α p i := fun p i x y => (if_neg y).trans (a0_p x)
    have fk : ∀ p i, ¬ (p = 10 ∧ i = 6) → zup κ 10 6 n p i = κ p i := fun p i x => if_neg x
    have eV : aV (zup (a0 α) 101 5 n) = aV α := by unfold aV; rw [fa 101 0 (by omega) (by omega)]
    refine h.fr (h.1.small (fun p j x _ _ _ => fk p j (by omega)) (fun j hj => fa 101 j (by omega) (by omega)) (fun v a b => ?_) ?_ (h.1.2.2.2.2.1.eq (fun j => fk 17 j (by omega)) (fun j => fk 18 j (by omega)) (fa 101 4 (by omega) (by omega)) (fun j _ => fa 101 _ (by omega) (by omega)) (by omega)) (h.1.2.2.2.2.2.eq (fun j => fk 19 j (by omega)) (fun j => fk 20 j (by omega)) (fa 101 3 (by omega) (by omega)) (fun j _ => fa 101 _ (by omega) (by omega)) (by omega))) (h.2.1.fr (fun p j hp => fk p j (by omega)) (fun p j hp => fa p j (by omega) (by omega))) (fun p i hp => fk p i (by omega)) (fun p i hp => fa p i (by omega) (by omega)) tG.rf (fa 101 2 (by omega) (by omega))
    · rw [fk 10 5 (by omega), fa 101 (32 + v) (by omega) (by omega)]; exact h.1.1.2.2.1 v a b
    · rw [zup_same, zup_same]
theorem y_free (h : zI k κ α τ) : zCall E zI k κ α τ mX8_free mX9_free [] := by
  obtain ⟨D, d1, d2, d3, d4, d5⟩ := h.1.2.2.2.2.2
  refine .mk (fun d => s_free d) (fun d => t_free d) (by decide) (by decide) (by rw [d2, d3]) ?_
  show zI (k + 1) (k_emp κ 19) (zup (a0 α) 101 3 (nI 0)) τ
  have fa : ∀ p i, ¬ (p = 100 ∧ i = 0) → ¬ (p = 101 ∧ i = 3) → zup (a0 α) 101 3 (nI 0) p i = α p i := fun p i x y => (if_neg y).trans (a0_p x)
  have fk : ∀ p i, ¬ (p = 19 ∧ (i = 1 ∨ i = 2)) → k_emp κ 19 p i = κ p i := fun p i x => by unfold k_emp; exact (if_neg (by omega)).trans (if_neg (by omega))
  have eV : aV (zup (a0 α) 101 3 (nI 0)) = aV α := by unfold aV; rw [fa 101 0 (by omega) (by omega)]
  refine h.fr (h.1.small (fun p j x y _ _ => fk p j (by omega)) (fun j hj => fa 101 j (by omega) (by omega)) (fun v a b => ?_) ?_ (h.1.2.2.2.2.1.eq (fun j => fk 17 j (by omega)) (fun j => fk 18 j (by omega)) (fa 101 4 (by omega) (by omega)) (fun j _ => fa 101 _ (by omega) (by omega)) (by omega)) ⟨0, by decide, ?_, zup_same _ _ _ _, fun j hj => by omega, fun v a b => ?_, fun x y _ hy => by omega⟩) (h.2.1.fr (fun p j hp => fk p j (by omega)) (fun p j hp => fa p j (by omega) (by omega))) (fun p i hp => fk p i (by omega)) (fun p i hp => fa p i (by omega) (by omega)) tG.rf (fa 101 2 (by omega) (by omega))
  · rw [fk 10 5 (by omega), fa 101 (32 + v) (by omega) (by omega)]; exact h.1.1.2.2.1 v a b
  · rw [fk 10 6 (by omega), fa 101 5 (by omega) (by omega)]; exact h.1.1.2.2.2.2.1.1
  · unfold k_emp; rw [zup_i (by decide), zup_same]
  · unfold k_emp
    rw [zup_same, kt_n0]
    exact ⟨fun x => absurd x (by decide), fun ⟨j, x, _⟩ => absurd x (by omega)⟩
end C2
