/-! a state copied: what is where -/
section CY
variable {κ α : Nat → Nat → Int32} {τ : (Nat → Nat → Int64) × (Nat → Nat)}
theorem cpR_loop {p q : Nat} {l : Nat → Int32} (hq : ∀ i, κ (q + 1) i = l i) : ∀ t a, t ≤ 8 → (∀ i, i < t → lok 30 (l i)) → a p 1 = nI 0 → a p 2 = nI 0 → zit (k_cpF κ p q) 0 t a p 1 = nI t ∧ (∀ i, i < t → zit (k_cpF κ p q) 0 t a (p + 1) i = l i) ∧ (∀ v, 1 ≤ v → v ≤ 30 → (kt (zit (k_cpF κ p q) 0 t a p 2) v = true ↔ ∃ i, i < t ∧ zv (l i) = v)) ∧ ∀ x, ¬ x = p → ¬ x = p + 1 → zit (k_cpF κ p q) 0 t a x = a x
  | 0, a, _, _, h1, h2 => ⟨h1, fun i hi => by omega, fun v _ _ => by
      show kt (a p 2) v = true ↔ _
      rw [h2, kt_n0]; exact ⟨fun x => absurd x (by decide), fun ⟨j, x, _⟩ => absurd x (by omega)⟩, fun _ _ _ => rfl⟩
  | t + 1, a, ht, hl, h1, h2 => by
    obtain ⟨i1, i2, i3, i4⟩ := cpR_loop hq t a (by omega) (fun i hi => hl i (by omega)) h1 h2
    rw [zit_succ, Nat.zero_add]
    generalize zit (k_cpF κ p q) 0 t a = b at i1 i2 i3 i4
    unfold k_cpF
    rw [hq t]
    obtain ⟨u, u1, u2, eu, -⟩ := lok_two (hl t (by omega))
    have ekb : kb (l t) = kb (nI u) := by have := kb_lok (hl t (by omega)) (Nat.le_refl _); rwa [eu] at this
    unfold k_put
    rw [i1, nI_clamp (show t < 2 ^ 31 by omega)]
    refine ⟨by rw [zup_i (by decide), zup_same, nI_add], fun i hi => ?_, fun v v1 v2 => ?_, fun x x1 x2 => funext fun j => ?_⟩
    · rw [zup_p (by omega), zup_p (by omega)]
      by_cases e : i = t
      · subst e; rw [zup_same]
      · rw [zup_i e]; exact i2 i (by omega)
    · rw [zup_same, ekb, kt_or, kt_kb u1 u2 v1 v2, Bool.or_eq_true, decide_eq_true_eq, i3 v v1 v2]
      constructor
      · rintro (⟨i, a1, a2⟩ | e)
        · exact ⟨i, by omega, a2⟩
        · exact ⟨t, by omega, eu.trans e⟩
      · rintro ⟨i, a1, a2⟩
        by_cases e : i = t
        · subst e; exact .inr (eu.symm.trans a2)
        · exact .inl ⟨i, by omega, a2⟩
    · rw [zup_p x1, zup_p x1, zup_p x2, i4 x x1 x2]
theorem cpR_is {p q t : Nat} (ht : t ≤ 8) (hl : ∀ i, i < t → lok 30 (κ (q + 1) i)) : k_cpR κ p q t p 1 = nI t ∧ (∀ i, i < t → k_cpR κ p q t (p + 1) i = κ (q + 1) i) ∧ (∀ v, 1 ≤ v → v ≤ 30 → (kt (k_cpR κ p q t p 2) v = true ↔ ∃ i, i < t ∧ zv (κ (q + 1) i) = v)) ∧ ∀ x, ¬ x = p → ¬ x = p + 1 → k_cpR κ p q t x = κ x := by
  obtain ⟨i1, i2, i3, i4⟩ := cpR_loop (κ := κ) (p := p) (q := q) (l := κ (q + 1)) (fun _ => rfl) t (k_emp κ p) ht hl (by unfold k_emp; rw [zup_i (by decide), zup_same]) (by unfold k_emp; rw [zup_same])
  refine ⟨i1, i2, i3, fun x x1 x2 => (i4 x x1 x2).trans (funext fun j => ?_)⟩
  unfold k_emp; rw [zup_p x1, zup_p x1]
theorem cpFld_is {p q : Nat} (hpq : ¬ p = q) : ∀ m (a : Nat → Nat → Int32), (∀ j, 4 ≤ j → j < 4 + m → zit (k_cpFld p q) 4 m a p j = a q j) ∧ ∀ x, ¬ x = p → zit (k_cpFld p q) 4 m a x = a x
  | 0, a => ⟨fun j _ _ => by omega, fun _ _ => rfl⟩
  | m + 1, a => by
    obtain ⟨i1, i2⟩ := cpFld_is hpq m a
    rw [zit_succ]
    generalize zit (k_cpFld p q) 4 m a = b at i1 i2
    unfold k_cpFld
    refine ⟨fun j j1 j2 => ?_, fun x hx => funext fun j => by rw [zup_p hx, i2 x hx]⟩
    by_cases e : j = 4 + m
    · subst e; rw [zup_same, i2 q (fun x => hpq x.symm)]
    · rw [zup_i e]; exact i1 j j1 (by omega)
theorem cpS_is {g h N S : Nat} (hg : g ≤ 2) (hh : h ≤ 2) (hgh : ¬ g = h) :
    (k_cpS κ τ g h N S (11 + 20 * g) 5 = κ (11 + 20 * h) 5 ∧ k_cpS κ τ g h N S (11 + 20 * g) 6 = κ (11 + 20 * h) 6) ∧ (∀ p c, 12 ≤ p → p ≤ 14 → c < N → k_cpS κ τ g h N S (p + 20 * g) c = κ (p + 20 * h) c) ∧ (∀ i, i ≤ N → k_cpS κ τ g h N S (15 + 20 * g) i = κ (15 + 20 * h) i) ∧ (∀ j, j < S → k_cpS κ τ g h N S (16 + 20 * g) j = κ (16 + 20 * h) j) ∧ ∀ x, ¬ (11 + 20 * g ≤ x ∧ x ≤ 16 + 20 * g) → k_cpS κ τ g h N S x = κ x := by
  have e2 : ∀ x j, ¬ x = 16 + 20 * g → k_cpS κ τ g h N S x j = k_cp2 κ (11 + 20 * g) (11 + 20 * h) N x j := fun x j hx => by
    unfold k_cpS; rw [kcp_p hx, k_rmKg_p hx]
  have o2 : ∀ x, ¬ (11 + 20 * g ≤ x ∧ x ≤ 15 + 20 * g) → ∀ j, k_cp2 κ (11 + 20 * g) (11 + 20 * h) N x j = κ x j := fun x hx j => by
    unfold k_cp2 k_cp1
    rw [kcp_p (by omega), kcp_p (by omega), kcp_p (by omega), kcp_p (by omega), zup_p (by omega), zup_p (by omega)]
  have c1 : ∀ x j, ¬ x = 11 + 20 * g → k_cp1 κ (11 + 20 * g) (11 + 20 * h) x j = κ x j := fun x j hx => by unfold k_cp1; rw [zup_p hx, zup_p hx]
  refine ⟨⟨?_, ?_⟩, fun p c p1 p2 hc => ?_, fun i hi => ?_, fun j hj => ?_, fun x hx => funext fun j => ?_⟩
  · rw [e2 _ _ (by omega)]; unfold k_cp2 k_cp1
    rw [kcp_p (by omega), kcp_p (by omega), kcp_p (by omega), kcp_p (by omega), zup_i (by decide), zup_same]
  · rw [e2 _ _ (by omega)]; unfold k_cp2 k_cp1
    rw [kcp_p (by omega), kcp_p (by omega), kcp_p (by omega), kcp_p (by omega), zup_same]
  · rw [e2 _ _ (by omega)]; unfold k_cp2
    have hp : p = 12 ∨ p = 13 ∨ p = 14 := by omega
    rcases hp with rfl | rfl | rfl
    · rw [kcp_p (by omega), kcp_p (by omega), kcp_p (by omega), show 12 + 20 * g = 11 + 20 * g + 1 from by omega, kcp_lt hc, c1 _ _ (by omega)]; exact congrFun (congrArg κ (by omega)) c
    · rw [kcp_p (by omega), kcp_p (by omega), show 13 + 20 * g = 11 + 20 * g + 2 from by omega, kcp_lt hc, kcp_p (by omega), c1 _ _ (by omega)]; exact congrFun (congrArg κ (by omega)) c
    · rw [kcp_p (by omega), show 14 + 20 * g = 11 + 20 * g + 3 from by omega, kcp_lt hc, kcp_p (by omega), kcp_p (by omega), c1 _ _ (by omega)]; exact congrFun (congrArg κ (by omega)) c
  · rw [e2 _ _ (by omega)]; unfold k_cp2
    rw [show 15 + 20 * g = 11 + 20 * g + 4 from by omega, kcp_lt (by omega), kcp_p (by omega), kcp_p (by omega), kcp_p (by omega), c1 _ _ (by omega)]; exact congrFun (congrArg κ (by omega)) i
  · unfold k_cpS
    rw [kcp_lt hj, k_rmKg_p (by omega), o2 _ (by omega)]
  · rw [e2 x j (by omega), o2 x (by omega)]
theorem cpA_is {g h N S t u : Nat} (hg : g ≤ 2) (hh : h ≤ 2) (hgh : ¬ g = h) (ht : t ≤ 8) (hu : u ≤ 8) (lt : ∀ i, i < t → lok 30 (κ (18 + 20 * h) i)) (lu : ∀ i, i < u → lok 30 (κ (20 + 20 * h) i)) :
    (∀ j, 4 ≤ j → j ≤ 16 → k_cpA κ τ g h N S t u (10 + 20 * g) j = κ (10 + 20 * h) j) ∧ (k_cpA κ τ g h N S t u (11 + 20 * g) 5 = κ (11 + 20 * h) 5 ∧ k_cpA κ τ g h N S t u (11 + 20 * g) 6 = κ (11 + 20 * h) 6) ∧ (∀ p c, 12 ≤ p → p ≤ 14 → c < N → k_cpA κ τ g h N S t u (p + 20 * g) c = κ (p + 20 * h) c) ∧ (∀ i, i ≤ N → k_cpA κ τ g h N S t u (15 + 20 * g) i = κ (15 + 20 * h) i) ∧ (∀ j, j < S → k_cpA κ τ g h N S t u (16 + 20 * g) j = κ (16 + 20 * h) j) ∧
    (k_cpA κ τ g h N S t u (17 + 20 * g) 1 = nI t ∧ (∀ i, i < t → k_cpA κ τ g h N S t u (18 + 20 * g) i = κ (18 + 20 * h) i) ∧ ∀ v, 1 ≤ v → v ≤ 30 → (kt (k_cpA κ τ g h N S t u (17 + 20 * g) 2) v = true ↔ ∃ i, i < t ∧ zv (κ (18 + 20 * h) i) = v)) ∧
    (k_cpA κ τ g h N S t u (19 + 20 * g) 1 = nI u ∧ (∀ i, i < u → k_cpA κ τ g h N S t u (20 + 20 * g) i = κ (20 + 20 * h) i) ∧ ∀ v, 1 ≤ v → v ≤ 30 → (kt (k_cpA κ τ g h N S t u (19 + 20 * g) 2) v = true ↔ ∃ i, i < u ∧ zv (κ (20 + 20 * h) i) = v)) ∧
    (∀ v, v ≤ 30 → k_cpA κ τ g h N S t u (21 + 20 * g) v = κ (21 + 20 * h) v) ∧ ∀ x, ¬ (10 + 20 * g ≤ x ∧ x ≤ 21 + 20 * g) → k_cpA κ τ g h N S t u x = κ x := by
  obtain ⟨⟨s1, s1'⟩, s2, s3, s4, s5⟩ := cpS_is (κ := κ) (τ := τ) (N := N) (S := S) hg hh hgh
  obtain ⟨f1, f2⟩ := cpFld_is (p := 10 + 20 * g) (q := 10 + 20 * h) (by omega) 13 (k_cp4 κ τ g h N S t u)
  have f1 : ∀ j, 4 ≤ j → j < 4 + 13 → k_cpA κ τ g h N S t u (10 + 20 * g) j = k_cp4 κ τ g h N S t u (10 + 20 * h) j := f1
  have f2 : ∀ x, ¬ x = 10 + 20 * g → k_cpA κ τ g h N S t u x = k_cp4 κ τ g h N S t u x := f2
  unfold k_cp4 at f1 f2
  generalize k_cpS κ τ g h N S = a at *
  have e18 : a (17 + 20 * h + 1) = κ (18 + 20 * h) := (s5 _ (by omega)).trans (congrArg κ (by omega))
  obtain ⟨r1, r2, r3, r4⟩ := cpR_is (κ := a) (p := 17 + 20 * g) (q := 17 + 20 * h) (t := t) ht (fun i hi => by rw [e18]; exact lt i hi)
  rw [e18] at r2 r3
  generalize k_cpR a (17 + 20 * g) (17 + 20 * h) t = b at *
  have e20 : b (19 + 20 * h + 1) = κ (20 + 20 * h) := (r4 _ (by omega) (by omega)).trans ((s5 _ (by omega)).trans (congrArg κ (by omega)))
  obtain ⟨u1, u2, u3, u4⟩ := cpR_is (κ := b) (p := 19 + 20 * g) (q := 19 + 20 * h) (t := u) hu (fun i hi => by rw [e20]; exact lu i hi)
  rw [e20] at u2 u3
  generalize k_cpR b (19 + 20 * g) (19 + 20 * h) u = c at *
  have oc : ∀ x, ¬ (17 + 20 * g ≤ x ∧ x ≤ 20 + 20 * g) → c x = a x := fun x hx => (u4 x (by omega) (by omega)).trans (r4 x (by omega) (by omega))
  have k2 : ∀ x j, ¬ x = 10 + 20 * g → ¬ x = 21 + 20 * g → k_cpA κ τ g h N S t u x j = c x j := fun x j h1 h2 => by rw [f2 x h1, kcp_p h2]
  refine ⟨fun j j1 j2 => ?_, ⟨?_, ?_⟩, fun p d p1 p2 hd => ?_, fun i hi => ?_, fun j hj => ?_, ⟨?_, fun i hi => ?_, fun v v1 v2 => ?_⟩, ⟨?_, fun i hi => ?_, fun v v1 v2 => ?_⟩, fun v hv => ?_, fun x hx => funext fun j => ?_⟩
  · rw [f1 j j1 (by omega), kcp_p (by omega), oc _ (by omega), s5 _ (by omega)]
  · rw [k2 _ _ (by omega) (by omega), oc _ (by omega)]; exact s1
  · rw [k2 _ _ (by omega) (by omega), oc _ (by omega)]; exact s1'
  · rw [k2 _ _ (by omega) (by omega), oc _ (by omega)]; exact s2 p d p1 p2 hd
  · rw [k2 _ _ (by omega) (by omega), oc _ (by omega)]; exact s3 i hi
  · rw [k2 _ _ (by omega) (by omega), oc _ (by omega)]; exact s4 j hj
  · rw [k2 _ _ (by omega) (by omega), u4 _ (by omega) (by omega)]; exact r1
  · rw [k2 _ _ (by omega) (by omega), u4 _ (by omega) (by omega), show 18 + 20 * g = 17 + 20 * g + 1 from by omega]; exact r2 i hi
  · rw [k2 _ _ (by omega) (by omega), u4 _ (by omega) (by omega)]; exact r3 v v1 v2
  · rw [k2 _ _ (by omega) (by omega)]; exact u1
  · rw [k2 _ _ (by omega) (by omega), show 20 + 20 * g = 19 + 20 * g + 1 from by omega]; exact u2 i hi
  · rw [k2 _ _ (by omega) (by omega)]; exact u3 v v1 v2
  · rw [f2 _ (by omega), kcp_lt (by omega), oc _ (by omega), s5 _ (by omega)]
  · rw [k2 _ _ (by omega) (by omega), oc _ (by omega), s5 _ (by omega)]
end CY
