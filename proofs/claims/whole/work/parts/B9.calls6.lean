/-! close, variable, line -/
section C6
variable {E : zEnv} {κ κ' α α' : Nat → Nat → Int32} {τ τ' : (Nat → Nat → Int64) × (Nat → Nat)} {k : Nat}
/-- both stores take a told clause -/
theorem stR.told (h : stR κ α τ) {p m : Nat} {g : Nat → Int32} (hp : 17 ≤ p) (hN : aN α < 400) (hm : m ≤ 30) (hg : ∀ i, i < m → κ (p + 1) i = g i) (hl : ∀ i, i < m → lok (aV α) (g i)) (hd : ∀ i j, i < j → j < m → ¬ zv (g i) = zv (g j)) (a1 : α' 101 1 = nI (aN α + 1)) (a2 : α' 101 2 = α 101 2 + nI 1) (nS : α' 101 (125 + aN α) = nI m) (nF : α' 101 (525 + aN α) = 0) (nL : ∀ j, j < m → α' 101 (1326 + 30 * aN α + j) = g j)
    (ea : ∀ j, ¬ j = 1 → ¬ j = 2 → ¬ j = 125 + aN α → ¬ j = 525 + aN α → ¬ (1326 + 30 * aN α ≤ j ∧ j < 1326 + 30 * aN α + 30) → α' 101 j = α 101 j) :
    stR (k_app (k_rmK κ τ (kS κ (aN α) + m)) p (aN α) m false) α' (k_rmT τ (kS κ (aN α) + m)) ∧ ∀ q, ¬ (11 ≤ q ∧ q ≤ 16) → k_app (k_rmK κ τ (kS κ (aN α) + m)) p (aN α) m false q = κ q := by
  obtain ⟨⟨⟨c1, c2, c3, c4⟩, ⟨b1, b2, b3, b4⟩, ph, s, ⟨m1, m2, m3, m4, m5, m6⟩, g1, g2, g3, g4, g5, g6⟩, o⟩ := h
  have hV := c2.1.2
  have hA := b2.2.1
  have aO : ∀ d, d < aN α → α' 101 (125 + d) = α 101 (125 + d) ∧ α' 101 (525 + d) = α 101 (525 + d) ∧ ∀ j, j < 30 → α' 101 (1326 + 30 * d + j) = α 101 (1326 + 30 * d + j) := fun d hd => ⟨ea _ (by omega) (by omega) (by omega) (by omega) (by omega), ea _ (by omega) (by omega) (by omega) (by omega) (by omega), fun j hj => ea _ (by omega) (by omega) (by omega) (by omega) (by omega)⟩
  have aO2 : ∀ d, d < aN α → α' 101 (125 + d) = α 101 (125 + d) ∧ ∀ j, j < 30 → α' 101 (1326 + 30 * d + j) = α 101 (1326 + 30 * d + j) := fun d hd => ⟨(aO d hd).1, (aO d hd).2.2⟩
  have nL' : ∀ j, j < m → aL α' (aN α) j = g j := nL
  obtain ⟨W', S'⟩ := aW.more (g := g) c2 hN hm (ea 0 (by omega) (by omega) (by omega) (by omega) (by omega)) a1 aO2 nS nL' hl
  have D' := aWd.more (g := g) c3 c2 hN a1 aO2 S' nL' hd
  obtain ⟨C', C6, Cf⟩ := app_cR (p := p) (bo := false) (g := g) c1 c2 c4 hN hm hp hg (fun i hi => (hl i hi).mono hV) a1 aO S' nL' (.inl ⟨rfl, nF⟩)
  have kW' := kW.app (p := p) (t := m) (b := false) c4 (by rw [c1.n]; exact hN) hm
  rw [c1.n] at kW'
  have eA : aA α' = aA α := by unfold aA; rw [ea 3 (by omega) (by omega) (by omega) (by omega) (by omega)]
  have eV : aV α' = aV α := by unfold aV; rw [ea 0 (by omega) (by omega) (by omega) (by omega) (by omega)]
  have eN : aN α' = aN α + 1 := by unfold aN at *; rw [a1]; exact nI_clamp (by omega)
  have eLn : aLn α' = aLn α := by unfold aLn; rw [ea 6 (by omega) (by omega) (by omega) (by omega) (by omega)]
  have el : ∀ d, d < aN α → a_learnt α' d = a_learnt α d := fun d hd => by unfold a_learnt; rw [(aO d hd).2.1]
  have en : a_learnt α' (aN α) = false := by unfold a_learnt; rw [nF]; rfl
  have ez : ∀ d, d ≤ aN α → zcnt (a_learnt α') 0 d = zcnt (a_learnt α) 0 d := fun d hd => zcnt_congr (fun j x y => el j (by omega))
  have ez1 : zcnt (a_learnt α') 0 (aN α + 1) = zcnt (a_learnt α) 0 (aN α) := by rw [zcnt_succ, Nat.zero_add, en, ez _ (Nat.le_refl _)]; rfl
  have zl := zcnt_le (a_learnt α) (aN α) 0
  have l14 : ∀ j, 3 ≤ j → j < 125 → α' 101 j = α 101 j := fun j x y => ea j (by omega) (by omega) (by omega) (by omega) (by omega)
  refine ⟨⟨⟨⟨C', W', D', kW'⟩, ⟨?_, ?_, ?_, ?_⟩, fun v a b => ?_, fun v a b => ?_, ⟨?_, ?_, ?_, ?_, ?_, ?_⟩, ?_, ?_, ?_, ?_, ?_, ?_⟩, o.eq (fun j hj => by rw [Cf 10 (by omega)]) (fun j hj => l14 j (by omega) (by omega)) (o.2.2.2.1.eq (fun j => by rw [Cf 17 (by omega)]) (fun j => by rw [Cf (17 + 1) (by omega)]) (l14 4 (by omega) (by omega)) (fun j _ => l14 _ (by omega) (by omega)) (by omega)) (o.2.2.2.2.eq (fun j => by rw [Cf 19 (by omega)]) (fun j => by rw [Cf (19 + 1) (by omega)]) (l14 3 (by omega) (by omega)) (fun j _ => l14 _ (by omega) (by omega)) (by omega))⟩, Cf⟩
  · rw [Cf 10 (by omega), ea 0 (by omega) (by omega) (by omega) (by omega) (by omega)]; exact b1
  · unfold aWA at b2 ⊢
    rw [eA, eV, l14 3 (by omega) (by omega)]
    exact ⟨b2.1, b2.2.1, fun j hj => by rw [l14 (16 + j) (by omega) (by omega)]; exact b2.2.2 j hj⟩
  · rw [Cf 19 (by omega), l14 3 (by omega) (by omega)]; exact b3
  · rw [eA]
    intro j hj
    rw [Cf 20 (by omega), l14 (16 + j) (by omega) (by omega)]; exact b4 j hj
  · rw [Cf 10 (by omega), l14 (32 + v) (by omega) (by omega)]; exact ph v a b
  · rw [Cf 21 (by omega), l14 (63 + v) (by omega) (by omega)]; exact s v a b
  · rw [Cf 10 (by omega), l14 5 (by omega) (by omega)]; exact m1
  · rw [Cf 10 (by omega), l14 8 (by omega) (by omega)]; exact m2
  · rw [Cf 10 (by omega), l14 9 (by omega) (by omega)]; exact m3
  · rw [Cf 10 (by omega), l14 10 (by omega) (by omega)]; exact m4
  · rw [Cf 10 (by omega), l14 11 (by omega) (by omega)]; exact m5
  · rw [C6, a2, m6]; rfl
  · rw [eLn, l14 6 (by omega) (by omega)]; exact g1
  · rw [l14 7 (by omega) (by omega)]; exact g2
  · rw [eLn, eN, ez1, l14 7 (by omega) (by omega)]; exact g3
  · rw [eN]
    intro d hd hl2
    by_cases e : d = aN α
    · subst e; rw [en] at hl2; exact absurd hl2 (by decide)
    · rw [el d (by omega)] at hl2
      have := zcnt_le (a_learnt α) d 0
      rw [ez d (by omega), ea _ (by omega) (by omega) (by omega) (by omega) (by omega)]
      exact g4 d (by omega) hl2
  · rw [eN, ez1, l14 7 (by omega) (by omega), ea (925 + _) (by omega) (by omega) (by omega) (by omega) (by omega)]; exact g5
  · rw [eN, ez1, a2, g6, nI_add]; exact congrArg nI (by omega)
theorem cl_row {N : Nat} : ∀ m (β : Nat → Nat → Int32), m ≤ 8 → (∀ j, j < m → zit (a_clF N) 0 m β 101 (1326 + 30 * N + j) = β 101 (24 + j)) ∧ ∀ p i, ¬ (p = 101 ∧ 1326 + 30 * N ≤ i ∧ i < 1326 + 30 * N + m) → zit (a_clF N) 0 m β p i = β p i
  | 0, β, _ => ⟨fun j hj => by omega, fun _ _ _ => rfl⟩
  | m + 1, β, hm => by
    obtain ⟨i1, i2⟩ := cl_row (N := N) m β (by omega)
    rw [zit_succ, Nat.zero_add]
    generalize zit (a_clF N) 0 m β = a at i1 i2
    unfold a_clF
    refine ⟨fun j hj => ?_, fun p i x => (if_neg (by omega)).trans (i2 p i (by omega))⟩
    by_cases e : j = m
    · subst e; rw [zup_same]; exact i2 101 _ (by omega)
    · rw [zup_i (by omega)]; exact i1 j (by omega)
theorem y_close (h : zI k κ α τ) : zCall E zI k κ α τ mX8_close mX9_close [] := by
  have hW := h.1.1.1.2.1
  have kW := h.1.1.1.2.2.2
  have en : kN κ = aN α := h.1.1.1.1.n
  have h4 := hW.2.1.2
  have hr := h.1.2.2.2.2.1
  obtain ⟨D, d1, d2, d3, d4, d5, d6⟩ := hr
  have m6 : κ 11 6 = α 101 2 := h.1.1.2.2.2.2.1.2.2.2.2.2
  have cond : (κ 17 1 = 0 ∨ (decide (nI 80 ≤ κ 11 6) || decide (400 ≤ kN κ)) = true) ↔ (α 101 4 = 0 ∨ ¬ (α 101 2 < nI 80 ∧ α 101 1 < nI 400)) := by
    rw [d2, d3, m6, en, hW.2.1.1]
    refine or_congr_right ?_
    rw [Bool.or_eq_true, decide_eq_true_eq, decide_eq_true_eq]
    constructor
    · rintro (x | x) ⟨y, z⟩
      · exact absurd y (Int32.not_lt.mpr x)
      · have := (nI_ltI (by omega) (by decide)).mp z; omega
    · intro x
      by_cases y : α 101 2 < nI 80
      · right
        rcases Nat.lt_or_ge (aN α) 400 with z | z
        · exact absurd ⟨y, nI_lt z (by decide)⟩ x
        · exact z
      · exact .inl (Int32.not_lt.mp y)
  by_cases e : κ 17 1 = 0 ∨ (decide (nI 80 ≤ κ 11 6) || decide (400 ≤ kN κ)) = true
  · have ek : k_close κ τ = (-1, κ, τ) := by unfold k_close; rw [if_pos e]
    have ea : a_close α = (-1, a0 α) := by unfold a_close; rw [if_pos (cond.mp e)]
    refine .mk (fun d => s_close d kW d2 d1) (fun d => t_close d d3 d1 hW.2.1.1 h4) (by decide) (by decide) (by rw [ek, ea]) ?_
    rw [ek, ea]; exact h.a0
  · have hN : aN α < 400 := by
      rcases Nat.lt_or_ge (aN α) 400 with z | z
      · exact z
      · exact absurd (.inr (by rw [en]; simp; exact .inr z)) e
    have ek : k_close κ τ = (nI (aN α), k_emp (k_app (k_rmK κ τ (kS κ (aN α) + D)) 17 (aN α) D false) 17, k_rmT τ (kS κ (aN α) + D)) := by
      unfold k_close; rw [if_neg e, en, d2, nI_clamp (show D < 2 ^ 31 by omega)]
    have eN0 : aN (a0 α) = aN α := by unfold aN; rw [a0_p (by omega)]
    have ea : a_close α = (nI (aN α), zup (zit (a_clF (aN α)) 0 D (a_begins (a0 α) (nI 0) (nI D))) 101 4 (nI 0)) := by
      unfold a_close; rw [if_neg (fun x => e (cond.mpr x)), d3, nI_clamp (show D < 2 ^ 31 by omega)]
    refine .mk (fun d => s_close d kW d2 d1) (fun d => t_close d d3 d1 hW.2.1.1 h4) (by decide) (by decide) (by rw [ek, ea]) ?_
    rw [ek, ea]
    show zI (k + 1) (k_emp (k_app (k_rmK κ τ (kS κ (aN α) + D)) 17 (aN α) D false) 17) (zup (zit (a_clF (aN α)) 0 D (a_begins (a0 α) (nI 0) (nI D))) 101 4 (nI 0)) (k_rmT τ (kS κ (aN α) + D))
    obtain ⟨r1, r2⟩ := cl_row (N := aN α) D (a_begins (a0 α) (nI 0) (nI D)) d1
    generalize zit (a_clF (aN α)) 0 D (a_begins (a0 α) (nI 0) (nI D)) = β at r1 r2
    have bg : ∀ p i, ¬ (p = 101 ∧ (i = 1 ∨ i = 2 ∨ i = 125 + aN α ∨ i = 525 + aN α)) → a_begins (a0 α) (nI 0) (nI D) p i = a0 α p i := fun p i x => by
      unfold a_begins; rw [eN0]
      exact (((if_neg (by omega)).trans (if_neg (by omega))).trans (if_neg (by omega))).trans (if_neg (by omega))
    have b101 : ∀ j, ¬ j = 1 → ¬ j = 2 → ¬ j = 125 + aN α → ¬ j = 525 + aN α → ¬ (1326 + 30 * aN α ≤ j ∧ j < 1326 + 30 * aN α + 30) → β 101 j = α 101 j := fun j x1 x2 x3 x4 x5 => (r2 101 j (by omega)).trans ((bg 101 j (by omega)).trans (a0_p (by omega)))
    obtain ⟨S, Cf⟩ := h.1.told (p := 17) (m := D) (g := fun j => α 101 (24 + j)) (α' := β) (by decide) hN (by omega) (fun i hi => (d4 i hi).1) (fun i hi => (d4 i hi).2) d6 (by rw [r2 101 1 (by omega)]; unfold a_begins; rw [zup_i (by decide), zup_same, eN0]) (by rw [r2 101 2 (by omega)]; unfold a_begins; rw [zup_same, if_pos (by decide), a0_p (by omega)]) (by rw [r2 101 _ (by omega)]; unfold a_begins; rw [eN0, zup_i (by omega), zup_i (by omega), zup_same]) (by rw [r2 101 _ (by omega)]; unfold a_begins; rw [eN0, zup_i (by omega), zup_i (by omega), zup_i (by omega), zup_same]; rfl) (fun j hj => by rw [r1 j hj, bg 101 _ (by omega), a0_p (by omega)]) b101
    generalize k_app (k_rmK κ τ (kS κ (aN α) + D)) 17 (aN α) D false = κ1 at S Cf
    have fk : ∀ p i, ¬ (p = 17 ∧ (i = 1 ∨ i = 2)) → k_emp κ1 17 p i = κ1 p i := fun p i x => by unfold k_emp; exact (if_neg (by omega)).trans (if_neg (by omega))
    have fa : ∀ p i, ¬ (p = 101 ∧ i = 4) → zup β 101 4 (nI 0) p i = β p i := fun p i x => if_neg x
    have eV : aV (zup β 101 4 (nI 0)) = aV β := by unfold aV; rw [fa 101 0 (by omega)]
    have fb : ∀ p i, ¬ p = 101 → ¬ (p = 100 ∧ i = 0) → zup β 101 4 (nI 0) p i = α p i := fun p i x y => (fa p i (by omega)).trans ((r2 p i (by omega)).trans ((bg p i (by omega)).trans (a0_p y)))
    have fk2 : ∀ p i, ¬ (11 ≤ p ∧ p ≤ 17) → k_emp κ1 17 p i = κ p i := fun p i x => (fk p i (by omega)).trans (by rw [Cf p (by omega)])
    have told : t8 (zup β 101 4 (nI 0) 101 2) := by
      obtain ⟨n, n1, n2⟩ := h.2.2.2.2.1.2.1
      have b2 : β 101 2 = α 101 2 + nI 1 := by rw [r2 101 2 (by omega)]; unfold a_begins; rw [zup_same, if_pos (by decide), a0_p (by omega)]
      have lt : n < 80 := by
        rcases Nat.lt_or_ge n 80 with x | x
        · exact x
        · exact absurd (.inr (by rw [m6, n2, decide_eq_true (nI_le x (by omega))]; rfl)) e
      rw [fa 101 2 (by omega), b2, n2, nI_add]
      exact ⟨n + 1, by omega, rfl⟩
    refine h.fr2 (S.small (fun p j x y _ _ => fk p j (by omega)) (fun j hj => fa 101 j (by omega)) (fun v a b => ?_) ?_ ⟨0, by decide, ?_, zup_same _ _ _ _, fun j hj => by omega, fun v a b => ?_, fun x y _ hy => by omega⟩ (S.2.2.2.2.2.eq (fun j => fk 19 j (by omega)) (fun j => fk 20 j (by omega)) (fa 101 3 (by omega)) (fun j _ => fa 101 _ (by omega)) (by omega))) (h.2.1.fr (fun p j hp => fk2 p j (by omega)) (fun p j hp => fb p j (by omega) (by omega))) (fun p j hp => fk2 p j (by omega)) (fun p j hp => fb p j (by omega) (by omega)) k_rmT_F.g told
    · rw [fk 10 5 (by omega), fa 101 (32 + v) (by omega)]; exact S.1.2.2.1 v a b
    · rw [fk 10 6 (by omega), fa 101 5 (by omega)]; exact S.1.2.2.2.2.1.1
    · unfold k_emp; rw [zup_i (by decide), zup_same]
    · unfold k_emp
      rw [zup_same, kt_n0]
      exact ⟨fun x => absurd x (by decide), fun ⟨j, x, _⟩ => absurd x (by omega)⟩
end C6
