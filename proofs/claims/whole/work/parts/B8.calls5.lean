/-! solve, forget -/
section C5
variable {E : zEnv} {κ κ' α α' : Nat → Nat → Int32} {τ τ' : (Nat → Nat → Int64) × (Nat → Nat)} {k : Nat}
theorem y_solve (h : zI k κ α τ) (b : Int32) : zCall E zI k κ α τ mX8_solve mX9_solve [.int b] := by
  have hW := h.1.1.1.2.1
  have hs := h.1.1
  have lg := hs.2.2.2.2.2.1
  by_cases e : nI 1 ≤ b ∧ b ≤ nI 200
  · obtain ⟨o1, o2, r, r1, r2, r3, r4, r5, q1, q2, q3, q4, q5, q6, q7, q8, q9⟩ := solve_both hs h.1.2.1.1 e.1 e.2
    refine .mk (fun d => s_solve d b (n := 7000) (by decide) (fun x _ _ => o1 x)) (fun d => t_solve d (n := 7000) b hW lg (fun _ _ x => o2 x)) (by decide) (by decide) (by rw [r2, r3]) ?_
    generalize (k_solve 7000 κ τ b).2.2 = τ' at *
    generalize (k_solve 7000 κ τ b).2.1 = κ' at *
    generalize (a_solve 7000 α b).2 = α' at *
    obtain ⟨x1, x2, x3, x4, x5, x6, x7, x8⟩ := a_s0_100 (α := α)
    have a101 : ∀ j, ¬ j = 13 → a_s0 α 101 j = α 101 j := fun j hj => a_s0_at (.inl ⟨rfl, hj⟩)
    have fk : ∀ p, ¬ (p = 3 ∨ (10 ≤ p ∧ p ≤ 16) ∨ p = 21 ∨ (70 ≤ p ∧ p ≤ 74)) → κ' p = κ p := fun p hp => (q9.1 p hp).trans (funext fun j => k_run0_at (by omega) (by omega))
    have fa : ∀ p, ¬ (p = 100 ∨ p = 101 ∨ (105 ≤ p ∧ p ≤ 109) ∨ (112 ≤ p ∧ p ≤ 114)) → ¬ p < 105 ∨ p = 103 ∨ p = 104 → α' p = α p := fun p hp hp2 => (q8.1 p hp).trans (funext fun j => by
      rcases hp2 with y | y | y
      · exact a_s0_at (.inr (by omega))
      · subst y; unfold a_s0 a_emp
        rw [zup_p (by decide), zup_p (by decide), zup_p (by decide), zup_p (by decide), show a_empL 0 31 (zup (zup (zup α 100 0 (nI 0)) 100 10 (nI 0)) 100 11 (nI 0)) 103 j = _ from (zit_off (L := [105]) _ (fun k a => zoff.rf.up (by decide)) 31 0 _).at (by decide) j, zup_p (by decide), zup_p (by decide), zup_p (by decide)]
      · subst y; unfold a_s0 a_emp
        rw [zup_p (by decide), zup_p (by decide), zup_p (by decide), zup_p (by decide), show a_empL 0 31 (zup (zup (zup α 100 0 (nI 0)) 100 10 (nI 0)) 100 11 (nI 0)) 104 j = _ from (zit_off (L := [105]) _ (fun k a => zoff.rf.up (by decide)) 31 0 _).at (by decide) j, zup_p (by decide), zup_p (by decide), zup_p (by decide)])
    have f100 : ∀ j, j = 22 ∨ j = 25 → α' 100 j = α 100 j := fun j hj => (q8.2.1 j (by omega)).trans (x6 j (by omega))
    have f101 : ∀ j, j = 0 ∨ j = 2 ∨ j = 4 ∨ j = 15 ∨ (24 ≤ j ∧ j ≤ 31) → α' 101 j = α 101 j := fun j hj => (q8.2.2 j hj).trans (a101 j (by omega))
    have eV : aV α' = aV α := by unfold aV; rw [f101 0 (by omega)]
    have mo : moR κ' α' := by
      by_cases r0 : r = 1
      · obtain ⟨y1, y2, y3⟩ := q6 r0
        refine .inr ⟨aV α', q1.1.2.1.1.2, ?_, ?_, y3⟩
        · rw [y1, q1.2.1.1]; exact q1.1.2.1.1.1
        · rw [← y2, y1, q1.2.1.1]; exact q1.1.2.1.1.1
      · obtain ⟨y1, y2, y3⟩ := q7 r0
        exact h.1.2.2.2.1.eq ⟨y1.trans (k_run0_at (by omega) (by omega)), y2.trans (k_run0_at (by omega) (by omega))⟩ (fun j hj => (y3 j hj).trans (a101 j (by omega)))
    have rw2 : rwR κ' 19 α' 3 16 := by
      obtain ⟨D, d1, d2, d3, d4, d5, d6⟩ := h.1.2.2.2.2.2
      have e19 : κ' 19 1 = nI D := by rw [fk 19 (by omega)]; exact d2
      have e3 : α' 101 3 = nI D := q1.2.1.2.2.1.symm.trans e19
      have eA : aA α' = D := by unfold aA; rw [e3]; exact nI_clamp (by omega)
      have ee : ∀ j, j < D → α' 101 (16 + j) = α 101 (16 + j) := fun j hj => (q1.2.1.2.2.2 j (by omega)).symm.trans (by rw [fk 20 (by omega)]; exact (d4 j hj).1)
      refine ⟨D, d1, e19, e3, fun j hj => ?_, fun v a b => ?_, fun x y hx hy => by rw [ee x (by omega), ee y hy]; exact d6 x y hx hy⟩
      · rw [ee j hj, fk (19 + 1) (by omega), eV]; exact d4 j hj
      · rw [fk 19 (by omega), d5 v a b]
        exact ⟨fun ⟨j, u, w⟩ => ⟨j, u, by rw [ee j u]; exact w⟩, fun ⟨j, u, w⟩ => ⟨j, u, by rw [ee j u] at w; exact w⟩⟩
    have st : stR κ' α' τ' := by
      refine ⟨q1, ⟨q2, r5.trans q3.symm, ?_⟩, ⟨fun x => ?_, fun x => ?_⟩, mo, h.1.2.2.2.2.1.eq (fun j => by rw [fk 17 (by omega)]) (fun j => by rw [fk (17 + 1) (by omega)]) (f101 4 (by omega)) (fun j hj => f101 _ (by omega)) (by omega), rw2⟩
      · rw [q9.2, k_run0_at (by omega) (by omega), f101 15 (by omega)]; exact h.1.2.1.2.2
      · exact q4 ((nI_eq (b := 0) (by omega) (by decide)).mp (r5.symm.trans x))
      · rw [q5 (fun y => x (by rw [r5, y]; rfl)), x7]
    exact h.up st (h.2.1.of (by rw [fk 5 (by omega)]) (by rw [fk 5 (by omega)]) (fk 77 (by omega)) (f100 22 (by omega)) (f100 25 (by omega)) (fa 121 (by omega) (by omega))) (fun p hp => fk p (by omega)) (fa 103 (by omega) (by omega)) (fa 104 (by omega) (by omega)) (by rw [fa 119 (by omega) (by omega)]; exact h.2.2.2.2.2) r4.g (by rw [f101 2 (by omega)]; exact h.2.2.2.2.1.2.1)
  · have ek : k_solve 7000 κ τ b = (-1, κ, τ) := by
      unfold k_solve
      rw [if_neg (fun x => e (by rwa [Bool.and_eq_true, decide_eq_true_eq, decide_eq_true_eq] at x))]
    have ea : a_solve 7000 α b = (-1, a0 α) := by unfold a_solve; rw [if_neg e]; rfl
    refine .mk (fun d => s_solve d b (n := 7000) (by decide) (fun _ x y => absurd ⟨x, y⟩ e)) (fun d => t_solve d (n := 7000) b hW lg (fun x y _ => absurd ⟨x, y⟩ e)) (by decide) (by decide) (by rw [ek, ea]) ?_
    rw [ek, ea]; exact h.a0
/-- only kinds change -/
theorem stR.kind (h : stR κ α τ) (ek : ∀ p, ¬ p = 14 → 10 ≤ p → p ≤ 21 → κ' p = κ p) (ea : ∀ j, ¬ (525 ≤ j ∧ j < 925) → α' 101 j = α 101 j) (hk : ∀ c, c < aN α → kKd (κ' 14 c) (α' 101 (525 + c))) (hl : ∀ c, c < aN α → a_learnt α' c = a_learnt α c) : stR κ' α' τ := by
  obtain ⟨⟨⟨c1, c2, c3, c4⟩, ⟨b1, b2, b3, b4⟩, ph, s, ⟨m1, m2, m3, m4, m5, m6⟩, g1, g2, g3, g4, g5, g6⟩, o⟩ := h
  have h4 := c2.2.1.2
  have eV : aV α' = aV α := by unfold aV; rw [ea 0 (by omega)]
  have eN : aN α' = aN α := by unfold aN; rw [ea 1 (by omega)]
  have eS : ∀ c, c < 400 → aS α' c = aS α c := fun c hc => by unfold aS; rw [ea (125 + c) (by omega)]
  have eL : aL α' = aL α := funext fun c => funext fun j => by unfold aL; rw [ea (1326 + 30 * c + j) (by omega)]
  have eA : aA α' = aA α := by unfold aA; rw [ea 3 (by omega)]
  have eLn : aLn α' = aLn α := by unfold aLn; rw [ea 6 (by omega)]
  have ez : ∀ d, d ≤ aN α → zcnt (a_learnt α') 0 d = zcnt (a_learnt α) 0 d := fun d hd => zcnt_congr (fun j x y => hl j (by omega))
  have kl : kLn κ' = kLn κ := funext fun c => by unfold kLn kS; rw [ek 15 (by decide) (by decide) (by decide)]
  have ks : kS κ' = kS κ := funext fun c => by unfold kS; rw [ek 15 (by decide) (by decide) (by decide)]
  have hA := b2.2.1
  refine ⟨⟨⟨?_, ?_, ?_, c4.eq (fun p hp => ek p (by omega) (by omega) (by omega)) rfl⟩, ⟨?_, ?_, ?_, ?_⟩, fun v a b => ?_, fun v a b => ?_, ⟨?_, ?_, ?_, ?_, ?_, ?_⟩, ?_, ?_, ?_, ?_, ?_, ?_⟩, o.eq (fun j hj => by rw [ek 10 (by decide) (by decide) (by decide)]) (fun j hj => ea j (by omega)) (o.2.2.2.1.eq (fun j => by rw [ek 17 (by decide) (by decide) (by decide)]) (fun j => by rw [ek (17 + 1) (by decide) (by decide) (by decide)]) (ea 4 (by omega)) (fun j _ => ea _ (by omega)) (by omega)) (o.2.2.2.2.eq (fun j => by rw [ek 19 (by decide) (by decide) (by decide)]) (fun j => by rw [ek (19 + 1) (by decide) (by decide) (by decide)]) (ea 3 (by omega)) (fun j _ => ea _ (by omega)) (by omega))⟩
  · refine ⟨by rw [ek 11 (by decide) (by decide) (by decide), ea 1 (by omega)]; exact c1.1, fun c hc => ?_⟩
    rw [eN] at hc
    obtain ⟨x1, x2, x3, -⟩ := c1.2 c hc
    rw [ek 12 (by decide) (by decide) (by decide), ek 13 (by decide) (by decide) (by decide), ek 16 (by decide) (by decide) (by decide), kl, ks, eS c (by omega), eL]
    exact ⟨x1, x2, x3, hk c hc⟩
  · unfold aW at c2 ⊢
    rw [eV, eN, eL, ea 0 (by omega), ea 1 (by omega)]
    refine ⟨c2.1, c2.2.1, fun c hc => ?_, fun c hc j hj => ?_⟩
    · rw [eS c (by omega), ea (125 + c) (by omega)]; exact c2.2.2.1 c hc
    · rw [eS c (by omega)] at hj; exact c2.2.2.2 c hc j hj
  · intro c hc i j hi hj
    rw [eN] at hc
    rw [eS c (by omega)] at hj
    rw [eL]; exact c3 c hc i j hi hj
  · rw [ek 10 (by decide) (by decide) (by decide), ea 0 (by omega)]; exact b1
  · unfold aWA at b2 ⊢
    rw [eA, eV, ea 3 (by omega)]
    exact ⟨b2.1, b2.2.1, fun j hj => by rw [ea (16 + j) (by omega)]; exact b2.2.2 j hj⟩
  · rw [ek 19 (by decide) (by decide) (by decide), ea 3 (by omega)]; exact b3
  · rw [eA]
    intro j hj
    rw [ek 20 (by decide) (by decide) (by decide), ea (16 + j) (by omega)]; exact b4 j hj
  · rw [ek 10 (by decide) (by decide) (by decide), ea (32 + v) (by omega)]; exact ph v a b
  · rw [ek 21 (by decide) (by decide) (by decide), ea (63 + v) (by omega)]; exact s v a b
  · rw [ek 10 (by decide) (by decide) (by decide), ea 5 (by omega)]; exact m1
  · rw [ek 10 (by decide) (by decide) (by decide), ea 8 (by omega)]; exact m2
  · rw [ek 10 (by decide) (by decide) (by decide), ea 9 (by omega)]; exact m3
  · rw [ek 10 (by decide) (by decide) (by decide), ea 10 (by omega)]; exact m4
  · rw [ek 10 (by decide) (by decide) (by decide), ea 11 (by omega)]; exact m5
  · rw [ek 11 (by decide) (by decide) (by decide), ea 2 (by omega)]; exact m6
  · rw [eLn, ea 6 (by omega)]; exact g1
  · rw [ea 7 (by omega)]; exact g2
  · rw [eLn, eN, ez _ (Nat.le_refl _), ea 7 (by omega)]; exact g3
  · rw [eN]
    intro c a b
    rw [hl c a] at b
    rw [ez c (by omega), ea _ (by omega)]; exact g4 c a b
  · rw [eN, ez _ (Nat.le_refl _), ea 7 (by omega), ea (925 + _) (by omega)]; exact g5
  · rw [eN, ez _ (Nat.le_refl _), ea 2 (by omega)]; exact g6
def foB (κ α : Nat → Nat → Int32) (n c : Nat) : Prop := κ 14 c = nI 1 ∧ n < aS α c
theorem fo_loop (h : stR κ α τ) (n : Nat) : ∀ m, m ≤ aN α → (zit (k_drF κ n) 0 m (0, κ)).1 = (zit (a_foF α n) 0 m (0, a0 α)).1 ∧ (∀ p, ¬ p = 14 → (zit (k_drF κ n) 0 m (0, κ)).2 p = κ p) ∧ (∀ c, (c < m ∧ foB κ α n c → (zit (k_drF κ n) 0 m (0, κ)).2 14 c = nI 2 ∧ (zit (a_foF α n) 0 m (0, a0 α)).2 101 (525 + c) = nI 3 ∧ α 101 (525 + c) = nI 1) ∧ (¬ (c < m ∧ foB κ α n c) → (zit (k_drF κ n) 0 m (0, κ)).2 14 c = κ 14 c ∧ (zit (a_foF α n) 0 m (0, a0 α)).2 101 (525 + c) = α 101 (525 + c))) ∧ ∀ p j, ¬ (p = 100 ∧ j = 0) → ¬ (p = 101 ∧ 525 ≤ j ∧ j < 525 + m) → (zit (a_foF α n) 0 m (0, a0 α)).2 p j = α p j
  | 0, _ => ⟨rfl, fun _ _ => rfl, fun c => ⟨fun x => by omega, fun _ => ⟨rfl, a0_p (α := α) (p := 101) (i := 525 + c) (by omega)⟩⟩, fun p j x _ => a0_p (α := α) x⟩
  | m + 1, hm => by
    obtain ⟨i1, i2, i3, i4⟩ := fo_loop h n m (by omega)
    rw [zit_succ, zit_succ, Nat.zero_add]
    generalize zit (k_drF κ n) 0 m (0, κ) = x at i1 i2 i3
    generalize zit (a_foF α n) 0 m (0, a0 α) = y at i1 i3 i4
    obtain ⟨-, x2, -, x4⟩ := h.1.1.1.2 m (by omega)
    have ck : (κ 14 m = nI 1 ∧ n < kLn κ m) ↔ foB κ α n m := by unfold foB; rw [x2]
    have ca : (a_learnt α m = true ∧ a_gone α m = false ∧ n < aS α m) ↔ foB κ α n m := by
      unfold foB a_learnt a_gone
      rcases x4 with ⟨u, v⟩ | ⟨u, v⟩ | ⟨u, v⟩ <;> rw [u, v]
      · exact ⟨fun z => absurd z.1 (by decide), fun z => absurd z.1 (by decide)⟩
      · exact ⟨fun z => ⟨rfl, z.2.2⟩, fun z => ⟨by decide, by decide, z.2⟩⟩
      · exact ⟨fun z => absurd z.2.1 (by decide), fun z => absurd z.1 (by decide)⟩
    unfold k_drF a_foF
    by_cases e : foB κ α n m
    · rw [if_pos (ck.mpr e), if_pos (ca.mpr e)]
      have f1 : α 101 (525 + m) = nI 1 := by
        have := e.1
        rcases x4 with ⟨u, v⟩ | ⟨u, v⟩ | ⟨u, v⟩
        · rw [u] at this; exact absurd this (by decide)
        · exact v
        · rw [u] at this; exact absurd this (by decide)
      refine ⟨by rw [i1], fun p hp => funext fun j => ?_, fun c => ⟨fun hc => ?_, fun hc => ?_⟩, fun p j u v => ?_⟩
      · show zup x.2 14 m (nI 2) p j = _
        rw [zup_p hp, i2 p hp]
      · show zup x.2 14 m (nI 2) 14 c = _ ∧ zup y.2 101 (525 + m) (α 101 (525 + m) ||| nI 2) 101 (525 + c) = _ ∧ _
        by_cases ec : c = m
        · subst ec; rw [zup_same, zup_same, f1]; exact ⟨rfl, by decide, rfl⟩
        · rw [zup_i ec, zup_i (by omega)]; exact (i3 c).1 ⟨by omega, hc.2⟩
      · show zup x.2 14 m (nI 2) 14 c = _ ∧ zup y.2 101 (525 + m) (α 101 (525 + m) ||| nI 2) 101 (525 + c) = _
        have ec : ¬ c = m := fun ec => hc ⟨by omega, by rw [ec]; exact e⟩
        rw [zup_i ec, zup_i (by omega)]; exact (i3 c).2 (fun z => hc ⟨by omega, z.2⟩)
      · show zup y.2 101 (525 + m) (α 101 (525 + m) ||| nI 2) p j = _
        rw [show zup y.2 101 (525 + m) (α 101 (525 + m) ||| nI 2) p j = y.2 p j from if_neg (by omega)]
        exact i4 p j u (by omega)
    · rw [if_neg (fun z => e (ck.mp z)), if_neg (fun z => e (ca.mp z))]
      refine ⟨i1, i2, fun c => ⟨fun hc => (i3 c).1 ⟨?_, hc.2⟩, fun hc => (i3 c).2 (fun z => hc ⟨by omega, z.2⟩)⟩, fun p j u v => i4 p j u (by omega)⟩
      rcases Nat.lt_or_ge c m with z | z
      · exact z
      · have : c = m := by omega
        subst this; exact absurd hc.2 e
theorem y_forget (h : zI k κ α τ) (n : Int32) : zCall E zI k κ α τ mX8_forget mX9_forget [.int n] := by
  have hW := h.1.1.1.2.1
  have kW := h.1.1.1.2.2.2
  have en : kN κ = aN α := h.1.1.1.1.n
  have h4 := hW.2.1.2
  by_cases e : (decide (nI 1 ≤ n) && decide (n ≤ nI 30)) = true
  · obtain ⟨i1, i2, i3, i4⟩ := fo_loop h.1 n.toNatClampNeg (aN α) (Nat.le_refl _)
    refine .mk (fun d => s_forget d n kW) (fun d => t_forget d n hW) (by decide) (by decide) ?_ ?_
    · unfold k_forget a_forget
      rw [if_pos e, if_pos e, en]
      exact congrArg nI i1
    · have ek : (k_forget κ n).2 = (zit (k_drF κ n.toNatClampNeg) 0 (aN α) (0, κ)).2 := by unfold k_forget; rw [if_pos e, en]
      have ea : (a_forget α n).2 = (zit (a_foF α n.toNatClampNeg) 0 (aN α) (0, a0 α)).2 := by unfold a_forget; rw [if_pos e]
      rw [ek, ea]
      generalize zit (k_drF κ n.toNatClampNeg) 0 (aN α) (0, κ) = x at *
      generalize zit (a_foF α n.toNatClampNeg) 0 (aN α) (0, a0 α) = y at *
      refine h.fr (h.1.kind (fun p hp _ _ => i2 p hp) (fun j hj => i4 101 j (by omega) (by omega)) (fun c hc => ?_) (fun c hc => ?_)) (h.2.1.fr (fun p j hp => by rw [i2 p (by omega)]) (fun p j hp => i4 p j (by omega) (by omega))) (fun p j hp => by rw [i2 p (by omega)]) (fun p j hp => i4 p j (by omega) (by omega)) tG.rf (i4 101 2 (by omega) (by omega))
      · rcases Classical.em (c < aN α ∧ foB κ α n.toNatClampNeg c) with z | z
        · obtain ⟨u, v, -⟩ := (i3 c).1 z
          exact .inr (.inr ⟨u, v⟩)
        · obtain ⟨u, v⟩ := (i3 c).2 z
          rw [u, v]; exact (h.1.1.1.1.2 c hc).2.2.2
      · unfold a_learnt
        rcases Classical.em (c < aN α ∧ foB κ α n.toNatClampNeg c) with z | z
        · obtain ⟨u, v, w⟩ := (i3 c).1 z
          rw [v, w]; decide
        · obtain ⟨u, v⟩ := (i3 c).2 z
          rw [v]
  · have ek : k_forget κ n = (-1, κ) := by unfold k_forget; rw [if_neg e]
    have ea : a_forget α n = (-1, a0 α) := by unfold a_forget; rw [if_neg e]
    refine .mk (fun d => s_forget d n kW) (fun d => t_forget d n hW) (by decide) (by decide) (by rw [ek, ea]) ?_
    rw [ek, ea]; exact h.a0
end C5
