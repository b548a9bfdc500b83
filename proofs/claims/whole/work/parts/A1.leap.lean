/-! the leap: both go back and take the learnt clause -/
section LP
variable {κ α : Nat → Nat → Int32} {τ : (Nat → Nat → Int64) × (Nat → Nat)} {T : Nat → Int32} {L : Nat → Nat} {R : Nat → Int32} {t w c : Nat}
theorem mc3_c : k_mc3 κ 10 8 = κ 10 8 + nI 1 ∧ k_mc3 κ 3 11 = κ 3 11 + nI 1 ∧ k_mc3 κ 3 12 = κ 3 12 + nI 1 := by
  unfold k_mc3 k_mc2
  rw [k_raise_p (by decide), k_raise_p (by decide), k_order_of.1 10 (by decide) (by decide), k_order_of.1 3 (by decide) (by decide), k_resolve_p (p := 10) (by decide), k_resolve_i (p := 3) (j := 11) (by decide) (by decide) (by decide), k_resolve_i (p := 3) (j := 12) (by decide) (by decide) (by decide)]
  unfold k_mc1
  refine ⟨zup_same _ _ _ _, ?_, ?_⟩
  · rw [zup_p (by decide), zup_i (by decide), zup_same]
  · rw [zup_p (by decide), zup_same]
/-- the stand of a conflict -/
def zCn (κ α : Nat → Nat → Int32) (τ : (Nat → Nat → Int64) × (Nat → Nat)) (T : Nat → Int32) (L : Nat → Nat) (R : Nat → Int32) (t w c : Nat) : Prop :=
  sN κ α τ ∧ aT α T L R t w ∧ kT κ T L R t w ∧ tI (aV α) (aCl α) (aAs α) T L R t w ∧ 1 ≤ w ∧ κ 3 9 = nI c ∧ zCf α T L t w c ∧ aN α < 400 ∧ α 101 7 = 0
theorem zCn.an (h : zCn κ α τ T L R t w c) : zAn κ α T L R t w := ⟨h.2.1, h.2.2.1, h.2.2.2.1.1, h.2.2.2.1.2.1, h.2.2.2.1.2.2.1, h.1.1.1, h.1.1.2.1, h.2.2.2.2.1⟩
theorem sN.V (h : sN κ α τ) : kV κ = aV α := by unfold kV aV; rw [h.2.1.1]
theorem sN.ln (h : sN κ α τ) (h7 : α 101 7 = 0) : aLn α = zcnt (a_learnt α) 0 (aN α) ∧ aLn α ≤ aN α := by
  have := h.2.2.2.2.2.2.2.1
  rw [if_pos h7] at this
  have := zcnt_le (a_learnt α) (aN α) 0
  omega
theorem leap_A (h : zCn κ α τ T L R t w c) : ∃ b, (b < w ∧ k_leapT (k_mc3 κ) = nI b ∧ tC L (nI b) t < t ∧ k_leave (k_mc3 κ) (k_leapT (k_mc3 κ)) 3 2 = nI (tC L (nI b) t)) ∧
    sN (k_leapA (k_mc3 κ) τ) (a_l10 α c) (k_rmT τ (k_leapE (k_mc3 κ))) ∧ aT (a_l10 α c) T L R (tC L (nI b) t) b ∧ kT (k_leapA (k_mc3 κ) τ) T L R (tC L (nI b) t) b ∧
    (∀ j, ¬ (33 ≤ j ∧ j ≤ 62) → ¬ l9W α (a_lst α c).length 101 j → a_l10 α c 101 j = α 101 j) ∧ (∀ k, k < (a_lst α c).length → aL (a_l10 α c) (aN α) k = (a_lst α c).getD k 0) ∧
    aN (a_l10 α c) = aN α + 1 ∧ aS (a_l10 α c) (aN α) = (a_lst α c).length ∧ (∀ j, ¬ j = 10 → ¬ j = 11 → a_l10 α c 100 j = α 100 j) ∧
    (∀ j, ¬ (j = 2 ∨ j = 6 ∨ j = 7 ∨ j = 8) → k_leapA (k_mc3 κ) τ 3 j = k_mc3 κ 3 j) ∧ (∀ j, ¬ j = 5 → ¬ j = 8 → k_leapA (k_mc3 κ) τ 10 j = κ 10 j) ∧
    (∀ p, ¬ (p = 100 ∨ p = 101 ∨ p = 105 ∨ (112 ≤ p ∧ p ≤ 114)) → a_l10 α c p = α p) ∧ (∀ p, ¬ (p = 3 ∨ (10 ≤ p ∧ p ≤ 16) ∨ p = 21 ∨ p = 73 ∨ p = 74) → k_leapA (k_mc3 κ) τ p = κ p) := by
  have hA := h.an
  obtain ⟨hs, ha, hk, hI, h1w, h9, hc, hN, h7⟩ := h
  have hV := hs.V
  have hV30 := hs.1.2.1.1.2
  have hsc := hs.2.2.2.1
  obtain ⟨hLn, hL4⟩ := hs.ln h7
  have w30 := hA.w30
  have ht30 := w30.1
  have hwt := hI.2.1.le
  obtain ⟨m1, m2, m3, m4, m5, m6, m7, m8⟩ := mc3_all hA hV h9 hc hsc
  obtain ⟨b, b1, b2, b3, b4⟩ := leap_lv hA hV h9 hc hsc hN (by omega)
  obtain ⟨n1, n2, n3, n4, n5, n6⟩ := a_l9_n (c := c) hV30 (by omega) hN
  have a9 : aT (a_l9 α c) T L R t w := ha.of (fun p x y => funext fun i => a_l9_fr hV30 (by unfold l9W; omega)) (a_l9_fr hV30 (by unfold l9W; omega)) ((a_l9_fr hV30 (by unfold l9W; omega)).trans ha.1.2)
  have k3 : kT (k_mc3 κ) T L R t w := hk.of (fun p x y => k_mc3_p (by omega) (by omega) (by omega) (by omega) (by omega)) (k_mc3_i (.inl rfl) (.inr (by decide)) (by decide) (by decide) (by decide) (by decide) (by decide)) (k_mc3_i (.inl rfl) (.inr (by decide)) (by decide) (by decide) (by decide) (by decide) (by decide)) (k_mc3_i (.inl rfl) (.inr (by decide)) (by decide) (by decide) (by decide) (by decide) (by decide)) ((k_mc3_i (.inl rfl) (.inr (by decide)) (by decide) (by decide) (by decide) (by decide) (by decide)).trans hk.1.2)
  have p3 : phR (k_mc3 κ) (a_l9 α c) := fun v x y => by
    rw [k_mc3_i (.inr rfl) (.inl (by decide)) (by decide) (by decide) (by decide) (by decide) (by decide), a_l9_fr hV30 (by unfold l9W; omega)]; exact hs.2.2.1 v x y
  have hb0 : (if 0 ≤ nI b then nI b else nI 0) = nI b := if_pos (show nI 0 ≤ nI b from nI_le (Nat.zero_le b) (by omega))
  obtain ⟨l1, l2, l3, l4, l5⟩ := leave_both (b := nI b) (w' := b) hb0 w30 a9 k3 p3
  have e10 : a_l10 α c = a_leaves (a_l9 α c) (nI b) := by unfold a_l10; rw [b3]
  rw [← e10] at l1 l3 l4
  have eN3 : kN (k_mc3 κ) = aN α := by unfold kN; rw [k_mc3_p (by decide) (by decide) (by decide) (by decide) (by decide)]; exact hs.1.1.n
  have eL3 : (k_mc3 κ 73 1).toNatClampNeg = (a_lst α c).length := by rw [m1.1]; exact nI_clamp (by have := m8.1.2; omega)
  have eE3 : k_leapE (k_mc3 κ) = kS κ (aN α) + (a_lst α c).length := by unfold k_leapE; rw [eN3, eL3]; unfold kS; rw [k_mc3_p (by decide) (by decide) (by decide) (by decide) (by decide)]
  have e4 : ∀ p, p ≠ 3 → p ≠ 10 → p ≠ 21 → p ≠ 73 → p ≠ 74 → k_leave (k_mc3 κ) (nI b) p = κ p := fun p q1 q2 q3 q4 q5 => funext fun i => (l5 p i (by omega) (by omega)).trans (congrFun (k_mc3_p q1 q2 q3 q4 q5) i)
  have e410 : ∀ j, ¬ j = 5 → k_leave (k_mc3 κ) (nI b) 10 j = k_mc3 κ 10 j := fun j hj => l5 10 j (by omega) (by omega)
  have hbt : tC L (nI b) t < t := by
    obtain ⟨i, i1, i2⟩ := hI.2.1.2.2 w h1w (Nat.le_refl _)
    have J := tC_iff (L := L) (b := b) (by omega) t hI.2.1.1 (fun i hi => by have := hI.2.1.2.1 i hi; omega)
    rcases Nat.lt_or_ge (tC L (nI b) t) t with x | x
    · exact x
    · have := (J i).mp (by omega); omega
  have k42 : k_leave (k_mc3 κ) (k_leapT (k_mc3 κ)) 3 2 = nI (tC L (nI b) t) := by rw [b2]; exact l2.1.1
  have eS4 : kS (k_leave (k_mc3 κ) (nI b)) (aN α) = kS κ (aN α) := by unfold kS; rw [e4 15 (by decide) (by decide) (by decide) (by decide) (by decide)]
  have eA : k_leapA (k_mc3 κ) τ = k_app (k_rmK (k_leave (k_mc3 κ) (nI b)) τ (kS (k_leave (k_mc3 κ) (nI b)) (aN α) + (a_lst α c).length)) 73 (aN α) (a_lst α c).length true := by unfold k_leapA; rw [b2, eN3, eL3, eE3, eS4]
  have cR4 : cR (k_leave (k_mc3 κ) (nI b)) α := hs.1.1.of (fun p x y => e4 p (by omega) (by omega) (by omega) (by omega) (by omega))
  have kW4 : kW (k_leave (k_mc3 κ) (nI b)) τ := hs.1.2.2.2.eq (fun p hp => e4 p (by omega) (by omega) (by omega) (by omega) (by omega)) rfl
  have ea : ∀ j, ¬ (33 ≤ j ∧ j ≤ 62) → a_l10 α c 101 j = a_l9 α c 101 j := fun j hj => l4 101 j (by omega) (by omega) (by omega)
  have eo : ∀ j, ¬ (33 ≤ j ∧ j ≤ 62) → ¬ l9W α (a_lst α c).length 101 j → a_l10 α c 101 j = α 101 j := fun j x y => (ea j x).trans (a_l9_fr hV30 y)
  have hlen := m8.1.2
  have aO : ∀ d, d < aN α → a_l10 α c 101 (125 + d) = α 101 (125 + d) ∧ a_l10 α c 101 (525 + d) = α 101 (525 + d) ∧ ∀ k, k < 30 → a_l10 α c 101 (1326 + 30 * d + k) = α 101 (1326 + 30 * d + k) := fun d hd => ⟨eo _ (by omega) (by unfold l9W; omega), eo _ (by omega) (by unfold l9W; omega), fun k hk => eo _ (by omega) (by unfold l9W; omega)⟩
  have nL : ∀ k, k < (a_lst α c).length → aL (a_l10 α c) (aN α) k = (a_lst α c).getD k 0 := fun k hk => (ea _ (by omega)).trans (a_l9_lit hV30 (by omega) k hk)
  have gl : ∀ i, i < (a_lst α c).length → lok (aV α) ((a_lst α c).getD i 0) := fun i hi => by
    obtain ⟨j, j1, j2, -⟩ := m8.2.1 i hi
    rw [j2]; exact (hI.1.2.1 j j1).neg hV30
  have a1 : a_l10 α c 101 1 = nI (aN α + 1) := (ea 1 (by omega)).trans n1
  have nS : a_l10 α c 101 (125 + aN α) = nI (a_lst α c).length := (ea _ (by omega)).trans (n4.trans (by rw [m7]))
  have aO2 : ∀ d, d < aN α → a_l10 α c 101 (125 + d) = α 101 (125 + d) ∧ ∀ k, k < 30 → a_l10 α c 101 (1326 + 30 * d + k) = α 101 (1326 + 30 * d + k) := fun d hd => ⟨(aO d hd).1, (aO d hd).2.2⟩
  obtain ⟨W', S'⟩ := aW.more (g := fun k => (a_lst α c).getD k 0) hs.1.2.1 hN hlen (eo 0 (by omega) (by unfold l9W; omega)) a1 aO2 nS nL gl
  have D' := aWd.more (g := fun k => (a_lst α c).getD k 0) hs.1.2.2.1 hs.1.2.1 hN a1 aO2 S' nL (fun i j hi hj => by
    obtain ⟨x, x1, x2, -⟩ := m8.2.1 i (by omega)
    obtain ⟨y, y1, y2, -⟩ := m8.2.1 j hj
    have ne := (m8.2.2 i j x y hi hj x1 y1 x2 y2).1
    show ¬ zv ((a_lst α c).getD i 0) = zv ((a_lst α c).getD j 0)
    rw [x2, y2, (a_tr_neg (w30.2.1 x x1)).2.1, (a_tr_neg (w30.2.1 y y1)).2.1]
    exact fun e => ne (w30.ne x1 y1 e))
  obtain ⟨C', C6, Cf⟩ := app_cR (κ := k_leave (k_mc3 κ) (nI b)) (p := 73) (bo := true) (g := fun k => (a_lst α c).getD k 0) cR4 hs.1.2.1 kW4 hN hlen (by decide) (fun i hi => (l5 74 i (by omega) (by omega)).trans (m1.2 i hi)) (fun i hi => (gl i hi).mono hV30) a1 aO S' nL (by
    rw [ea _ (by omega), n5]; exact .inr (.inl ⟨rfl, rfl⟩))
  have kW' := kW.app (p := 73) (t := (a_lst α c).length) (b := true) kW4 (by rw [cR4.n]; exact hN) hlen
  rw [cR4.n] at kW'
  rw [← eA] at C' C6 Cf kW'
  rw [eS4, ← eE3] at kW'
  obtain ⟨c1, c2, c3⟩ := mc3_c (κ := κ)
  have e10j : ∀ j, ¬ j = 5 → ¬ j = 8 → k_leapA (k_mc3 κ) τ 10 j = κ 10 j := fun j x y => by
    rw [Cf 10 (by omega), e410 j x]
    by_cases z : j = 11 ∨ j = 12 ∨ j = 14 ∨ j = 15 ∨ j = 16
    · unfold k_mc3 k_mc2
      rw [k_raise_p (by decide), k_order_of.1 10 (by decide) (by decide), k_resolve_p (p := 10) (by decide)]
      unfold k_mc1
      rw [zup_i y, zup_p (by decide), zup_p (by decide)]
    · exact k_mc3_i (.inr rfl) (.inl y) (by omega) (by omega) (by omega) (by omega) (by omega)
  have eAa : aA (a_l10 α c) = aA α := by unfold aA; rw [eo 3 (by omega) (by unfold l9W; omega)]
  have eVa : aV (a_l10 α c) = aV α := by unfold aV; rw [eo 0 (by omega) (by unfold l9W; omega)]
  have eNa : aN (a_l10 α c) = aN α + 1 := by unfold aN at *; rw [a1]; exact nI_clamp (by omega)
  obtain ⟨⟨-, -, -, -⟩, ⟨q1, q2, q3, q4⟩, -, -, ⟨r1, r2, r3, r4, r5, r6⟩, g1, g2, g3, g4, g5, g6⟩ := hs
  refine ⟨b, ⟨b1, b2, hbt, k42⟩, ⟨⟨C', W', D', kW'⟩, ⟨?_, ?_, ?_, ?_⟩, ?_, fun v x y => ?_, ⟨?_, ?_, ?_, ?_, ?_, ?_⟩, ?_⟩, l1, ?_, eo, nL, eNa, S', fun j x y => ?_, fun j hj => ?_, e10j, fun p hp => funext fun j => (l4 p j (by omega) (by omega) (by omega)).trans (a_l9_fr hV30 (by unfold l9W; omega)), fun p hp => (Cf p (by omega)).trans (e4 p (by omega) (by omega) (by omega) (by omega) (by omega))⟩
  · rw [e10j 4 (by decide) (by decide), eo 0 (by omega) (by unfold l9W; omega)]; exact q1
  · unfold aWA at q2 ⊢
    rw [eAa, eVa, eo 3 (by omega) (by unfold l9W; omega)]
    refine ⟨q2.1, q2.2.1, fun k hk => ?_⟩
    have := q2.2.1
    rw [eo (16 + k) (by omega) (by unfold l9W; omega)]; exact q2.2.2 k hk
  · rw [Cf 19 (by omega), e4 19 (by decide) (by decide) (by decide) (by decide) (by decide), eo 3 (by omega) (by unfold l9W; omega)]; exact q3
  · rw [eAa]
    intro k hk
    have := q2.2.1
    rw [Cf 20 (by omega), e4 20 (by decide) (by decide) (by decide) (by decide) (by decide), eo (16 + k) (by omega) (by unfold l9W; omega)]; exact q4 k hk
  · intro v x y
    rw [Cf 10 (by omega)]; exact l3 v x y
  · rw [Cf 21 (by omega), l5 21 v (by omega) (by omega), ea (63 + v) (by omega)]; exact m2 v x y
  · rw [e10j 6 (by decide) (by decide), eo 5 (by omega) (by unfold l9W; omega)]; exact r1
  · rw [Cf 10 (by omega), e410 8 (by decide), c1, ea 8 (by omega), n3, r2]
  · rw [e10j 9 (by decide) (by decide), eo 9 (by omega) (by unfold l9W; omega)]; exact r3
  · rw [e10j 10 (by decide) (by decide), eo 10 (by omega) (by unfold l9W; omega)]; exact r4
  · rw [e10j 11 (by decide) (by decide), eo 11 (by omega) (by unfold l9W; omega)]; exact r5
  · rw [C6, e4 11 (by decide) (by decide) (by decide) (by decide) (by decide), eo 2 (by omega) (by unfold l9W; omega), r6]; exact Int32.add_zero _
  · have e6 : a_l10 α c 101 6 = nI (aLn α + 1) := (ea 6 (by omega)).trans n2
    have eLa : aLn (a_l10 α c) = aLn α + 1 := by unfold aLn at *; rw [e6]; exact nI_clamp (by omega)
    have el : ∀ d, d < aN α → a_learnt (a_l10 α c) d = a_learnt α d := fun d hd => by unfold a_learnt; rw [(aO d hd).2.1]
    have en : a_learnt (a_l10 α c) (aN α) = true := by unfold a_learnt; rw [ea _ (by omega), n5]; rfl
    have ez : ∀ d, d ≤ aN α → zcnt (a_learnt (a_l10 α c)) 0 d = zcnt (a_learnt α) 0 d := fun d hd => zcnt_congr (fun j x y => el j (by omega))
    have e7 : a_l10 α c 101 7 = 0 := (eo 7 (by omega) (by unfold l9W; omega)).trans h7
    refine ⟨by rw [eLa]; exact e6, .inl e7, ?_, fun d hd hl => ?_, fun x => absurd e7 x, ?_⟩
    · rw [if_pos e7, eNa, zcnt_succ, Nat.zero_add, en, ez _ (Nat.le_refl _), eLa, hLn]; rfl
    · rw [eNa] at hd
      rw [ez d (by omega)]
      by_cases e : d = aN α
      · subst e; rw [← hLn, ea _ (by omega)]; exact n6
      · have hl' := hl
        rw [el d (by omega)] at hl'
        have hlt : zcnt (a_learnt α) 0 d < aLn α := by
          have := zcnt_add (a_learnt α) (d + 1) 0 (aN α - (d + 1))
          rw [show d + 1 + (aN α - (d + 1)) = aN α from by omega, zcnt_succ, Nat.zero_add, hl', ← hLn] at this
          have h1 : (bif true then 1 else 0) = 1 := rfl
          omega
        rw [eo _ (by omega) (by unfold l9W; omega)]
        exact g4 d (by omega) hl'
    · rw [eNa, zcnt_succ, Nat.zero_add, en, ez _ (Nat.le_refl _), eo 2 (by omega) (by unfold l9W; omega), g6]
      refine congrArg nI ?_
      have h1 : (bif true then 1 else 0) = 1 := rfl
      omega
  · refine l2.of (fun p x y => Cf p (by omega)) ?_ ?_ ?_ ?_
    · rw [Cf 3 (by omega)]
    · rw [Cf 3 (by omega)]
    · rw [Cf 3 (by omega)]
    · rw [Cf 3 (by omega)]; exact l2.1.2
  · exact (l4 100 j (by omega) (by omega) (by omega)).trans (a_l9_fr hV30 (by unfold l9W; omega))
  · rw [Cf 3 (by omega)]; exact l5 3 j (by omega) (by omega)
end LP
