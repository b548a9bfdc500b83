/-! variable, line -/
section C7
variable {E : zEnv} {κ κ' α α' : Nat → Nat → Int32} {τ τ' : (Nat → Nat → Int64) × (Nat → Nat)} {k : Nat}
theorem among_eq (h : stR κ α τ) {v : Nat} (v1 : 1 ≤ v) (v2 : v ≤ 30) : ∀ m, m ≤ aN α → zit (a_amF α v) 0 m 0 = zcnt (k_cwB κ (nI v)) 0 m
  | 0, _ => rfl
  | m + 1, hm => by
    have hW := h.1.1.2.1
    rw [zit_succ, zcnt_succ, Nat.zero_add, among_eq h v1 v2 m (by omega)]
    obtain ⟨x1, x2, x3, x4⟩ := h.1.1.1.2 m (by omega)
    have bit := x1.has (fun j hj => hW.lok30 (by omega) hj) v1 v2
    unfold a_amF
    have eg := kKd.gone x4
    by_cases e : a_gone α m = true
    · rw [if_pos e]
      have : k_cwB κ (nI v) m = false := by unfold k_cwB; rw [eg, e]; rfl
      rw [this]; rfl
    · rw [if_neg e]
      have e' : a_gone α m = false := by cases y : a_gone α m with | false => rfl | true => exact absurd y e
      refine congrArg _ ?_
      have ec : k_cwB κ (nI v) m = kt (kM κ m) v := by
        unfold k_cwB
        rw [eg, e']
        show (true && _) = _
        rw [Bool.true_and]
        cases y : kt (kM κ m) v with
        | true => exact decide_eq_true ((kt_niff _ v1 v2).mpr y)
        | false => exact decide_eq_false (fun z => z ((kt_iff _ v1 v2).mpr y))
      rw [ec]
      unfold kM
      cases y : kt (κ 12 m ||| κ 13 m) v with
      | true =>
        obtain ⟨j, j1, j2⟩ := bit.mp y
        refine zcnt_is1 (c := j) (Nat.zero_le _) (by omega) (by rw [j2]; exact Nat.beq_refl _) (fun i _ hi ei => ?_)
        have ei := Nat.eq_of_beq_eq_true ei
        have hd := h.1.1.2.2.1 m (by omega)
        rcases Nat.lt_trichotomy i j with z | z | z
        · exact absurd (ei.trans j2.symm) (hd i j z j1)
        · exact z
        · exact absurd (j2.trans ei.symm) (hd j i z (by omega))
      | false =>
        refine zcnt_zero.mpr (fun j _ hj => ?_)
        cases z : Nat.beq (zv (aL α m j)) v with
        | false => rfl
        | true =>
          have := bit.mpr ⟨j, by omega, Nat.eq_of_beq_eq_true z⟩
          rw [y] at this; exact absurd this (by decide)
theorem y_variable (h : zI k κ α τ) (v w : Int32) : zCall E zI k κ α τ mX8_variable mX9_variable [.int v, .int w] := by
  have hW := h.1.1.1.2.1
  have kW := h.1.1.1.2.2.2
  have hV := hW.1.2
  have e4 : κ 10 4 = α 101 0 := h.1.1.2.1.1
  refine .mk (fun d => s_variable d v w (by rw [h.1.1.V, e4]; exact hW.1.1) (by rw [h.1.1.V]; exact hV) kW.1.1 kW.1.2) (fun d => t_variable d v w hW) (by decide) (by decide) ?_ h.a0
  unfold k_var a_var a_isVar
  rw [e4]
  by_cases e : (decide (nI 1 ≤ v) && decide (v ≤ α 101 0)) = true
  · rw [if_pos e, if_pos e]
    simp only [Bool.and_eq_true, decide_eq_true_eq] at e
    obtain ⟨j, hj, rfl⟩ := nI_of (x := v) (Int32.not_lt.mpr (Int32.le_trans (by decide) e.1))
    have j1 := (nI_leI (by decide) hj).mp e.1
    have j2 : j ≤ aV α := by have := e.2; rw [hW.1.1] at this; exact (nI_leI hj (by omega)).mp this
    have j3 : j ≤ 30 := by omega
    rw [nI_clamp hj]
    have p0 : zbo (k_phaseOf κ (nI j)) = α 101 (32 + j) := by
      unfold k_phaseOf
      rcases h.1.1.2.2.1 j j1 j3 with ⟨x, y⟩ | ⟨x, y⟩
      · rw [y, decide_eq_true ((kt_niff _ j1 j3).mpr x)]; rfl
      · rw [y, decide_eq_false (fun z => z ((kt_iff _ j1 j3).mpr x))]; rfl
    have p2 : zcnt (k_cwB κ (nI j)) 0 (kN κ) = a_among α j := by
      unfold a_among
      rw [among_eq h.1 j1 j3 (aN α) (Nat.le_refl _), h.1.1.1.1.n]
    rw [p0, h.1.1.2.2.2.1 j j1 j3, p2]
  · rw [if_neg e, if_neg e]
/-- the learnt clause at a line -/
theorem lat_is (κ : Nat → Nat → Int32) (n : Nat) : ∀ m i b, b ≤ n → (∃ c, k_latL κ n i m b = some c ∧ i ≤ c ∧ c < i + m ∧ ¬ κ 14 c = 0 ∧ b + zcnt (fun c => decide (¬ κ 14 c = 0)) i (c - i) = n) ∨ (k_latL κ n i m b = none ∧ b + zcnt (fun c => decide (¬ κ 14 c = 0)) i m ≤ n)
  | 0, i, b, h => .inr ⟨rfl, h⟩
  | m + 1, i, b, h => by
    unfold k_latL
    by_cases e : κ 14 i = 0
    · rw [if_pos e]
      have ef : (bif decide (¬ κ 14 i = 0) then 1 else 0) = 0 := by rw [decide_eq_false (fun x => x e)]; rfl
      rcases lat_is κ n m (i + 1) b h with ⟨c, c1, c2, c3, c4, c5⟩ | ⟨c1, c2⟩
      · refine .inl ⟨c, c1, by omega, by omega, c4, ?_⟩
        obtain ⟨d, rfl⟩ : ∃ d, c = i + 1 + d := ⟨c - (i + 1), by omega⟩
        rw [show i + 1 + d - i = d + 1 from by omega]
        rw [show i + 1 + d - (i + 1) = d from by omega] at c5
        show b + ((bif decide (¬ κ 14 i = 0) then 1 else 0) + zcnt _ (i + 1) d) = n
        rw [ef]; omega
      · refine .inr ⟨c1, ?_⟩
        show b + ((bif decide (¬ κ 14 i = 0) then 1 else 0) + zcnt _ (i + 1) m) ≤ n
        rw [ef]; omega
    · rw [if_neg e]
      have ef : (bif decide (¬ κ 14 i = 0) then 1 else 0) = 1 := by rw [decide_eq_true e]; rfl
      by_cases eb : b = n
      · rw [if_pos eb]
        refine .inl ⟨i, rfl, Nat.le_refl _, by omega, e, ?_⟩
        rw [Nat.sub_self]; exact eb
      · rw [if_neg eb]
        rcases lat_is κ n m (i + 1) (b + 1) (by omega) with ⟨c, c1, c2, c3, c4, c5⟩ | ⟨c1, c2⟩
        · refine .inl ⟨c, c1, by omega, by omega, c4, ?_⟩
          obtain ⟨d, rfl⟩ : ∃ d, c = i + 1 + d := ⟨c - (i + 1), by omega⟩
          rw [show i + 1 + d - i = d + 1 from by omega]
          rw [show i + 1 + d - (i + 1) = d from by omega] at c5
          show b + ((bif decide (¬ κ 14 i = 0) then 1 else 0) + zcnt _ (i + 1) d) = n
          rw [ef]; omega
        · refine .inr ⟨c1, ?_⟩
          show b + ((bif decide (¬ κ 14 i = 0) then 1 else 0) + zcnt _ (i + 1) m) ≤ n
          rw [ef]; omega
theorem stR.lp (h : stR κ α τ) {c : Nat} (hc : c < aN α) : decide (¬ κ 14 c = 0) = a_learnt α c := by
  unfold a_learnt
  rcases (h.1.1.1.2 c hc).2.2.2 with ⟨x, y⟩ | ⟨x, y⟩ | ⟨x, y⟩ <;> rw [x, y] <;> rfl
theorem stR.line (h : stR κ α τ) {j : Nat} (hj : j < aLn α) : (∃ c, c < aN α ∧ a_learnt α c = true ∧ zcnt (a_learnt α) 0 c = j ∧ α 101 (925 + j) = nI c ∧ k_lat κ j = some c) ∨ (k_lat κ j = none ∧ α 101 (925 + j) = -1 ∧ j = zcnt (a_learnt α) 0 (aN α) ∧ ¬ α 101 7 = 0) := by
  obtain ⟨g1, g2, g3, g4, g5, g6⟩ := h.1.2.2.2.2.2
  unfold k_lat
  rw [h.1.1.1.n]
  have ez : ∀ d, d ≤ aN α → zcnt (fun c => decide (¬ κ 14 c = 0)) 0 d = zcnt (a_learnt α) 0 d := fun d hd => zcnt_congr (fun i _ hi => h.lp (by omega))
  rcases lat_is κ j (aN α) 0 0 (Nat.zero_le _) with ⟨c, c1, c2, c3, c4, c5⟩ | ⟨c1, c2⟩
  · left
    rw [Nat.sub_zero, ez c (by omega)] at c5
    have hl : a_learnt α c = true := by rw [← h.lp (by omega)]; exact decide_eq_true c4
    have := g4 c (by omega) hl
    rw [show zcnt (a_learnt α) 0 c = j by omega] at this
    exact ⟨c, by omega, hl, by omega, this, c1⟩
  · right
    rw [ez _ (Nat.le_refl _)] at c2
    by_cases e : α 101 7 = 0
    · rw [if_pos e] at g3; omega
    · rw [if_neg e] at g3
      have ej : j = zcnt (a_learnt α) 0 (aN α) := by omega
      exact ⟨c1, by rw [ej]; exact g5 e, ej, e⟩
theorem stR.aWL (h : stR κ α τ) : aWL α := by
  refine ⟨h.1.2.2.2.2.2.1, h.logN.2, fun j hj => ?_⟩
  rcases h.line hj with ⟨c, c1, -, -, c4, -⟩ | ⟨-, c2, -⟩
  · exact .inr ⟨c, c1, c4⟩
  · exact .inl c2
theorem y_line (h : zI k κ α τ) (a w : Int32) : zCall E zI k κ α τ mX8_line mX9_line [.int a, .int w] := by
  have hW := h.1.1.1.2.1
  have kW := h.1.1.1.2.2.2
  have h4 := hW.2.1.2
  obtain ⟨e6, l4⟩ := h.1.logN
  have g1 := h.1.1.2.2.2.2.2.1
  refine .mk (fun d => s_lineA d a w kW (e6.trans g1) l4) (fun d => t_line d a w hW h.1.aWL) (by decide) (by decide) ?_ h.a0
  unfold k_lineA a_line
  rw [e6, g1]
  by_cases e : a < 0 ∨ ¬ a < nI (aLn α) ∨ w < -1
  · rw [if_pos e, if_neg]
    rintro ⟨x, y⟩
    simp only [Bool.and_eq_true, decide_eq_true_eq] at x y
    rw [le_of_sub1 (by omega)] at x
    rcases e with e | e | e
    · exact absurd x.1 (Int32.not_le.mpr e)
    · exact e x.2
    · exact absurd y.1 (Int32.not_le.mpr e)
  · rw [if_neg e]
    have n1 : ¬ a < 0 := fun x => e (.inl x)
    have n2 : a < nI (aLn α) := Classical.byContradiction (fun x => e (.inr (.inl x)))
    have n3 : -1 ≤ w := Int32.not_lt.mp (fun x => e (.inr (.inr x)))
    obtain ⟨j, hj, rfl⟩ := nI_of n1
    have hj' := (nI_ltI hj (by omega)).mp n2
    rw [nI_clamp hj]
    have ls : k_lsz κ j = a_lsz α j ∧ a_lsz α j ≤ 30 := by
      unfold k_lsz a_lsz
      rcases h.1.line hj' with ⟨c, c1, c2, c3, c4, c5⟩ | ⟨c1, c2, -⟩
      · rw [c5, c4, if_neg (m3_ne (by omega)).1, nI_clamp (show c < 2 ^ 31 by omega)]
        exact ⟨(h.1.1.1.1.2 c c1).2.1, (hW.2.2.1 c c1).2⟩
      · rw [c1, c2, if_pos rfl]; exact ⟨rfl, by decide⟩
    rw [ls.1]
    by_cases ew : w = -1
    · rw [if_pos ew, if_pos, if_pos ew]
      simp only [Bool.and_eq_true, decide_eq_true_eq]
      rw [le_of_sub1 (by omega), le_of_sub1 (by omega)]
      exact ⟨⟨Int32.not_lt.mp n1, n2⟩, n3, by rw [ew]; exact Int32.lt_of_lt_of_le (by decide) (nI_le (Nat.zero_le _) (by omega))⟩
    · rw [if_neg ew]
      by_cases el : w < nI (a_lsz α j)
      · rw [if_pos el, if_pos, if_neg ew]
        · have w0 : ¬ w < 0 := fun x => by
            have a := Int32.le_iff_toInt_le.mp n3
            have b := Int32.lt_iff_toInt_lt.mp x
            rw [show (-1 : Int32).toInt = -1 from by decide] at a
            rw [show (0 : Int32).toInt = 0 from by decide] at b
            exact ew (Int32.toInt_inj.mp ((show w.toInt = -1 by omega).trans (by decide)))
          obtain ⟨i, hi, rfl⟩ := nI_of w0
          have hi' := (nI_ltI hi (by omega)).mp el
          rw [nI_clamp hi]
          unfold a_lsz at hi'
          rcases h.1.line hj' with ⟨c, c1, c2, c3, c4, c5⟩ | ⟨c1, c2, -⟩
          · rw [c4, if_neg (m3_ne (by omega)).1, nI_clamp (show c < 2 ^ 31 by omega)] at hi'
            rw [c5, c4, nI_clamp (show c < 2 ^ 31 by omega)]
            exact (h.1.1.1.1.2 c c1).2.2.1 i hi'
          · rw [c2, if_pos rfl] at hi'; omega
        · simp only [Bool.and_eq_true, decide_eq_true_eq]
          rw [le_of_sub1 (by omega), le_of_sub1 (by omega)]
          exact ⟨⟨Int32.not_lt.mp n1, n2⟩, n3, el⟩
      · rw [if_neg el, if_neg]
        rintro ⟨x, y⟩
        simp only [Bool.and_eq_true, decide_eq_true_eq] at y
        rw [le_of_sub1 (by omega)] at y
        exact el y.2
end C7
