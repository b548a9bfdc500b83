/-! calls that ask, and small ones -/
section C1
variable {E : zEnv} {κ κ' α α' : Nat → Nat → Int32} {τ τ' : (Nat → Nat → Int64) × (Nat → Nat)} {k : Nat}
theorem zCall.mk {yc yr : zY} {as : List Value} {a b : Nat} {rc rr : Int32} (h1 : ∀ d, zTr E (d + a) yc (.ref 0 :: as) (κ, α, τ) (some (.int rc)) (κ', α, τ')) (h2 : ∀ d, zTr E (d + b) yr (.ref 100 :: as) (κ', α, τ') (some (.int rr)) (κ', α', τ')) (ha : a ≤ 300) (hb : b ≤ 300) (e : rc = rr) (hI : zI (k + 1) κ' α' τ') : zCall E zI k κ α τ yc yr as := by
  subst e
  refine ⟨rc, κ', α', τ', fun D hD => ?_, fun D hD => ?_, hI⟩
  · have := h1 (D - a); rwa [Nat.sub_add_cancel (by omega)] at this
  · have := h2 (D - b); rwa [Nat.sub_add_cancel (by omega)] at this
theorem a0_p {p i : Nat} (h : ¬ (p = 100 ∧ i = 0)) : a0 α p i = α p i := if_neg h
theorem zI.fr2 (h : zI k κ α τ) (hs : stR κ' α' τ') (ht : txR κ' α') (ek : ∀ p j, p = 2 ∨ (30 ≤ p ∧ p ≤ 61) → κ' p j = κ p j) (ea : ∀ p j, p = 103 ∨ p = 104 ∨ p = 119 → α' p j = α p j) (hg : tG τ τ') (h2 : t8 (α' 101 2)) : zI (k + 1) κ' α' τ' :=
  h.up hs ht (fun p hp => funext fun j => ek p j hp) (funext fun j => ea 103 j (by omega)) (funext fun j => ea 104 j (by omega)) ((ea 119 0 (by omega)).trans h.2.2.2.2.2) hg h2
theorem zI.fr (h : zI k κ α τ) (hs : stR κ' α' τ') (ht : txR κ' α') (ek : ∀ p j, p = 2 ∨ (30 ≤ p ∧ p ≤ 61) → κ' p j = κ p j) (ea : ∀ p j, p = 103 ∨ p = 104 ∨ p = 119 → α' p j = α p j) (hg : tG τ τ') (h2 : α' 101 2 = α 101 2) : zI (k + 1) κ' α' τ' :=
  h.fr2 hs ht ek ea hg (by rw [h2]; exact h.2.2.2.2.1.2.1)
theorem y_fault (h : zI k κ α τ) : zCall E zI k κ α τ mX8_fault mX9_fault [] := by
  obtain ⟨t, t1, t2, t3, t4, t5⟩ := h.2.1
  exact .mk (fun d => s_fault d) (fun d => t_fault d) (by decide) (by decide) t5 h.a0
theorem y_closed (h : zI k κ α τ) : zCall E zI k κ α τ mX8_closed mX9_closed [] := .mk (fun d => s_closed d) (fun d => t_closed d) (by decide) (by decide) h.1.2.1.2.2 h.a0
theorem y_core (h : zI k κ α τ) : zCall E zI k κ α τ mX8_core mX9_core [] := by
  refine .mk (fun d => s_coreA d) (fun d => t_core d) (by decide) (by decide) ?_ h.a0
  unfold k_coreA
  by_cases e : κ 10 12 = 0
  · rw [if_pos e]; exact h.1.2.2.1.1 e
  · rw [if_neg e]; exact (h.1.2.2.1.2 e).symm
theorem y_assumption (h : zI k κ α τ) (i : Int32) : zCall E zI k κ α τ mX8_assumption mX9_assumption [.int i] := by
  obtain ⟨D, d1, d2, d3, d4, d5⟩ := h.1.2.2.2.2.2
  refine .mk (fun d => s_assumption d i d2 d1) (fun d => t_assumption d i d3 d1) (by decide) (by decide) ?_ h.a0
  unfold k_assn a_assn
  rw [d2, d3]
  by_cases e : (decide (nI 0 ≤ i) && decide (i ≤ nI D - nI 1)) = true
  · rw [if_pos e, if_pos e]
    simp only [Bool.and_eq_true, decide_eq_true_eq] at e
    obtain ⟨j, hj, rfl⟩ := nI_of (x := i) (Int32.not_lt.mpr e.1)
    rw [nI_clamp hj]
    rcases Nat.eq_zero_or_pos D with x | x
    · subst x
      exact absurd (Int32.le_trans e.1 e.2) (by decide)
    · have := e.2
      rw [pk_sub x] at this
      exact (d4 j (by have := (nI_leI hj (by omega)).mp this; omega)).1
  · rw [if_neg e, if_neg e]
theorem y_model (h : zI k κ α τ) (v : Int32) : zCall E zI k κ α τ mX8_model mX9_model [.int v] := by
  have mo := h.1.2.2.2.1
  refine .mk (fun d => s_model d v) (fun d => t_model d v ?_) (by decide) (by decide) ?_ h.a0
  · rcases mo with ⟨-, x⟩ | ⟨M, m1, m2, m3, -⟩
    · exact .inl x
    · exact .inr ⟨M, m1, m3⟩
  · unfold k_mod a_mod
    rcases mo with ⟨x, y⟩ | ⟨M, m1, m2, m3, m4⟩
    · rw [x, y, if_neg, if_neg]
      · intro e
        simp only [Bool.and_eq_true, decide_eq_true_eq] at e
        exact absurd (Int32.le_trans e.1 e.2) (by decide)
      · intro e
        simp only [Bool.and_eq_true, decide_eq_true_eq] at e
        exact absurd (Int32.le_trans e.1 e.2) (by decide)
    · rw [m2, m3]
      by_cases e : (decide (nI 1 ≤ v) && decide (v ≤ nI M)) = true
      · rw [if_pos e, if_pos e]
        simp only [Bool.and_eq_true, decide_eq_true_eq] at e
        obtain ⟨j, hj, rfl⟩ := nI_of (x := v) (Int32.not_lt.mpr (Int32.le_trans (by decide) e.1))
        have j1 := (nI_leI (by decide) hj).mp e.1
        have j2 := (nI_leI hj (by omega)).mp e.2
        rw [nI_clamp hj]
        rcases m4 j j1 j2 with ⟨x, y⟩ | ⟨x, y⟩
        · rw [y, if_neg ((kt_niff _ j1 (by omega)).mpr x)]
        · rw [y, if_pos ((kt_iff _ j1 (by omega)).mpr x)]
      · rw [if_neg e, if_neg e]
theorem stR.logN (h : stR κ α τ) : k_logN κ = α 101 6 ∧ aLn α ≤ 401 := by
  obtain ⟨g1, g2, g3, g4, g5, g6⟩ := h.1.2.2.2.2.2
  have z := zcnt_le (a_learnt α) (aN α) 0
  have h4 := h.1.1.2.1.2.1.2
  unfold k_logN
  rw [h.1.1.1.1, h.1.2.2.2.2.1.2.2.2.2.2, g6, h.1.1.2.1.2.1.1, h.2.1.1, pk_sub (by omega), g1]
  rcases g2 with e | e
  · rw [if_pos e] at g3 ⊢
    rw [nI_add]; exact ⟨congrArg nI (by omega), by omega⟩
  · have ne : ¬ α 101 7 = 0 := by rw [e]; decide
    rw [if_neg ne] at g3 ⊢
    rw [nI_add]; exact ⟨congrArg nI (by omega), by omega⟩
theorem y_count (h : zI k κ α τ) (w : Int32) : zCall E zI k κ α τ mX8_count mX9_count [.int w] := by
  have hW := h.1.1.1.2.1
  have kW := h.1.1.1.2.2.2
  obtain ⟨t, t1, t2, t3, t4, t5⟩ := h.2.1
  obtain ⟨D, d1, d2, d3, d4, d5⟩ := h.1.2.2.2.2.2
  obtain ⟨F, f1, f2, f3, f4, f5⟩ := h.1.2.2.2.2.1
  obtain ⟨m1, m2, m3, m4, m5, m6⟩ := h.1.1.2.2.2.2.1
  refine .mk (fun d => s_count d w kW.1.1 kW.1.2) (fun d => t_count d w hW.2.1.1 hW.2.1.2) (by decide) (by decide) ?_ h.a0
  unfold k_count a_count
  by_cases e : (decide (nI 0 ≤ w) && decide (w ≤ nI 14)) = true
  · rw [if_pos e, if_pos e]
    simp only [Bool.and_eq_true, decide_eq_true_eq] at e
    obtain ⟨j, hj, rfl⟩ := nI_of2 (x := w) (M := nI 14) (n := 14) (by decide) (Int32.not_lt.mpr e.1) e.2
    rw [nI_clamp (show j < 2 ^ 31 by omega)]
    have hj' : j = 0 ∨ j = 1 ∨ j = 2 ∨ j = 3 ∨ j = 4 ∨ j = 5 ∨ j = 6 ∨ j = 7 ∨ j = 8 ∨ j = 9 ∨ j = 10 ∨ j = 11 ∨ j = 12 ∨ j = 13 ∨ j = 14 := by omega
    rcases hj' with rfl | rfl | rfl | rfl | rfl | rfl | rfl | rfl | rfl | rfl | rfl | rfl | rfl | rfl | rfl
    · exact h.1.1.2.1.1
    · exact h.1.1.1.1.1
    · exact m6
    · show nI (zcnt (fun i => decide (κ 14 i = nI 1)) 0 (kN κ)) = nI (a_lmany α)
      unfold a_lmany
      rw [h.1.1.1.1.n]
      refine congrArg nI (zcnt_congr (fun c _ hc => ?_))
      rcases (h.1.1.1.1.2 c (by omega)).2.2.2 with ⟨x, y⟩ | ⟨x, y⟩ | ⟨x, y⟩ <;> rw [x, y] <;> rfl
    · show κ 19 1 = α 101 3; rw [d2, d3]
    · show κ 17 1 = α 101 4; rw [f2, f3]
    · exact m1
    · exact h.1.logN.1
    · show (if κ 10 7 = 0 then nI 0 else nI 1) = α 101 7
      rw [h.1.2.1.1]
      rcases h.1.1.2.2.2.2.2.2.1 with x | x
      · rw [if_pos x, x]; rfl
      · rw [if_neg (by rw [x]; decide), x]
    · show κ 5 5 = α 100 22; rw [t2, t3]
    · exact m2
    · exact m3
    · exact m4
    · exact m5
    · exact h.1.2.1.2.1
  · rw [if_neg e, if_neg e]
theorem y_end (h : zI k κ α τ) (n : Int32) : zCall E zI k κ α τ mX8_end mX9_end [.int n] := by
  obtain ⟨t, t1, t2, t3, t4, t5⟩ := h.2.1
  by_cases e : n < 0 ∨ κ 5 5 < n
  · have ek : k_end κ n = (nI 0, κ) := by unfold k_end; rw [if_pos e]
    have ea : a_end α n = (nI 0, a0 α) := by
      unfold a_end
      rw [if_neg]
      intro x
      simp only [Bool.and_eq_true, decide_eq_true_eq] at x
      rw [t2] at e
      rw [t3] at x
      rcases e with e | e
      · exact absurd x.1 (Int32.not_le.mpr e)
      · exact absurd x.2 (Int32.not_le.mpr e)
    refine .mk (fun d => s_end d n) (fun d => t_end d n) (by decide) (by decide) (by rw [ek, ea]) ?_
    rw [ek, ea]; exact h.a0
  · have ek : k_end κ n = (nI 1, zup κ 5 5 n) := by unfold k_end; rw [if_neg e]
    have e0 : ¬ n < 0 := fun x => e (.inl x)
    have e1 : n ≤ nI t := by rw [t2] at e; exact Int32.not_lt.mp (fun x => e (.inr x))
    have ea : a_end α n = (nI 1, zup (a0 α) 100 22 n) := by
      unfold a_end
      rw [if_pos]
      simp only [Bool.and_eq_true, decide_eq_true_eq]
      rw [t3]; exact ⟨Int32.not_lt.mp e0, e1⟩
    obtain ⟨j, hj, rfl⟩ := nI_of e0
    have j2 := (nI_leI hj (by omega)).mp e1
    refine .mk (fun d => s_end d _) (fun d => t_end d _) (by decide) (by decide) (by rw [ek, ea]) ?_
    rw [ek, ea]
    have fa : ∀ p i, ¬ (p = 100 ∧ (i = 0 ∨ i = 22)) → zup (a0 α) 100 22 (nI j) p i = α p i := fun p i x => (if_neg (by omega)).trans (a0_p (by omega))
    have fk : ∀ p i, ¬ (p = 5 ∧ i = 5) → zup κ 5 5 (nI j) p i = κ p i := fun p i x => if_neg x
    show zI (k + 1) (zup κ 5 5 (nI j)) (zup (a0 α) 100 22 (nI j)) τ
    refine h.fr (h.1.of (fun p a b => funext fun i => fk p i (by omega)) (fun i _ => fa 101 i (by omega)) rfl) ⟨j, by omega, zup_same _ _ _ _, zup_same _ _ _ _, fun i hi => ?_, ?_⟩ (fun p i hp => fk p i (by omega)) (fun p i hp => fa p i (by omega)) tG.rf (fa 101 2 (by omega))
    · rw [fk 77 i (by omega), fa 121 i (by omega)]; exact t4 i (by omega)
    · rw [fk 5 6 (by omega), fa 100 25 (by omega)]; exact t5
end C1
