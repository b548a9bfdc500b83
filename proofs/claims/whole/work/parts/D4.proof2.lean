/-! proof, as a call -/
section PG
variable {E : zEnv} {κ α α' a : Nat → Nat → Int32} {τ : (Nat → Nat → Int64) × (Nat → Nat)} {k : Nat}
theorem ngP_off (β : Nat → Nat → Int32) (k : Nat) : zoff aSc β (a_ngP β k) ∧ zo1 β (a_ngP β k) := by
  unfold a_ngP
  split
  · exact ⟨a_emp_off β, zo1_emp β⟩
  · exact ⟨(a_emp_off β).tr (zit_off _ (fun k a => a_ngF_off _ k a) _ _ _), (zo1_emp β).tr (zo1_it _ (fun k a => zo1_comes a _ _) _ _ _)⟩
theorem emp_105 (β : Nat → Nat → Int32) {v : Nat} (h : v ≤ 30) : a_emp β 105 v = 0 := a_empL_at 31 0 _ v (by omega) (by omega)
theorem tz_le (h : stR κ α τ) {i : Nat} (hi : i ≤ aN α) : zcnt (zNl α) 0 (aN α) + zcnt (a_learnt α) 0 i ≤ aN α := by
  have e := zcnt_or (p := zNl α) (q := a_learnt α) (fun v x => by unfold zNl at x; cases y : a_learnt α v with | false => rfl | true => rw [y] at x; exact absurd x (by decide)) (aN α) 0
  have l := zcnt_le (fun v => zNl α v || a_learnt α v) (aN α) 0
  have z := zcnt_add (a_learnt α) i 0 (aN α - i)
  rw [show i + (aN α - i) = aN α from by omega] at z
  omega
theorem fr_sim (h : stR κ α τ) : ∀ m i (α' a : Nat → Nat → Int32), i + m = aN α → zoff aSc α α' → rdT κ α a → rdK κ α a (zcnt (a_learnt α) 0 i) → a 4 2 = nI (zcnt (zNl α) 0 (aN α) + zcnt (a_learnt α) 0 i) →
    (k_frL κ m i (zcnt (a_learnt α) 0 i) a).1 = zon (a_pf (aLn α - zcnt (a_learnt α) 0 i) (zcnt (a_learnt α) 0 i) α').1 ∧ (∀ p, ¬ p = 4 → ¬ p = 75 → ¬ p = 76 → (k_frL κ m i (zcnt (a_learnt α) 0 i) a).2 p = a p) ∧ zoff aSc α' (a_pf (aLn α - zcnt (a_learnt α) 0 i) (zcnt (a_learnt α) 0 i) α').2 ∧ zo1 α' (a_pf (aLn α - zcnt (a_learnt α) 0 i) (zcnt (a_learnt α) 0 i) α').2
  | 0, i, α', a, hi, ho, hT, hK, h42 => by
    have h4 := h.1.1.2.1.2.1.2
    have ei : i = aN α := by omega
    subst ei
    obtain ⟨g1, g2, g3, g4, g5, g6⟩ := h.1.2.2.2.2.2
    have o7 := h.2.1.1
    have tz := tz_le h (Nat.le_refl (aN α))
    have krn : k_rn a = zcnt (zNl α) 0 (aN α) + zcnt (a_learnt α) 0 (aN α) := by unfold k_rn; rw [h42]; exact nI_clamp (by omega)
    unfold k_frL
    by_cases e : α 101 7 = 0
    · rw [if_pos e] at g3
      rw [if_pos (by rw [o7]; exact e), show aLn α - zcnt (a_learnt α) 0 (aN α) = 0 from by omega]
      exact ⟨rfl, fun _ _ _ _ => rfl, zoff.rf, zo1.rf⟩
    · rw [if_neg e] at g3
      rw [if_neg (by rw [o7]; exact e), show aLn α - zcnt (a_learnt α) 0 (aN α) = 0 + 1 from by omega]
      have en : a_ngP α' (zcnt (a_learnt α) 0 (aN α)) = a_emp α' := by unfold a_ngP; rw [ho.at (by decide), if_pos (g5 e)]
      have e101 : a_emp α' 101 = α 101 := (a_emp_off α' 101 (by decide)).trans (ho 101 (by decide))
      have rs := rf_sim h hT (Nat.le_refl _) hK 31 (a_emp α') (nI 0) (nI 0) e101 (asR_0 (fun v _ v2 => emp_105 α' v2))
      have ek : k_acc a (nI 0) (nI 0) = (a_rf (zcnt (a_learnt α) 0 (aN α)) 0 31 (a_emp α')).1 := by unfold k_acc; rw [krn]; exact rs.symm
      have oo := (a_emp_off α').tr (a_rf_off (zcnt (a_learnt α) 0 (aN α)) 0 31 (a_emp α'))
      have o1 := (zo1_emp α').tr (zo1_rf (zcnt (a_learnt α) 0 (aN α)) 0 31 (a_emp α'))
      unfold a_pf
      rw [en, ek]
      cases x : (a_rf (zcnt (a_learnt α) 0 (aN α)) 0 31 (a_emp α')).1 with
      | true => rw [if_pos rfl, if_pos rfl]; exact ⟨rfl, fun _ _ _ _ => rfl, oo, o1⟩
      | false => rw [if_neg (by decide), if_neg (by decide)]; exact ⟨rfl, fun _ _ _ _ => rfl, oo, o1⟩
  | m + 1, i, α', a, hi, ho, hT, hK, h42 => by
    have h4 := h.1.1.2.1.2.1.2
    have lp := h.lp (c := i) (by omega)
    have zs := zcnt_succ (a_learnt α) 0 i
    rw [Nat.zero_add] at zs
    unfold k_frL
    by_cases e : κ 14 i = 0
    · have el : a_learnt α i = false := by rw [← lp]; exact decide_eq_false (fun x => x e)
      rw [if_pos e]
      have ez : zcnt (a_learnt α) 0 (i + 1) = zcnt (a_learnt α) 0 i := by rw [zs, el]; rfl
      have ih := fr_sim h m (i + 1) α' a (by omega) ho hT (by rw [ez]; exact hK) (by rw [ez]; exact h42)
      rw [ez] at ih
      exact ih
    · have el : a_learnt α i = true := by rw [← lp]; exact decide_eq_true e
      rw [if_neg e]
      have ez : zcnt (a_learnt α) 0 (i + 1) = zcnt (a_learnt α) 0 i + 1 := by rw [zs, el]; rfl
      obtain ⟨g1, g2, g3, g4, g5, g6⟩ := h.1.2.2.2.2.2
      have zi := zcnt_add (a_learnt α) (i + 1) 0 (aN α - (i + 1))
      rw [show i + 1 + (aN α - (i + 1)) = aN α from by omega] at zi
      have tz := tz_le h (i := i + 1) (by omega)
      have lt : zcnt (a_learnt α) 0 i < aLn α := by omega
      have krn : k_rn a = zcnt (zNl α) 0 (aN α) + zcnt (a_learnt α) 0 i := by unfold k_rn; rw [h42]; exact nI_clamp (by omega)
      have ln := g4 i (by omega) el
      rw [show aLn α - zcnt (a_learnt α) 0 i = (aLn α - zcnt (a_learnt α) 0 (i + 1)) + 1 from by omega]
      have en : a_ngP α' (zcnt (a_learnt α) 0 i) = zit (a_ngF (aL α i)) 0 (aS α i) (a_emp α') := by
        unfold a_ngP
        rw [ho.at (by decide), ln, if_neg (m3_ne (by omega)).1, nI_clamp (show i < 2 ^ 31 by omega)]
        rw [show aL α' i = aL α i from by unfold aL; rw [ho 101 (by decide)], show aS α' i = aS α i from by unfold aS; rw [ho 101 (by decide)]]
      have e101 : a_ngP α' (zcnt (a_learnt α) 0 i) 101 = α 101 := ((ngP_off α' _).1 101 (by decide)).trans (ho 101 (by decide))
      have as := asR_ng h (c := i) (by omega) (β := a_emp α') (fun v _ v2 => emp_105 α' v2)
      rw [← en] at as
      have rs := rf_sim h hT (k := zcnt (a_learnt α) 0 i) (by omega) hK 31 (a_ngP α' (zcnt (a_learnt α) 0 i)) (κ 13 i) (κ 12 i) e101 as
      have ek : k_acc a (κ 12 i) (κ 13 i) = (a_rf (zcnt (a_learnt α) 0 i) 0 31 (a_ngP α' (zcnt (a_learnt α) 0 i))).1 := by unfold k_acc; rw [krn]; exact rs.symm
      have oo := (ngP_off α' (zcnt (a_learnt α) 0 i)).1.tr (a_rf_off (zcnt (a_learnt α) 0 i) 0 31 (a_ngP α' (zcnt (a_learnt α) 0 i)))
      have o1 := (ngP_off α' (zcnt (a_learnt α) 0 i)).2.tr (zo1_rf (zcnt (a_learnt α) 0 i) 0 31 (a_ngP α' (zcnt (a_learnt α) 0 i)))
      rw [show a_pf (aLn α - zcnt (a_learnt α) 0 (i + 1) + 1) (zcnt (a_learnt α) 0 i) α' = (if (a_rf (zcnt (a_learnt α) 0 i) 0 31 (a_ngP α' (zcnt (a_learnt α) 0 i))).1 = true then a_pf (aLn α - zcnt (a_learnt α) 0 (i + 1)) (zcnt (a_learnt α) 0 i + 1) (a_rf (zcnt (a_learnt α) 0 i) 0 31 (a_ngP α' (zcnt (a_learnt α) 0 i))).2 else (some (zcnt (a_learnt α) 0 i), (a_rf (zcnt (a_learnt α) 0 i) 0 31 (a_ngP α' (zcnt (a_learnt α) 0 i))).2)) from rfl, ek]
      generalize a_rf (zcnt (a_learnt α) 0 i) 0 31 (a_ngP α' (zcnt (a_learnt α) 0 i)) = X at oo o1
      obtain ⟨x, β⟩ := X
      cases x with
      | false => rw [if_neg (fun x => absurd (show false = true from x) (by decide)), if_neg (fun x => absurd (show false = true from x) (by decide))]; exact ⟨rfl, fun _ _ _ _ => rfl, oo, o1⟩
      | true =>
        rw [if_pos rfl, if_pos rfl, ← ez]
        have oo : zoff aSc α' β := oo
        have o1 : zo1 α' β := o1
        obtain ⟨t1, t2, t3, t4, t5⟩ := take_is (x := κ 12 i) (y := κ 13 i) h42 (by omega)
        have hT' : rdT κ α (k_take a (κ 12 i) (κ 13 i)) := fun c hc hl => by
          have hne : ¬ zcnt (zNl α) 0 c = zcnt (zNl α) 0 (aN α) + zcnt (a_learnt α) 0 i := by
            have := zcnt_add (zNl α) (c + 1) 0 (aN α - (c + 1))
            rw [show c + 1 + (aN α - (c + 1)) = aN α from by omega, zcnt_succ, Nat.zero_add] at this
            have h1 : (bif zNl α c then 1 else 0) = 1 := by unfold zNl; rw [hl]; rfl
            omega
          obtain ⟨x, y⟩ := t4 _ hne
          rw [x, y]; exact hT c hc hl
        have hK' : rdK κ α (k_take a (κ 12 i) (κ 13 i)) (zcnt (a_learnt α) 0 (i + 1)) := fun c hc hl hlt => by
          rw [ez] at hlt
          by_cases ec : zcnt (a_learnt α) 0 c = zcnt (a_learnt α) 0 i
          · have e2 : c = i := by
              rcases Nat.lt_trichotomy c i with y | y | y
              · have := zcnt_add (a_learnt α) (c + 1) 0 (i - (c + 1))
                rw [show c + 1 + (i - (c + 1)) = i from by omega, zcnt_succ, Nat.zero_add, hl] at this
                have h1 : (bif true then 1 else 0) = 1 := rfl
                omega
              · exact y
              · have := zcnt_add (a_learnt α) (i + 1) 0 (c - (i + 1))
                rw [show i + 1 + (c - (i + 1)) = c from by omega] at this
                omega
            subst e2; exact ⟨t1, t2⟩
          · obtain ⟨x, y⟩ := t4 _ (show ¬ zcnt (zNl α) 0 (aN α) + zcnt (a_learnt α) 0 c = zcnt (zNl α) 0 (aN α) + zcnt (a_learnt α) 0 i by omega)
            rw [x, y]; exact hK c hc hl (by omega)
        have h42' : k_take a (κ 12 i) (κ 13 i) 4 2 = nI (zcnt (zNl α) 0 (aN α) + zcnt (a_learnt α) 0 (i + 1)) := by rw [t3, ez]; exact congrArg nI (by omega)
        obtain ⟨r1, r2, r3, r4⟩ := fr_sim h m (i + 1) β (k_take a (κ 12 i) (κ 13 i)) (by omega) (ho.tr oo) hT' hK' h42'
        exact ⟨r1, fun p p1 p2 p3 => (r2 p p1 p2 p3).trans (t5 p p1 p2 p3), oo.tr r3, o1.tr r4⟩
theorem y_proof (h : zI k κ α τ) : zCall E zI k κ α τ mX8_proof mX9_proof [] := by
  have hW := h.1.1.1.2.1
  have kW := h.1.1.1.2.2.2
  obtain ⟨t1, t2, t3⟩ := told_rows h.1 (aN α) (Nat.le_refl _)
  have hb : ∃ b : Bool, κ 10 7 = zbo b := by
    rcases h.1.1.2.2.2.2.2.2.1 with x | x
    · exact ⟨false, by rw [h.1.2.1.1, x]; rfl⟩
    · exact ⟨true, by rw [h.1.2.1.1, x]; rfl⟩
  obtain ⟨b, hb⟩ := hb
  have a0o : zoff aSc α (a0 α) := fun p hp => funext fun j => a0_p (fun x => hp (by rw [x.1]; decide))
  have et : k_told κ = zit (k_tdF κ) 0 (aN α) (zup κ 4 2 (nI 0)) := by unfold k_told; rw [h.1.1.1.1.n]
  obtain ⟨r1, r2, r3, r4⟩ := fr_sim h.1 (aN α) 0 (a0 α) (k_told κ) (Nat.zero_add _) a0o (by rw [et]; exact fun c hc hl => t2 c hc hl) (fun c hc hl hlt => absurd hlt (Nat.not_lt_zero _)) (by rw [et]; exact t1)
  have r1 : (k_frL κ (aN α) 0 0 (k_told κ)).1 = zon (a_pf (aLn α) 0 (a0 α)).1 := r1
  have r2 : ∀ p, ¬ p = 4 → ¬ p = 75 → ¬ p = 76 → (k_frL κ (aN α) 0 0 (k_told κ)).2 p = k_told κ p := r2
  have r3 : zoff aSc (a0 α) (a_pf (aLn α) 0 (a0 α)).2 := r3
  have r4 : zo1 (a0 α) (a_pf (aLn α) 0 (a0 α)).2 := r4
  have ek : k_first_ref κ = k_frL κ (aN α) 0 0 (k_told κ) := by unfold k_first_ref; rw [h.1.1.1.1.n]
  have h119 := h.2.2.2.2.2
  refine .mk (fun d => s_proof d b hb kW.1.1 kW.1.2) (fun d => t_proof d hW h.1.1.1.2.2.1 h.1.aWL ⟨by decide, fun j hj => ?_, fun j hj => by omega, fun j hj => by omega⟩) (by decide) (by decide) (by rw [ek]; exact r1) ?_
  · have : j = 0 := by omega
    subst this
    have e : aF α 0 = 0 := by unfold aF; rw [h119]; rfl
    rw [e]; exact ⟨h119, by decide⟩
  · rw [ek]
    exact h.same (fun p hp => (r2 p (by omega) (by omega) (by omega)).trans (by rw [et]; exact t3 p (by omega) (by omega) (by omega))) (fun p hp => (r3 p (by simp [aSc]; omega)).trans (funext fun j => a0_p (by omega))) ((r4 22 (by decide) (by decide)).trans (a0_p (by omega))) ((r4 25 (by decide) (by decide)).trans (a0_p (by omega))) tG.rf rfl
end PG
