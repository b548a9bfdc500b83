/-! the reader: all passes, both alike -/
section RF
variable {κ α α' a : Nat → Nat → Int32} {τ : (Nat → Nat → Int64) × (Nat → Nat)} {p q : Int32}
theorem acL_f {n k : Nat} : k_acL a n k (p, q, false) = false := by
  cases k with
  | zero => rfl
  | succ k => rfl
theorem rf_sim (h : stR κ α τ) (hT : rdT κ α a) {k : Nat} (hk : k ≤ zcnt (a_learnt α) 0 (aN α)) (hK : rdK κ α a k) : ∀ n (α' : Nat → Nat → Int32) p q, α' 101 = α 101 → asR p q (α' 105) → (a_rf k 0 n α').1 = k_acL a (zcnt (zNl α) 0 (aN α) + k) n (p, q, true)
  | 0, α', p, q, _, _ => rfl
  | n + 1, α', p, q, e, has => by
    have eN : aN α' = aN α := by unfold aN; rw [e]
    have C := pC_sim h hT (aN α) 0 false α' p q (Nat.zero_add _) e has
    show (match a_pC (aN α') 0 false α' with
      | (true, _, β) => (true, β)
      | (false, mo, β) => match a_pL k 0 mo β with
        | (true, _, γ) => (true, γ)
        | (false, mo, γ) => match a_pR 0 0 mo γ with
          | (true, _, δ) => (true, δ)
          | (false, true, δ) => a_rf k 0 n δ
          | (false, false, δ) => (false, δ)).1 = (match k_acI a (zcnt (zNl α) 0 (aN α) + k) 0 (p, q, false) with | none => true | some y => k_acL a (zcnt (zNl α) 0 (aN α) + k) n y)
    rw [eN, acI_add]
    rcases C with ⟨c1, c2⟩ | ⟨mo, β, p', q', c1, c2, c3, c4⟩
    · have c2 : k_acI a (zcnt (zNl α) 0 (aN α)) 0 (p, q, false) = none := c2
      rw [c2]
      generalize a_pC (aN α) 0 false α' = X at c1
      obtain ⟨x, y, z⟩ := X
      have c1 : x = true := c1
      subst c1; rfl
    · have c2 : k_acI a (zcnt (zNl α) 0 (aN α)) 0 (p, q, false) = some (p', q', mo) := c2
      rw [c1, c2]
      show (match a_pL k 0 mo β with
        | (true, _, γ) => (true, γ)
        | (false, mo, γ) => match a_pR 0 0 mo γ with
          | (true, _, δ) => (true, δ)
          | (false, true, δ) => a_rf k 0 n δ
          | (false, false, δ) => (false, δ)).1 = (match k_acI a k (0 + zcnt (zNl α) 0 (aN α)) (p', q', mo) with | none => true | some y => k_acL a (zcnt (zNl α) 0 (aN α) + k) n y)
      rw [Nat.zero_add]
      rcases pL_sim h hk hK k 0 mo β p' q' (Nat.zero_add _) c4 c3 with ⟨d1, d2⟩ | ⟨mo', γ, p2, q2, d1, d2, d3, d4⟩
      · have d2 : k_acI a k (zcnt (zNl α) 0 (aN α)) (p', q', mo) = none := d2
        rw [d2]
        generalize a_pL k 0 mo β = X at d1
        obtain ⟨x, y, z⟩ := X
        have d1 : x = true := d1
        subst d1; rfl
      · have d2 : k_acI a k (zcnt (zNl α) 0 (aN α)) (p', q', mo) = some (p2, q2, mo') := d2
        rw [d1, d2]
        cases mo' with
        | true => exact rf_sim h hT hk hK n γ p2 q2 d4 d3
        | false => show false = _; exact acL_f.symm
/-- all literals of a clause made false -/
theorem ng_is {f : Nat → Int32} : ∀ m (β : Nat → Nat → Int32), (∀ i, i < m → lok 30 (f i)) → (∀ v, 1 ≤ v → v ≤ 30 → (∀ i, i < m → ¬ zv (f i) = v) → zit (a_ngF f) 0 m β 105 v = β 105 v) ∧ (∀ i, i < m → (∀ j, i < j → j < m → ¬ zv (f i) = zv (f j)) → zit (a_ngF f) 0 m β 105 (zv (f i)) = if 0 < -(f i) then nI 1 else -1) ∧ zit (a_ngF f) 0 m β 101 = β 101
  | 0, β, _ => ⟨fun v _ _ _ => rfl, fun i hi => by omega, rfl⟩
  | m + 1, β, hl => by
    obtain ⟨i1, i2, i3⟩ := ng_is (f := f) m β (fun i hi => hl i (by omega))
    rw [zit_succ, Nat.zero_add]
    generalize zit (a_ngF f) 0 m β = b at i1 i2 i3
    have ez := zv_neg (hl m (by omega))
    unfold a_ngF
    refine ⟨fun v v1 v2 hn => ?_, fun i hi hd => ?_, (funext fun j => a_comes_at (by omega)).trans i3⟩
    · rw [a_comes_105 v, ez, if_neg (fun x => hn m (by omega) x.symm)]
      exact i1 v v1 v2 (fun i hi => hn i (by omega))
    · rw [a_comes_105 (zv (f i)), ez]
      by_cases e : i = m
      · subst e; rw [if_pos rfl]
      · rw [if_neg (hd m (by omega) (by omega))]
        exact i2 i (by omega) (fun j a b => hd j a (by omega))
end RF
