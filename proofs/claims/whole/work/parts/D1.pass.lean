/-! the reader: a pass over told clauses and lines, both alike -/
section PA
variable {κ α α' a : Nat → Nat → Int32} {τ : (Nat → Nat → Int64) × (Nat → Nat)} {p q : Int32}
def zNl (α : Nat → Nat → Int32) (c : Nat) : Bool := !a_learnt α c
theorem cl_sim (h : stR κ α τ) (e : α' 101 = α 101) {c i : Nat} (hc : c < aN α) (h5 : a 75 i = κ 12 c) (h6 : a 76 i = κ 13 c) (has : asR p q (α' 105)) (mo : Bool) :
    (a_open α' c = 0 ∧ k_acF a i (p, q, mo) = none) ∨ (¬ a_open α' c = 0 ∧ ∃ p' q', k_acF a i (p, q, mo) = some (p', q', mo || Nat.beq (a_open α' c) 1) ∧ asR p' q' (a_dF α' c 105) ∧ a_dF α' c 101 = α 101) := by
  have hW : aW α' := by have := h.1.1.2.1; unfold aW aV aN aS aL at *; rw [e]; exact this
  have eN : aN α' = aN α := by unfold aN; rw [e]
  have eS : aS α' c = aS α c := by unfold aS; rw [e]
  have eL : aL α' c = aL α c := by unfold aL; rw [e]
  have hc' : c < aN α' := by rw [eN]; exact hc
  have hm : mR (a 75 i) (a 76 i) (aS α' c) (aL α' c) := by rw [h5, h6, eS, eL]; exact (h.1.1.1.2 c hc).1
  have hf : ∀ k, k < aS α' c → lok 30 (aL α' c k) := fun k hk => hW.lok30 hc' hk
  have hd : ∀ i j, i < j → j < aS α' c → ¬ zv (aL α' c i) = zv (aL α' c j) := by rw [eS, eL]; exact h.1.1.2.2.1 c hc
  obtain ⟨f1, f2⟩ := ac_F (a := a) (i := i) (dr := mo) hm hf hd has
  rcases a_open_is hW hc' with ⟨⟨k, k1, k2⟩, o⟩ | ⟨ns, o⟩
  · right
    have n0 : ¬ a_open α' c = 0 := by rw [o]; decide
    have n1 : ¬ a_open α' c = 1 := by rw [o]; decide
    refine ⟨n0, p, q, ?_, ?_, ?_⟩
    · rw [o]; show _ = some (p, q, mo || false); rw [Bool.or_false]; exact f1 ⟨k, k1, k2⟩
    · unfold a_dF; rw [if_neg n1]; exact has
    · unfold a_dF; rw [if_neg n1]; exact e
  · obtain ⟨g0, g1, g2⟩ := f2 ns
    have o' : a_open α' c = zcnt (fun k => decide (ztr (α' 105) (aL α' c k) = 0)) 0 (aS α' c) := o
    by_cases z0 : a_open α' c = 0
    · exact .inl ⟨z0, g0 (by rw [← o']; exact z0)⟩
    · right
      refine ⟨z0, ?_⟩
      by_cases z1 : a_open α' c = 1
      · have c1 : zcnt (fun k => decide (ztr (α' 105) (aL α' c k) = 0)) 0 (aS α' c) = 1 := by rw [← o']; exact z1
        obtain ⟨k, k1, k2, k3, k4⟩ := a_one hW hc' z1
        refine ⟨p ||| a 75 i &&& mOp (a 75 i) (a 76 i) p q, q ||| a 76 i &&& mOp (a 75 i) (a 76 i) p q, ?_, ?_, ?_⟩
        · rw [z1]; show _ = some (_, _, mo || true); rw [Bool.or_true]; exact g1 c1
        · unfold a_dF
          rw [if_pos z1, k2]
          exact ac_put hm hf hd has c1 k1 k3 (fun u => a_comes_105 u)
        · unfold a_dF; rw [if_pos z1]; exact (funext fun j => a_comes_at (by omega)).trans e
      · refine ⟨p, q, ?_, ?_, ?_⟩
        · have : Nat.beq (a_open α' c) 1 = false := by
            cases x : Nat.beq (a_open α' c) 1 with
            | false => rfl
            | true => exact absurd (Nat.eq_of_beq_eq_true x) z1
          rw [this, Bool.or_false]
          exact g2 (by rw [← o']; exact z0) (by rw [← o']; exact z1)
        · unfold a_dF; rw [if_neg z1]; exact has
        · unfold a_dF; rw [if_neg z1]; exact e
/-- where the told clauses stand in the reader's rows -/
def rdT (κ α a : Nat → Nat → Int32) : Prop := ∀ c, c < aN α → a_learnt α c = false → a 75 (zcnt (zNl α) 0 c) = κ 12 c ∧ a 76 (zcnt (zNl α) 0 c) = κ 13 c
/-- and the first k lines -/
def rdK (κ α a : Nat → Nat → Int32) (k : Nat) : Prop := ∀ c, c < aN α → a_learnt α c = true → zcnt (a_learnt α) 0 c < k → a 75 (zcnt (zNl α) 0 (aN α) + zcnt (a_learnt α) 0 c) = κ 12 c ∧ a 76 (zcnt (zNl α) 0 (aN α) + zcnt (a_learnt α) 0 c) = κ 13 c
theorem pC_sim (h : stR κ α τ) (hT : rdT κ α a) : ∀ m c mo (α' : Nat → Nat → Int32) p q, c + m = aN α → α' 101 = α 101 → asR p q (α' 105) →
    ((a_pC m c mo α').1 = true ∧ k_acI a (zcnt (zNl α) c m) (zcnt (zNl α) 0 c) (p, q, mo) = none) ∨ (∃ mo' β p' q', a_pC m c mo α' = (false, mo', β) ∧ k_acI a (zcnt (zNl α) c m) (zcnt (zNl α) 0 c) (p, q, mo) = some (p', q', mo') ∧ asR p' q' (β 105) ∧ β 101 = α 101)
  | 0, c, mo, α', p, q, _, e, has => .inr ⟨mo, α', p, q, rfl, rfl, has, e⟩
  | m + 1, c, mo, α', p, q, hm, e, has => by
    have el : a_learnt α' c = a_learnt α c := by unfold a_learnt; rw [e]
    have zs := zcnt_succ (zNl α) 0 c
    rw [Nat.zero_add] at zs
    unfold a_pC
    rw [el]
    cases hl : a_learnt α c with
    | true =>
      rw [if_pos rfl]
      have e1 : zcnt (zNl α) c (m + 1) = zcnt (zNl α) (c + 1) m := by
        show (bif zNl α c then 1 else 0) + zcnt (zNl α) (c + 1) m = _
        unfold zNl; rw [hl]; exact Nat.zero_add _
      have e2 : zcnt (zNl α) 0 (c + 1) = zcnt (zNl α) 0 c := by rw [zs]; unfold zNl; rw [hl]; rfl
      rw [e1, ← e2]
      exact pC_sim h hT m (c + 1) mo α' p q (by omega) e has
    | false =>
      rw [if_neg (by decide)]
      have e1 : zcnt (zNl α) c (m + 1) = zcnt (zNl α) (c + 1) m + 1 := by
        show (bif zNl α c then 1 else 0) + zcnt (zNl α) (c + 1) m = _
        unfold zNl; rw [hl]; exact Nat.add_comm _ _
      have e2 : zcnt (zNl α) 0 (c + 1) = zcnt (zNl α) 0 c + 1 := by rw [zs]; unfold zNl; rw [hl]; rfl
      rw [e1]
      obtain ⟨t5, t6⟩ := hT c (by omega) hl
      show (_ ∧ (match k_acF a (zcnt (zNl α) 0 c) (p, q, mo) with | none => none | some y => k_acI a (zcnt (zNl α) (c + 1) m) (zcnt (zNl α) 0 c + 1) y) = none) ∨ (∃ mo' β p' q', _ ∧ (match k_acF a (zcnt (zNl α) 0 c) (p, q, mo) with | none => none | some y => k_acI a (zcnt (zNl α) (c + 1) m) (zcnt (zNl α) 0 c + 1) y) = some (p', q', mo') ∧ _ ∧ _)
      rcases cl_sim h e (by omega) t5 t6 has mo with ⟨o, k⟩ | ⟨o, p', q', k, as', e'⟩
      · rw [if_pos o, k]; exact .inl ⟨rfl, rfl⟩
      · rw [if_neg o, k, ← e2]
        exact pC_sim h hT m (c + 1) (mo || Nat.beq (a_open α' c) 1) (a_dF α' c) p' q' (by omega) e' as'
theorem pL_sim (h : stR κ α τ) {k : Nat} (hk : k ≤ zcnt (a_learnt α) 0 (aN α)) (hK : rdK κ α a k) : ∀ m j mo (α' : Nat → Nat → Int32) p q, j + m = k → α' 101 = α 101 → asR p q (α' 105) →
    ((a_pL m j mo α').1 = true ∧ k_acI a m (zcnt (zNl α) 0 (aN α) + j) (p, q, mo) = none) ∨ (∃ mo' β p' q', a_pL m j mo α' = (false, mo', β) ∧ k_acI a m (zcnt (zNl α) 0 (aN α) + j) (p, q, mo) = some (p', q', mo') ∧ asR p' q' (β 105) ∧ β 101 = α 101)
  | 0, j, mo, α', p, q, _, e, has => .inr ⟨mo, α', p, q, rfl, rfl, has, e⟩
  | m + 1, j, mo, α', p, q, hm, e, has => by
    have h4 := h.1.1.2.1.2.1.2
    have hj : j < aLn α := by have := h.1.2.2.2.2.2.2.2.1; split at this <;> omega
    rcases h.line hj with ⟨c, c1, c2, c3, c4, -⟩ | ⟨-, -, c3, -⟩
    · unfold a_pL
      rw [e, c4, if_neg (m3_ne (by omega)).1, nI_clamp (show c < 2 ^ 31 by omega)]
      obtain ⟨t5, t6⟩ := hK c c1 c2 (by omega)
      rw [c3] at t5 t6
      show (_ ∧ (match k_acF a (zcnt (zNl α) 0 (aN α) + j) (p, q, mo) with | none => none | some y => k_acI a m (zcnt (zNl α) 0 (aN α) + j + 1) y) = none) ∨ (∃ mo' β p' q', _ ∧ (match k_acF a (zcnt (zNl α) 0 (aN α) + j) (p, q, mo) with | none => none | some y => k_acI a m (zcnt (zNl α) 0 (aN α) + j + 1) y) = some (p', q', mo') ∧ _ ∧ _)
      rcases cl_sim h e c1 t5 t6 has mo with ⟨o, kk⟩ | ⟨o, p', q', kk, as', e'⟩
      · rw [if_pos o, kk]; exact .inl ⟨rfl, rfl⟩
      · rw [if_neg o, kk]
        exact pL_sim h hk hK m (j + 1) (mo || Nat.beq (a_open α' c) 1) (a_dF α' c) p' q' (by omega) e' as'
    · omega
end PA
