/-! the reference: phases, assumptions, clauses of a text; a statement; tell -/
/-- one literal of a row, into the scratch row -/
def a_ro1 (α : Nat → Nat → Int32) (n : Nat) (f : Bool) : Nat → Nat → Int32 :=
  if a_lit α true f 100 25 = 0 then zup (a_lit α true f) 127 n (a_litV α true f) else a_lit α true f
/-- a row of literals; 'must': the first one is read unseen; 'full': none may come -/
def a_roL (must full : Bool) : Nat → Nat → (Nat → Nat → Int32) → Nat × (Nat → Nat → Int32)
  | 0, n, α => (n, α)
  | m + 1, n, α => if α 100 25 = 0 then (if must = true ∧ n = 0 then a_roL must full m (n + 1) (a_ro1 α n (full || Nat.beq n 8)) else (if a_isl α = true then a_roL must full m (n + 1) (a_ro1 (a_here α) n (full || Nat.beq n 8)) else (n, a_here α))) else (n, α)
def a_cpF (b k : Nat) (a : Nat → Nat → Int32) : Nat → Nat → Int32 := zup a 101 (b + k) (a 127 k)
/-- a state in which a text is read -/
def aWR (α : Nat → Nat → Int32) : Prop := aWT α ∧ aPl α ≤ 500 ∧ α 101 0 = nI (aV α) ∧ aV α ≤ 30
theorem aWR.hp {α : Nat → Nat → Int32} (h : aWR α) : a_hp α ≤ 999 := by
  have := a_hp_max (α := α)
  have h1 := h.2.1
  have h2 := h.1.2.2.2
  omega
theorem aWR.here {α : Nat → Nat → Int32} (h : aWR α) : aWR (a_here α) := by
  have hm := a_hp_max (α := α)
  have h2 := h.1.2.2.2
  have e : a_here α 101 0 = α 101 0 := a_here_at (Or.inl (by decide))
  refine ⟨a_here_WT h.1, by rw [aPl_here h.1]; have := h.2.1; omega, ?_, ?_⟩
  · unfold aV; rw [e]; exact h.2.2.1
  · unfold aV; rw [e]; exact h.2.2.2
theorem aWR.lit {α : Nat → Nat → Int32} {u f : Bool} (h : aWR α) : aWR (a_lit α u f) := by
  have hl := (a_lit_pl (u := u) (f := f) h.1 h.hp).1
  have h2 := h.1.2.2.2
  have e : a_lit α u f 101 0 = α 101 0 := a_lit_at (by decide)
  refine ⟨a_lit_WT h.1 h.hp, by have := h.2.1; omega, ?_, ?_⟩
  · unfold aV; rw [e]; exact h.2.2.1
  · unfold aV; rw [e]; exact h.2.2.2
theorem aWR.up {α : Nat → Nat → Int32} {p i : Nat} {v : Int32} (h : aWR α) (h1 : ¬ p = 100 ∨ ¬ i = 24 ∧ ¬ i = 23) (h2 : ¬ p = 101 ∨ ¬ i = 0) : aWR (zup α p i v) := by
  have e : zup α p i v 101 0 = α 101 0 := by unfold zup; rw [if_neg (fun q => h2.elim (fun z => z q.1.symm) (fun z => z q.2.symm))]
  refine ⟨h.1.up h1, by rw [aPl_up (h1.elim Or.inl (fun q => Or.inr q.1))]; exact h.2.1, ?_, ?_⟩
  · unfold aV; rw [e]; exact h.2.2.1
  · unfold aV; rw [e]; exact h.2.2.2
theorem aWR.ph1 {α : Nat → Nat → Int32} (h : aWR α) : aWR (a_ph1 α) := by
  unfold a_ph1
  split
  · exact h.lit.up (Or.inl (by decide)) (Or.inr (by omega))
  · exact h.lit
theorem aWR.ro1 {α : Nat → Nat → Int32} {n : Nat} {f : Bool} (h : aWR α) : aWR (a_ro1 α n f) := by
  unfold a_ro1
  split
  · exact h.lit.up (Or.inl (by decide)) (Or.inl (by decide))
  · exact h.lit
section M20
variable {E : zEnv} {κ α : Nat → Nat → Int32} {τ : (Nat → Nat → Int64) × (Nat → Nat)}
theorem l_phL (d : Nat) (P : Option Value → zMem → Prop) : ∀ n first α, phOK n first α → aWR α → (aWR (a_phL n first α) → ∀ b w, zX E (d + 5) mX9_phaseTold 60 [some (.ref 100), some (.int (zbo b)), w] [] (κ, a_phL n first α, τ) P) → ∀ w, zX E (d + 5) mX9_phaseTold 2 [some (.ref 100), some (.int (zbo first)), w] [] (κ, α, τ) P := by
  intro n
  induction n with
  | zero => intro first α h; exact absurd h id
  | succ n ih =>
    intro first α h hR K w
    have body : ∀ β : Nat → Nat → Int32, aWR β → phOK n false (a_ph1 β) → (aWR (a_phL n false (a_ph1 β)) → ∀ b w, zX E (d + 5) mX9_phaseTold 60 [some (.ref 100), some (.int (zbo b)), w] [] (κ, a_phL n false (a_ph1 β), τ) P) → ∀ b, zX E (d + 5) mX9_phaseTold 20 [some (.ref 100), some (.int (zbo b)), w] [] (κ, β, τ) P := by
      intro β hRb hOK K2 b
      refine x_aload_n (pc := 20) 0 dX9_phaseTold_20 rfl rfl ?_
      refine x_iconst (pc := 21) (nI 0) dX9_phaseTold_21 (by decide) ?_
      refine x_iconst (pc := 22) (nI 0) dX9_phaseTold_22 (by decide) ?_
      refine x_callV2i (pc := 23) dX9_phaseTold_23 lX9_229 (zat_b rfl rfl) rfl (t_lit d false false hRb.1 hRb.hp hRb.2.2.1 hRb.2.2.2) (Nat.le_of_ble_eq_true rfl) (Or.inl zgr) ?_
      refine x_istore_n (pc := 26) 2 dX9_phaseTold_26 rfl (by decide) rfl ?_
      refine x_aload_n (pc := 27) 0 dX9_phaseTold_27 rfl rfl ?_
      refine x_geti_h (pc := 28) dX9_phaseTold_28 fX9_220 (zat_b rfl rfl) rfl rfl ?_
      by_cases hf : a_lit β false false 100 25 = 0
      · obtain ⟨-, hl⟩ := a_litV_lok hRb.1 hRb.hp hRb.2.2.1 hRb.2.2.2 hf
        have h30 := hRb.2.2.2
        obtain ⟨g1, g2, g3, g4, g5⟩ := hl.is h30
        have e : ∀ x, x = (if 0 < a_litV β false false then nI 1 else nI 0) → zup (a_lit β false false) 101 (32 + zv (a_litV β false false)) x = a_ph1 β := by
          intro x hx
          unfold a_ph1
          rw [if_pos hf, hx]
        refine x_if_ne_f (pc := 31) 55 dX9_phaseTold_31 (by decide) (hf) ?_
        refine x_aload_n (pc := 34) 0 dX9_phaseTold_34 rfl rfl ?_
        refine x_getr (pc := 35) (101) dX9_phaseTold_35 fX9_7 (zat_b rfl rfl) rfl ?_
        refine x_bipush (pc := 38) (nI 32) dX9_phaseTold_38 (by decide) ?_
        refine x_iload_n (pc := 40) 2 dX9_phaseTold_40 rfl rfl ?_
        refine x_callS1i (pc := 41) dX9_phaseTold_41 lX9_71 (t_size (d + 3) _) (Nat.le_of_ble_eq_true rfl) (Or.inl zgr) ?_
        refine x_iadd (pc := 44) dX9_phaseTold_44 ?_
        refine x_iload_n (pc := 45) 2 dX9_phaseTold_45 rfl rfl ?_
        by_cases hp : 0 < a_litV β false false
        ·
          refine x_if_le_f (pc := 46) 53 dX9_phaseTold_46 (by decide) (Int32.not_le.mpr hp) ?_
          refine x_iconst (pc := 49) (nI 1) dX9_phaseTold_49 (by decide) ?_
          refine x_goto (pc := 50) 54 dX9_phaseTold_50 (by decide) ?_
          have hj54 : 32 + zv (a_litV β false false) < 13326 := by omega
          refine x_iast_h (pc := 54) (32 + zv (a_litV β false false)) dX9_phaseTold_54 (zar_b rfl rfl rfl) rfl (by rw [g3, nI_add]) hj54 (Nat.lt_of_lt_of_le hj54 (by decide)) ?_
          refine x_iconst (pc := 55) (nI 0) dX9_phaseTold_55 (by decide) ?_
          refine x_istore_n (pc := 56) 1 dX9_phaseTold_56 rfl (by decide) rfl ?_
          refine x_goto (pc := 57) 2 dX9_phaseTold_57 (by decide) ?_
          rw [e _ (by rw [if_pos hp])]
          exact ih false _ hOK hRb.ph1 K2 _
        ·
          refine x_if_le_t (pc := 46) 53 dX9_phaseTold_46 (by decide) (Int32.not_lt.mp hp) ?_
          refine x_iconst (pc := 53) (nI 0) dX9_phaseTold_53 (by decide) ?_
          have hj54 : 32 + zv (a_litV β false false) < 13326 := by omega
          refine x_iast_h (pc := 54) (32 + zv (a_litV β false false)) dX9_phaseTold_54 (zar_b rfl rfl rfl) rfl (by rw [g3, nI_add]) hj54 (Nat.lt_of_lt_of_le hj54 (by decide)) ?_
          refine x_iconst (pc := 55) (nI 0) dX9_phaseTold_55 (by decide) ?_
          refine x_istore_n (pc := 56) 1 dX9_phaseTold_56 rfl (by decide) rfl ?_
          refine x_goto (pc := 57) 2 dX9_phaseTold_57 (by decide) ?_
          rw [e _ (by rw [if_neg hp])]
          exact ih false _ hOK hRb.ph1 K2 _
      · have e : a_lit β false false = a_ph1 β := by unfold a_ph1; rw [if_neg hf]
        refine x_if_ne_t (pc := 31) 55 dX9_phaseTold_31 (by decide) (hf) ?_
        refine x_iconst (pc := 55) (nI 0) dX9_phaseTold_55 (by decide) ?_
        refine x_istore_n (pc := 56) 1 dX9_phaseTold_56 rfl (by decide) rfl ?_
        refine x_goto (pc := 57) 2 dX9_phaseTold_57 (by decide) ?_
        rw [e]
        exact ih false _ hOK hRb.ph1 K2 _
    by_cases hf : α 100 25 = 0
    · obtain ⟨o1, o2⟩ := h hf
      cases first with
      | true =>
        have e : a_phL (n + 1) true α = a_phL n false (a_ph1 α) := by rw [a_phL, if_pos hf, if_pos rfl]
        rw [e] at K
        refine x_aload_n (pc := 2) 0 dX9_phaseTold_2 rfl rfl ?_
        refine x_geti_h (pc := 3) dX9_phaseTold_3 fX9_220 (zat_b rfl rfl) rfl rfl ?_
        refine x_if_ne_f (pc := 6) 60 dX9_phaseTold_6 (by decide) (hf) ?_
        refine x_iload_n (pc := 9) 1 dX9_phaseTold_9 rfl rfl ?_
        refine x_if_ne_t (pc := 10) 20 dX9_phaseTold_10 (by decide) (by decide) ?_
        exact body α hR (o1 rfl) K true
      | false =>
        by_cases hl : a_isl α = true
        · have e : a_phL (n + 1) false α = a_phL n false (a_ph1 (a_here α)) := by rw [a_phL, if_pos hf, if_neg (by decide), if_pos hl]
          rw [e] at K
          refine x_aload_n (pc := 2) 0 dX9_phaseTold_2 rfl rfl ?_
          refine x_geti_h (pc := 3) dX9_phaseTold_3 fX9_220 (zat_b rfl rfl) rfl rfl ?_
          refine x_if_ne_f (pc := 6) 60 dX9_phaseTold_6 (by decide) (hf) ?_
          refine x_iload_n (pc := 9) 1 dX9_phaseTold_9 rfl rfl ?_
          refine x_if_ne_f (pc := 10) 20 dX9_phaseTold_10 (by decide) (rfl) ?_
          refine x_aload_n (pc := 13) 0 dX9_phaseTold_13 rfl rfl ?_
          refine x_callV0i (pc := 14) dX9_phaseTold_14 lX9_258 (zat_b rfl rfl) rfl (t_isLit (d + 1) hR.1) (Nat.le_of_ble_eq_true rfl) (Or.inl zgr) ?_
          show zX E (d + 5) mX9_phaseTold 17 _ [.int (zbo (a_isl α))] _ _
          rw [hl]
          refine x_if_eq_f (pc := 17) 60 dX9_phaseTold_17 (by decide) (by decide) ?_
          exact body (a_here α) hR.here (o2 rfl hl) K false
        · have e : a_phL (n + 1) false α = a_here α := by rw [a_phL, if_pos hf, if_neg (by decide), if_neg hl]
          rw [e] at K
          refine x_aload_n (pc := 2) 0 dX9_phaseTold_2 rfl rfl ?_
          refine x_geti_h (pc := 3) dX9_phaseTold_3 fX9_220 (zat_b rfl rfl) rfl rfl ?_
          refine x_if_ne_f (pc := 6) 60 dX9_phaseTold_6 (by decide) (hf) ?_
          refine x_iload_n (pc := 9) 1 dX9_phaseTold_9 rfl rfl ?_
          refine x_if_ne_f (pc := 10) 20 dX9_phaseTold_10 (by decide) (rfl) ?_
          refine x_aload_n (pc := 13) 0 dX9_phaseTold_13 rfl rfl ?_
          refine x_callV0i (pc := 14) dX9_phaseTold_14 lX9_258 (zat_b rfl rfl) rfl (t_isLit (d + 1) hR.1) (Nat.le_of_ble_eq_true rfl) (Or.inl zgr) ?_
          show zX E (d + 5) mX9_phaseTold 17 _ [.int (zbo (a_isl α))] _ _
          rw [zbf hl]
          refine x_if_eq_t (pc := 17) 60 dX9_phaseTold_17 (by decide) (rfl) ?_
          exact K hR.here false _
    · have e : a_phL (n + 1) first α = α := by rw [a_phL, if_neg hf]
      rw [e] at K
      refine x_aload_n (pc := 2) 0 dX9_phaseTold_2 rfl rfl ?_
      refine x_geti_h (pc := 3) dX9_phaseTold_3 fX9_220 (zat_b rfl rfl) rfl rfl ?_
      refine x_if_ne_t (pc := 6) 60 dX9_phaseTold_6 (by decide) (hf) ?_
      exact K hR first _
theorem t_phaseTold (d : Nat) {n : Nat} (h : phOK n true α) (hR : aWR α) : zTr E (d + 5) mX9_phaseTold [.ref 100] (κ, α, τ) none (κ, a_endS (a_phL n true α), τ) := by
  refine zM.tr (zM_of [some (.ref 100), none, none] (by decide) rfl (Nat.le_of_ble_eq_true rfl) ?_)
  refine x_iconst (pc := 0) (nI 1) dX9_phaseTold_0 (by decide) ?_
  refine x_istore_n (pc := 1) 1 dX9_phaseTold_1 rfl (by decide) rfl ?_
  refine l_phL d _ n true α h hR (fun hR2 b w => ?_) _
  refine x_aload_n (pc := 60) 0 dX9_phaseTold_60 rfl rfl ?_
  refine x_callV0v (pc := 61) dX9_phaseTold_61 lX9_261 (zat_b rfl rfl) rfl (t_endsStatement (d + 2) hR2.1) (Nat.le_of_ble_eq_true rfl) (Or.inl zgr) ?_
  refine x_vret (pc := 64) dX9_phaseTold_64 rfl ?_
  exact ⟨rfl, rfl⟩
end M20
