/-! the reference: refute -/
def a_rdI : Nat → Nat → (Nat → Nat → Int32) → Nat × (Nat → Nat → Int32)
  | 0, n, α => (n, α)
  | m + 1, n, α => if α 100 25 = 0 then (if a_chr α = nI 59 then (n, a_here α) else a_rdI m (n + 1) (zup (a_lit (a_here α) true false) 118 n (a_litV (a_here α) true false))) else (n, α)
def rdIOK : Nat → Nat → (Nat → Nat → Int32) → Prop
  | 0, _, _ => False
  | m + 1, n, α => α 100 25 = 0 → ¬ a_chr α = nI 59 → n < 400 ∧ rdIOK m (n + 1) (zup (a_lit (a_here α) true false) 118 n (a_litV (a_here α) true false))
def aRm (α : Nat → Nat → Int32) : Nat := (α 100 20).toNatClampNeg
def a_rdx (α : Nat → Nat → Int32) : Nat × (Nat → Nat → Int32) := a_rdI 500 (aF α (aRm α)) (a_clTold (a_here α))
/-- one told line is read -/
def a_rdS (α : Nat → Nat → Int32) : Nat → Nat → Int32 := zup (zup (zup (a_rdx α).2 100 24 ((a_rdx α).2 100 24 + nI 1)) 100 20 (nI (aRm α + 1))) 119 (aRm α + 1) (nI (a_rdx α).1)
def a_rdO : Nat → (Nat → Nat → Int32) → (Nat → Nat → Int32)
  | 0, α => α
  | m + 1, α => if α 100 25 = 0 then (if a_chr α = -1 then a_here α else a_rdO m (a_rdS α)) else α
def rdOOK : Nat → (Nat → Nat → Int32) → Prop
  | 0, _ => False
  | m + 1, α => α 100 25 = 0 → aWR α ∧ (¬ a_chr α = -1 → α 100 20 = nI (aRm α) ∧ aRm α ≤ 400 ∧ α 119 (aRm α) = nI (aF α (aRm α)) ∧ rdIOK 500 (aF α (aRm α)) (a_clTold (a_here α)) ∧ rdOOK m (a_rdS α))
def a_rfK : Nat → Nat → (Nat → Nat → Int32) → Nat × (Nat → Nat → Int32)
  | 0, k, α => (k, α)
  | m + 1, k, α => if (a_rf 0 k 31 (zit (a_ngF (α 118)) (aF α k) (aF α (k + 1) - aF α k) (a_emp α))).1 = true then a_rfK m (k + 1) (zup (a_rf 0 k 31 (zit (a_ngF (α 118)) (aF α k) (aF α (k + 1) - aF α k) (a_emp α))).2 101 15 (if aF α (k + 1) = aF α k then nI 1 else α 101 15)) else (k, (a_rf 0 k 31 (zit (a_ngF (α 118)) (aF α k) (aF α (k + 1) - aF α k) (a_emp α))).2)
def a_re0 (α : Nat → Nat → Int32) : Nat → Nat → Int32 := zup (zup (a_st0 α) 100 20 (nI 0)) 119 0 (nI 0)
def a_refute (α : Nat → Nat → Int32) : Int32 × (Nat → Nat → Int32) :=
  if a_rdO 500 (a_re0 α) 100 25 = 0 then (nI (a_rfK (aRm (a_rdO 500 (a_re0 α))) 0 (zup (a_rdO 500 (a_re0 α)) 101 15 (nI 0))).1, (a_rfK (aRm (a_rdO 500 (a_re0 α))) 0 (zup (a_rdO 500 (a_re0 α)) 101 15 (nI 0))).2) else (-1, a_rdO 500 (a_re0 α))
/-- in a told line no variable stands twice -/
def aRd2 (α : Nat → Nat → Int32) (R : Nat) : Prop := ∀ k, k < R → ∀ i j, aF α k ≤ i → i < j → j < aF α (k + 1) → ¬ zv (α 118 i) = zv (α 118 j)
/-- of the reference's own numbers the trail's length and the level alone -/
def zo1 (α β : Nat → Nat → Int32) : Prop := ∀ i, i ≠ 10 → i ≠ 11 → β 100 i = α 100 i
theorem zo1.rf {α : Nat → Nat → Int32} : zo1 α α := fun _ _ _ => rfl
theorem zo1.tr {α β γ : Nat → Nat → Int32} (h : zo1 α β) (k : zo1 β γ) : zo1 α γ := fun i a b => (k i a b).trans (h i a b)
theorem zo1_comes (α : Nat → Nat → Int32) (l w : Int32) : zo1 α (a_comes α l w) := fun i a b => a_comes_at ⟨by omega, by omega⟩
theorem zo1_emp (α : Nat → Nat → Int32) : zo1 α (a_emp α) := fun i a b => a_emp_at ⟨by omega, by omega⟩
theorem zo1_it (f : Nat → (Nat → Nat → Int32) → (Nat → Nat → Int32)) (hf : ∀ k a, zo1 a (f k a)) : ∀ m k α, zo1 α (zit f k m α)
  | 0, k, α => zo1.rf
  | m + 1, k, α => (hf k α).tr (zo1_it f hf m (k + 1) (f k α))
theorem zo1_dF (α : Nat → Nat → Int32) (c : Nat) : zo1 α (a_dF α c) := by
  unfold a_dF
  split
  · exact zo1_comes _ _ _
  · exact zo1.rf
theorem zo1_rdA (α : Nat → Nat → Int32) (c : Nat) : zo1 α (a_rdA α c) := by
  unfold a_rdA
  split
  · exact zo1_comes _ _ _
  · exact zo1.rf
theorem zo1_pC : ∀ m c mo α, zo1 α (a_pC m c mo α).2.2
  | 0, c, mo, α => zo1.rf
  | m + 1, c, mo, α => by
    unfold a_pC
    split
    · exact zo1_pC m (c + 1) mo α
    · split
      · exact zo1.rf
      · exact (zo1_dF _ _).tr (zo1_pC m (c + 1) _ _)
theorem zo1_pL : ∀ m c mo α, zo1 α (a_pL m c mo α).2.2
  | 0, c, mo, α => zo1.rf
  | m + 1, c, mo, α => by
    unfold a_pL
    split
    · exact zo1.rf
    · split
      · exact zo1.rf
      · exact (zo1_dF _ _).tr (zo1_pL m (c + 1) _ _)
theorem zo1_pR : ∀ m c mo α, zo1 α (a_pR m c mo α).2.2
  | 0, c, mo, α => zo1.rf
  | m + 1, c, mo, α => by
    unfold a_pR
    split
    · exact zo1.rf
    · exact (zo1_rdA _ _).tr (zo1_pR m (c + 1) _ _)
theorem zo1_rf (Ln Rd : Nat) : ∀ n α, zo1 α (a_rf Ln Rd n α).2
  | 0, α => zo1.rf
  | n + 1, α => by
    have h1 := zo1_pC (aN α) 0 false α
    unfold a_rf
    generalize a_pC (aN α) 0 false α = x at h1 ⊢
    obtain ⟨b, mo, β⟩ := x
    cases b with
    | true => exact h1
    | false =>
      dsimp only at h1 ⊢
      have h2 := zo1_pL Ln 0 mo β
      generalize a_pL Ln 0 mo β = y at h2 ⊢
      obtain ⟨b, mo2, γ⟩ := y
      cases b with
      | true => exact h1.tr h2
      | false =>
        dsimp only at h2 ⊢
        have h3 := zo1_pR Rd 0 mo2 γ
        generalize a_pR Rd 0 mo2 γ = z at h3 ⊢
        obtain ⟨b, mo3, δ⟩ := z
        cases b with
        | true => exact (h1.tr h2).tr h3
        | false =>
          cases mo3 with
          | true => exact ((h1.tr h2).tr h3).tr (zo1_rf Ln Rd n δ)
          | false => exact (h1.tr h2).tr h3
section M28
variable {E : zEnv} {κ α : Nat → Nat → Int32} {τ : (Nat → Nat → Int64) × (Nat → Nat)}
theorem l_rdI (d : Nat) (P : Option Value → zMem → Prop) : ∀ m n α, rdIOK m n α → aWR α → (∀ n' β w, (n', β) = a_rdI m n α → aWR β → zX E (d + 5) mX9_refute 86 [some (.ref 100), some (.int (nI n')), w] [] (κ, β, τ) P) → ∀ w, zX E (d + 5) mX9_refute 50 [some (.ref 100), some (.int (nI n)), w] [] (κ, α, τ) P := by
  intro m
  induction m with
  | zero => intro n α h; exact absurd h id
  | succ m ih =>
    intro n α h hR K w
    by_cases hf : α 100 25 = 0
    · by_cases hc : a_chr α = nI 59
      · have e : a_rdI (m + 1) n α = (n, a_here α) := by rw [a_rdI, if_pos hf, if_pos hc]
        refine x_aload_n (pc := 50) 0 dX9_refute_50 rfl rfl ?_
        refine x_geti_h (pc := 51) dX9_refute_51 fX9_220 (zat_b rfl rfl) rfl rfl ?_
        refine x_if_ne_f (pc := 54) 86 dX9_refute_54 (by decide) (hf) ?_
        refine x_aload_n (pc := 57) 0 dX9_refute_57 rfl rfl ?_
        refine x_callV0i (pc := 58) dX9_refute_58 lX9_223 (zat_b rfl rfl) rfl (t_here (d + 3) hR.1) (Nat.le_of_ble_eq_true rfl) (Or.inl zgr) ?_
        refine x_bipush (pc := 61) (nI 59) dX9_refute_61 (by decide) ?_
        refine x_icmp_eq_t (pc := 63) 86 dX9_refute_63 (by decide) (hc) ?_
        exact K n _ _ e.symm hR.here
      · have e : a_rdI (m + 1) n α = a_rdI m (n + 1) (zup (a_lit (a_here α) true false) 118 n (a_litV (a_here α) true false)) := by rw [a_rdI, if_pos hf, if_neg hc]
        rw [e] at K
        obtain ⟨g1, g2⟩ := h hf hc
        have hRh := hR.here
        refine x_aload_n (pc := 50) 0 dX9_refute_50 rfl rfl ?_
        refine x_geti_h (pc := 51) dX9_refute_51 fX9_220 (zat_b rfl rfl) rfl rfl ?_
        refine x_if_ne_f (pc := 54) 86 dX9_refute_54 (by decide) (hf) ?_
        refine x_aload_n (pc := 57) 0 dX9_refute_57 rfl rfl ?_
        refine x_callV0i (pc := 58) dX9_refute_58 lX9_223 (zat_b rfl rfl) rfl (t_here (d + 3) hR.1) (Nat.le_of_ble_eq_true rfl) (Or.inl zgr) ?_
        refine x_bipush (pc := 61) (nI 59) dX9_refute_61 (by decide) ?_
        refine x_icmp_eq_f (pc := 63) 86 dX9_refute_63 (by decide) (hc) ?_
        refine x_aload_n (pc := 66) 0 dX9_refute_66 rfl rfl ?_
        refine x_iconst (pc := 67) (nI 1) dX9_refute_67 (by decide) ?_
        refine x_iconst (pc := 68) (nI 0) dX9_refute_68 (by decide) ?_
        refine x_callV2i (pc := 69) dX9_refute_69 lX9_229 (zat_b rfl rfl) rfl (t_lit d true false hRh.1 hRh.hp hRh.2.2.1 hRh.2.2.2) (Nat.le_of_ble_eq_true rfl) (Or.inl zgr) ?_
        refine x_istore_n (pc := 72) 2 dX9_refute_72 rfl (by decide) rfl ?_
        refine x_aload_n (pc := 73) 0 dX9_refute_73 rfl rfl ?_
        refine x_getr (pc := 74) (118) dX9_refute_74 fX9_47 (zat_b rfl rfl) rfl ?_
        refine x_iload_n (pc := 77) 1 dX9_refute_77 rfl rfl ?_
        refine x_iload_n (pc := 78) 2 dX9_refute_78 rfl rfl ?_
        have hj79 : n < 400 := by omega
        refine x_iast_h (pc := 79) (n) dX9_refute_79 (zar_b rfl rfl rfl) rfl (by first | rfl | simp only [pk_mul, nI_add] | simp only [zon, pk_mul, nI_add]) hj79 (Nat.lt_of_lt_of_le hj79 (by decide)) ?_
        refine x_iinc (pc := 80) (nI (n + 1)) dX9_refute_80 rfl (zinc _) (by decide) rfl ?_
        refine x_goto (pc := 83) 50 dX9_refute_83 (by decide) ?_
        exact ih (n + 1) _ g2 (hRh.lit.up (Or.inl (by decide)) (Or.inl (by decide))) K _
    · have e : a_rdI (m + 1) n α = (n, α) := by rw [a_rdI, if_neg hf]
      refine x_aload_n (pc := 50) 0 dX9_refute_50 rfl rfl ?_
      refine x_geti_h (pc := 51) dX9_refute_51 fX9_220 (zat_b rfl rfl) rfl rfl ?_
      refine x_if_ne_t (pc := 54) 86 dX9_refute_54 (by decide) (hf) ?_
      exact K n α _ e.symm hR
theorem a_rdI_at {p i : Nat} (h : ¬ p = 126 ∧ ¬ p = 118 ∧ (¬ p = 100 ∨ (¬ i = 24 ∧ ¬ i = 25))) : ∀ m n α, (a_rdI m n α).2 p i = α p i := by
  intro m
  induction m with
  | zero => intro n α; rfl
  | succ m ih =>
    intro n α
    have hh : a_here α p i = α p i := a_here_at (h.2.2.elim Or.inl (fun q => Or.inr q.1))
    unfold a_rdI
    split
    · split
      · exact hh
      · rw [ih, zup_p h.2.1, a_lit_at ⟨h.1, h.2.2⟩, hh]
    · rfl
theorem l_rdO (d : Nat) (P : Option Value → zMem → Prop) : ∀ m α, rdOOK m α → (∀ w1 w2, zX E (d + 5) mX9_refute 119 [some (.ref 100), w1, w2] [] (κ, a_rdO m α, τ) P) → ∀ w1 w2, zX E (d + 5) mX9_refute 21 [some (.ref 100), w1, w2] [] (κ, α, τ) P := by
  intro m
  induction m with
  | zero => intro α h; exact absurd h id
  | succ m ih =>
    intro α h K w1 w2
    by_cases hf : α 100 25 = 0
    · obtain ⟨hR, h2⟩ := h hf
      by_cases hc : a_chr α = -1
      · have e : a_rdO (m + 1) α = a_here α := by rw [a_rdO, if_pos hf, if_pos hc]
        rw [e] at K
        refine x_aload_n (pc := 21) 0 dX9_refute_21 rfl rfl ?_
        refine x_geti_h (pc := 22) dX9_refute_22 fX9_220 (zat_b rfl rfl) rfl rfl ?_
        refine x_if_ne_f (pc := 25) 119 dX9_refute_25 (by decide) (hf) ?_
        refine x_aload_n (pc := 28) 0 dX9_refute_28 rfl rfl ?_
        refine x_callV0i (pc := 29) dX9_refute_29 lX9_223 (zat_b rfl rfl) rfl (t_here (d + 3) hR.1) (Nat.le_of_ble_eq_true rfl) (Or.inl zgr) ?_
        refine x_iconst (pc := 32) (-1) dX9_refute_32 (by decide) ?_
        refine x_icmp_eq_t (pc := 33) 119 dX9_refute_33 (by decide) (hc) ?_
        exact K _ _
      · have e : a_rdO (m + 1) α = a_rdO m (a_rdS α) := by rw [a_rdO, if_pos hf, if_neg hc]
        rw [e] at K
        obtain ⟨q1, q2, q3, q4, q5⟩ := h2 hc
        have hRh := hR.here
        have hRc := hRh.off a_clTold_off (by decide) (by decide)
        have e20 : a_here α 100 20 = nI (aRm α) := by rw [a_here_at (Or.inr (by decide))]; exact q1
        have e119 : a_here α 119 (aRm α) = nI (aF α (aRm α)) := by rw [a_here_at (Or.inl (by decide))]; exact q3
        refine zX.sub (ls' := [some (.ref 100), none, none]) (zs1 (zsn (zsn zse))) ?_
        refine x_aload_n (pc := 21) 0 dX9_refute_21 rfl rfl ?_
        refine x_geti_h (pc := 22) dX9_refute_22 fX9_220 (zat_b rfl rfl) rfl rfl ?_
        refine x_if_ne_f (pc := 25) 119 dX9_refute_25 (by decide) (hf) ?_
        refine x_aload_n (pc := 28) 0 dX9_refute_28 rfl rfl ?_
        refine x_callV0i (pc := 29) dX9_refute_29 lX9_223 (zat_b rfl rfl) rfl (t_here (d + 3) hR.1) (Nat.le_of_ble_eq_true rfl) (Or.inl zgr) ?_
        refine x_iconst (pc := 32) (-1) dX9_refute_32 (by decide) ?_
        refine x_icmp_eq_f (pc := 33) 119 dX9_refute_33 (by decide) (hc) ?_
        refine x_aload_n (pc := 36) 0 dX9_refute_36 rfl rfl ?_
        refine x_getr (pc := 37) (119) dX9_refute_37 fX9_50 (zat_b rfl rfl) rfl ?_
        refine x_aload_n (pc := 40) 0 dX9_refute_40 rfl rfl ?_
        refine x_geti_h (pc := 41) dX9_refute_41 fX9_217 (zat_b rfl rfl) rfl rfl ?_
        rw [e20]
        have hj44 : aRm α < 402 := by omega
        refine x_iald_h (pc := 44) (aRm α) dX9_refute_44 (zar_b rfl rfl rfl) rfl (by first | rfl | simp only [pk_mul, nI_add] | simp only [zon, pk_mul, nI_add]) hj44 (Nat.lt_of_lt_of_le hj44 (by decide)) ?_
        rw [e119]
        refine x_istore_n (pc := 45) 1 dX9_refute_45 rfl (by decide) rfl ?_
        refine x_aload_n (pc := 46) 0 dX9_refute_46 rfl rfl ?_
        refine x_callV0v (pc := 47) dX9_refute_47 lX9_226 (zat_b rfl rfl) rfl (t_clearsTold (d + 3)) (Nat.le_of_ble_eq_true rfl) (Or.inl zgr) ?_
        refine l_rdI d P 500 (aF α (aRm α)) (a_clTold (a_here α)) q4 hRc (fun n' β w he hRb => ?_) _
        have hx : a_rdx α = (n', β) := he.symm
        have b20 : β 100 20 = nI (aRm α) := by
          have := a_rdI_at (p := 100) (i := 20) ⟨by decide, by decide, Or.inr ⟨by decide, by decide⟩⟩ 500 (aF α (aRm α)) (a_clTold (a_here α))
          rw [← he] at this
          rw [show β 100 20 = a_clTold (a_here α) 100 20 from this, a_clTold_off.at (by decide)]
          exact e20
        refine x_aload_n (pc := 86) 0 dX9_refute_86 rfl rfl ?_
        refine x_dup (pc := 87) dX9_refute_87 rfl ?_
        refine x_geti_h (pc := 88) dX9_refute_88 fX9_233 (zat_b rfl rfl) rfl rfl ?_
        refine x_iconst (pc := 91) (nI 1) dX9_refute_91 (by decide) ?_
        refine x_iadd (pc := 92) dX9_refute_92 ?_
        refine x_puti_h (pc := 93) dX9_refute_93 pX9_233 (zat_b rfl rfl) rfl rfl ?_
        refine x_aload_n (pc := 96) 0 dX9_refute_96 rfl rfl ?_
        refine x_dup (pc := 97) dX9_refute_97 rfl ?_
        refine x_geti_h (pc := 98) dX9_refute_98 fX9_217 (zat_b rfl rfl) rfl rfl ?_
        rw [zup_i (by decide), b20]
        refine x_iconst (pc := 101) (nI 1) dX9_refute_101 (by decide) ?_
        refine x_iadd (pc := 102) dX9_refute_102 ?_
        rw [nI_add]
        refine x_puti_h (pc := 103) dX9_refute_103 pX9_217 (zat_b rfl rfl) rfl rfl ?_
        refine x_aload_n (pc := 106) 0 dX9_refute_106 rfl rfl ?_
        refine x_getr (pc := 107) (119) dX9_refute_107 fX9_50 (zat_b rfl rfl) rfl ?_
        refine x_aload_n (pc := 110) 0 dX9_refute_110 rfl rfl ?_
        refine x_geti_h (pc := 111) dX9_refute_111 fX9_217 (zat_b rfl rfl) rfl rfl ?_
        rw [zup_same]
        refine x_iload_n (pc := 114) 1 dX9_refute_114 rfl rfl ?_
        have hj115 : aRm α + 1 < 402 := by omega
        refine x_iast_h (pc := 115) (aRm α + 1) dX9_refute_115 (zar_b rfl rfl rfl) rfl (by first | rfl | simp only [pk_mul, nI_add] | simp only [zon, pk_mul, nI_add]) hj115 (Nat.lt_of_lt_of_le hj115 (by decide)) ?_
        refine x_goto (pc := 116) 21 dX9_refute_116 (by decide) ?_
        have e3 : zup (zup (zup β 100 24 (β 100 24 + nI 1)) 100 20 (nI (aRm α + 1))) 119 (aRm α + 1) (nI n') = a_rdS α := by unfold a_rdS; rw [hx]
        rw [e3]
        exact ih _ q5 K _ _
    · have e : a_rdO (m + 1) α = α := by rw [a_rdO, if_neg hf]
      rw [e] at K
      refine x_aload_n (pc := 21) 0 dX9_refute_21 rfl rfl ?_
      refine x_geti_h (pc := 22) dX9_refute_22 fX9_220 (zat_b rfl rfl) rfl rfl ?_
      refine x_if_ne_t (pc := 25) 119 dX9_refute_25 (by decide) (hf) ?_
      exact K _ _
theorem l_rfI (d : Nat) {k a b : Nat} {f : Nat → Int32} (hk : k < 401) (hb4 : b ≤ 400) (hl : ∀ i, a ≤ i → i < b → lok 30 (f i)) (hd : ∀ i j, a ≤ i → i < j → j < b → ¬ zv (f i) = zv (f j)) (P : Option Value → zMem → Prop) : ∀ m i β t, i + m = b → a ≤ i → β 118 = f → β 119 (k + 1) = nI b → aI β t → (∀ j, i ≤ j → j < i + m → β 105 (zv (f j)) = 0) → (∀ t w, aI (zit (a_ngF f) i m β) t → zX E (d + 5) mX9_refute 187 [some (.ref 100), some (.int (nI k)), w] [] (κ, zit (a_ngF f) i m β, τ) P) → zX E (d + 5) mX9_refute 157 [some (.ref 100), some (.int (nI k)), some (.int (nI i))] [] (κ, β, τ) P := by
  intro m
  induction m with
  | zero =>
    intro i β t hi hai hF hB hI h0 K
    refine x_iload_n (pc := 157) 2 dX9_refute_157 rfl rfl ?_
    refine x_aload_n (pc := 158) 0 dX9_refute_158 rfl rfl ?_
    refine x_getr (pc := 159) (119) dX9_refute_159 fX9_50 (zat_b rfl rfl) rfl ?_
    refine x_iload_n (pc := 162) 1 dX9_refute_162 rfl rfl ?_
    refine x_iconst (pc := 163) (nI 1) dX9_refute_163 (by decide) ?_
    refine x_iadd (pc := 164) dX9_refute_164 ?_
    have hj165 : k + 1 < 402 := by omega
    refine x_iald_h (pc := 165) (k + 1) dX9_refute_165 (zar_b rfl rfl rfl) rfl (by first | rfl | simp only [pk_mul, nI_add] | simp only [zon, pk_mul, nI_add]) hj165 (Nat.lt_of_lt_of_le hj165 (by decide)) ?_
    rw [hB]
    refine x_icmp_ge_t (pc := 166) 187 dX9_refute_166 (by decide) (nI_le (by omega) (by omega)) ?_
    exact K t _ hI
  | succ m ih =>
    intro i β t hi hai hF hB hI h0 K
    obtain ⟨g1, g2, g3, g4⟩ := a_ng_I (f := f) (k := i) (m := m + 1) hI (fun j p q => hl j (by omega) (by omega)) (fun x y p q e => hd x y (by omega) q (by omega)) h0 (by omega)
    refine x_iload_n (pc := 157) 2 dX9_refute_157 rfl rfl ?_
    refine x_aload_n (pc := 158) 0 dX9_refute_158 rfl rfl ?_
    refine x_getr (pc := 159) (119) dX9_refute_159 fX9_50 (zat_b rfl rfl) rfl ?_
    refine x_iload_n (pc := 162) 1 dX9_refute_162 rfl rfl ?_
    refine x_iconst (pc := 163) (nI 1) dX9_refute_163 (by decide) ?_
    refine x_iadd (pc := 164) dX9_refute_164 ?_
    have hj165 : k + 1 < 402 := by omega
    refine x_iald_h (pc := 165) (k + 1) dX9_refute_165 (zar_b rfl rfl rfl) rfl (by first | rfl | simp only [pk_mul, nI_add] | simp only [zon, pk_mul, nI_add]) hj165 (Nat.lt_of_lt_of_le hj165 (by decide)) ?_
    rw [hB]
    refine x_icmp_ge_f (pc := 166) 187 dX9_refute_166 (by decide) (nI_ge (by omega) (by omega)) ?_
    refine x_aload_n (pc := 169) 0 dX9_refute_169 rfl rfl ?_
    refine x_aload_n (pc := 170) 0 dX9_refute_170 rfl rfl ?_
    refine x_getr (pc := 171) (118) dX9_refute_171 fX9_47 (zat_b rfl rfl) rfl ?_
    refine x_iload_n (pc := 174) 2 dX9_refute_174 rfl rfl ?_
    have hj175 : i < 400 := by omega
    refine x_iald_h (pc := 175) (i) dX9_refute_175 (zar_b rfl rfl rfl) rfl (by first | rfl | simp only [pk_mul, nI_add] | simp only [zon, pk_mul, nI_add]) hj175 (Nat.lt_of_lt_of_le hj175 (by decide)) ?_
    rw [show β 118 i = f i by rw [hF]]
    refine x_ineg (pc := 176) dX9_refute_176 ?_
    refine x_iconst (pc := 177) (-1) dX9_refute_177 (by decide) ?_
    refine x_callV2v (pc := 178) dX9_refute_178 lX9_135 (zat_b rfl rfl) rfl (t_comes (d + 2) g2 hI.1.1 g1) (Nat.le_of_ble_eq_true rfl) (Or.inl zgr) ?_
    refine x_iinc (pc := 181) (nI (i + 1)) dX9_refute_181 rfl (zinc _) (by decide) rfl ?_
    refine x_goto (pc := 184) 157 dX9_refute_184 (by decide) ?_
    have ho := a_ngF_off f i β
    exact ih (i + 1) _ (t + 1) (by omega) (by omega) ((ho 118 (by decide)).trans hF) ((ho.at (by decide) (k + 1)).trans hB) g3 (fun j p q => g4 j p (by omega)) K
theorem l_rfK (d : Nat) {R : Nat} : ∀ m k α, k + m = R → α 100 20 = nI R → aW α → aRd α R → aRd2 α R → ∀ w, zX E (d + 5) mX9_refute 138 [some (.ref 100), some (.int (nI k)), w] [] (κ, α, τ) (fun r ν => r = some (.int (nI (a_rfK m k α).1)) ∧ ν = (κ, (a_rfK m k α).2, τ)) := by
  intro m
  induction m with
  | zero =>
    intro k α hm hRm hW hR h2 w
    have h401 := hR.1
    refine x_iload_n (pc := 138) 1 dX9_refute_138 rfl rfl ?_
    refine x_aload_n (pc := 139) 0 dX9_refute_139 rfl rfl ?_
    refine x_geti_h (pc := 140) dX9_refute_140 fX9_217 (zat_b rfl rfl) rfl rfl ?_
    rw [hRm]
    refine x_icmp_ge_t (pc := 143) 239 dX9_refute_143 (by decide) (nI_le (by omega) (by omega)) ?_
    refine x_aload_n (pc := 239) 0 dX9_refute_239 rfl rfl ?_
    refine x_geti_h (pc := 240) dX9_refute_240 fX9_217 (zat_b rfl rfl) rfl rfl ?_
    rw [hRm]
    refine x_iret (pc := 243) dX9_refute_243 rfl ?_
    exact ⟨by rw [show R = k by omega]; rfl, rfl⟩
  | succ m ih =>
    intro k α hm hRm hW hR h2 w
    have h401 := hR.1
    have hk : k < R := by omega
    obtain ⟨e0, b0⟩ := hR.2.1 k (by omega)
    obtain ⟨e1, b1⟩ := hR.2.1 (k + 1) (by omega)
    have hle := hR.2.2.1 k hk
    have oe := a_emp_off α
    refine zX.sub (ls' := [some (.ref 100), some (.int (nI k)), none]) (zs1 (zs1 (zsn zse))) ?_
    refine x_iload_n (pc := 138) 1 dX9_refute_138 rfl rfl ?_
    refine x_aload_n (pc := 139) 0 dX9_refute_139 rfl rfl ?_
    refine x_geti_h (pc := 140) dX9_refute_140 fX9_217 (zat_b rfl rfl) rfl rfl ?_
    rw [hRm]
    refine x_icmp_ge_f (pc := 143) 239 dX9_refute_143 (by decide) (nI_ge (by omega) (by omega)) ?_
    refine x_aload_n (pc := 146) 0 dX9_refute_146 rfl rfl ?_
    refine x_callV0v (pc := 147) dX9_refute_147 lX9_183 (zat_b rfl rfl) rfl (t_empties (d + 3)) (Nat.le_of_ble_eq_true rfl) (Or.inl zgr) ?_
    refine x_aload_n (pc := 150) 0 dX9_refute_150 rfl rfl ?_
    refine x_getr (pc := 151) (119) dX9_refute_151 fX9_50 (zat_b rfl rfl) rfl ?_
    refine x_iload_n (pc := 154) 1 dX9_refute_154 rfl rfl ?_
    have hj155 : k < 402 := by omega
    refine x_iald_h (pc := 155) (k) dX9_refute_155 (zar_b rfl rfl rfl) rfl (by first | rfl | simp only [pk_mul, nI_add] | simp only [zon, pk_mul, nI_add]) hj155 (Nat.lt_of_lt_of_le hj155 (by decide)) ?_
    rw [oe.at (by decide), e0]
    refine x_istore_n (pc := 156) 2 dX9_refute_156 rfl (by decide) rfl ?_
    refine l_rfI d (a := aF α k) (b := aF α (k + 1)) (f := α 118) (by omega) b1 (fun i p q => hR.2.2.2 k hk i p q) (fun x y p q e => h2 k hk x y p q e) _ (aF α (k + 1) - aF α k) (aF α k) (a_emp α) 0 (by omega) (Nat.le_refl _) (oe 118 (by decide)) (by rw [oe.at (by decide)]; exact e1) (a_emp_I α) (fun j p q => ?_) (fun t w hI => ?_)
    · obtain ⟨g1, g2, -⟩ := (hR.2.2.2 k hk j p (by omega)).is (Nat.le_refl _)
      exact a_empL_105 31 0 _ _ (by omega) (by omega)
    · have ho := oe.tr (zit_off _ (a_ngF_off (α 118)) (aF α (k + 1) - aF α k) (aF α k) (a_emp α))
      have step1 : a_rfK (m + 1) k α = if (a_rf 0 k 31 (zit (a_ngF (α 118)) (aF α k) (aF α (k + 1) - aF α k) (a_emp α))).1 = true then a_rfK m (k + 1) (zup (a_rf 0 k 31 (zit (a_ngF (α 118)) (aF α k) (aF α (k + 1) - aF α k) (a_emp α))).2 101 15 (if aF α (k + 1) = aF α k then nI 1 else α 101 15)) else (k, (a_rf 0 k 31 (zit (a_ngF (α 118)) (aF α k) (aF α (k + 1) - aF α k) (a_emp α))).2) := rfl
      have h1a : zo1 (a_emp α) (zit (a_ngF (α 118)) (aF α k) (aF α (k + 1) - aF α k) (a_emp α)) := zo1_it (a_ngF (α 118)) (fun i a => zo1_comes a _ _) _ _ _
      have h1b := (zo1_emp α).tr h1a
      generalize hβ : zit (a_ngF (α 118)) (aF α k) (aF α (k + 1) - aF α k) (a_emp α) = β at hI ho step1 h1b ⊢
      have hWb := hW.off ho (by decide)
      have hRb := hR.off ho (by decide) (by decide)
      refine x_aload_n (pc := 187) 0 dX9_refute_187 rfl rfl ?_
      refine x_iconst (pc := 188) (nI 0) dX9_refute_188 (by decide) ?_
      refine x_iload_n (pc := 189) 1 dX9_refute_189 rfl rfl ?_
      refine x_callV2i (pc := 190) dX9_refute_190 lX9_210 (zat_b rfl rfl) rfl (t_isRefused d (t := t) (Ln := 0) (Rd := k) (R := R) (by omega) (by omega) hWb (fun j hj => by omega) hRb hI) (Nat.le_of_ble_eq_true rfl) (Or.inl zgr) ?_
      rw [step1]
      have ho2 := ho.tr (a_rf_off 0 k 31 β)
      have h20 : (a_rf 0 k 31 β).2 100 20 = nI R := by rw [(h1b.tr (zo1_rf 0 k 31 β)) 20 (by decide) (by decide)]; exact hRm
      cases hr : (a_rf 0 k 31 β).1 with
      | false =>
        rw [if_neg (by decide)]
        refine x_if_ne_f (pc := 193) 198 dX9_refute_193 (by decide) (rfl) ?_
        refine x_iload_n (pc := 196) 1 dX9_refute_196 rfl rfl ?_
        refine x_iret (pc := 197) dX9_refute_197 rfl ?_
        exact ⟨rfl, rfl⟩
      | true =>
        rw [if_pos rfl]
        generalize (a_rf 0 k 31 β).2 = γ at ho2 h20 ⊢
        have hrow := ho2 101 (by decide)
        have g119 := ho2 119 (by decide)
        have g118 := ho2 118 (by decide)
        have done : ∀ x, aRd (zup γ 101 15 x) R ∧ aRd2 (zup γ 101 15 x) R ∧ aW (zup γ 101 15 x) ∧ zup γ 101 15 x 100 20 = nI R := by
          intro x
          have o3 : zoff (101 :: aSc) α (zup γ 101 15 x) := (ho2.mono (fun p hp => List.mem_cons_of_mem _ hp)).up (by decide)
          refine ⟨hR.off o3 (by decide) (by decide), ?_, aW_zup (hW.off ho2 (by decide)) (Or.inr (by omega)), by rw [zup_p (by decide)]; exact h20⟩
          have q1 := o3 118 (by decide)
          have q2 := o3 119 (by decide)
          unfold aRd2 aF at *
          rw [q1, q2]
          exact h2
        refine x_if_ne_t (pc := 193) 198 dX9_refute_193 (by decide) (by decide) ?_
        refine x_aload_n (pc := 198) 0 dX9_refute_198 rfl rfl ?_
        refine x_getr (pc := 199) (101) dX9_refute_199 fX9_7 (zat_b rfl rfl) rfl ?_
        refine x_bipush (pc := 202) (nI 15) dX9_refute_202 (by decide) ?_
        refine x_aload_n (pc := 204) 0 dX9_refute_204 rfl rfl ?_
        refine x_getr (pc := 205) (119) dX9_refute_205 fX9_50 (zat_b rfl rfl) rfl ?_
        refine x_iload_n (pc := 208) 1 dX9_refute_208 rfl rfl ?_
        refine x_iconst (pc := 209) (nI 1) dX9_refute_209 (by decide) ?_
        refine x_iadd (pc := 210) dX9_refute_210 ?_
        have hj211 : k + 1 < 402 := by omega
        refine x_iald_h (pc := 211) (k + 1) dX9_refute_211 (zar_b rfl rfl rfl) rfl (by first | rfl | simp only [pk_mul, nI_add] | simp only [zon, pk_mul, nI_add]) hj211 (Nat.lt_of_lt_of_le hj211 (by decide)) ?_
        rw [show γ 119 (k + 1) = nI (aF α (k + 1)) by rw [g119]; exact e1]
        refine x_aload_n (pc := 212) 0 dX9_refute_212 rfl rfl ?_
        refine x_getr (pc := 213) (119) dX9_refute_213 fX9_50 (zat_b rfl rfl) rfl ?_
        refine x_iload_n (pc := 216) 1 dX9_refute_216 rfl rfl ?_
        have hj217 : k < 402 := by omega
        refine x_iald_h (pc := 217) (k) dX9_refute_217 (zar_b rfl rfl rfl) rfl (by first | rfl | simp only [pk_mul, nI_add] | simp only [zon, pk_mul, nI_add]) hj217 (Nat.lt_of_lt_of_le hj217 (by decide)) ?_
        rw [show γ 119 k = nI (aF α k) by rw [g119]; exact e0]
        by_cases he : aF α (k + 1) = aF α k
        · rw [if_pos he]
          refine x_icmp_ne_f (pc := 218) 225 dX9_refute_218 (by decide) (by rw [he]) ?_
          refine x_iconst (pc := 221) (nI 1) dX9_refute_221 (by decide) ?_
          refine x_goto (pc := 222) 232 dX9_refute_222 (by decide) ?_
          have hj232 : 15 < 13326 := by omega
          refine x_iast_h (pc := 232) (15) dX9_refute_232 (zar_b rfl rfl rfl) rfl (by first | rfl | simp only [pk_mul, nI_add] | simp only [zon, pk_mul, nI_add]) hj232 (Nat.lt_of_lt_of_le hj232 (by decide)) ?_
          refine x_iinc (pc := 233) (nI (k + 1)) dX9_refute_233 rfl (zinc _) (by decide) rfl ?_
          refine x_goto (pc := 236) 138 dX9_refute_236 (by decide) ?_
          obtain ⟨c1, c2, c3, c4⟩ := done (nI 1)
          exact ih (k + 1) _ (by omega) c4 c3 c1 c2 _
        · rw [if_neg he]
          refine x_icmp_ne_t (pc := 218) 225 dX9_refute_218 (by decide) (fun q => he ((nI_eq (by omega) (by omega)).mp q)) ?_
          refine x_aload_n (pc := 225) 0 dX9_refute_225 rfl rfl ?_
          refine x_getr (pc := 226) (101) dX9_refute_226 fX9_7 (zat_b rfl rfl) rfl ?_
          refine x_bipush (pc := 229) (nI 15) dX9_refute_229 (by decide) ?_
          have hj231 : 15 < 13326 := by omega
          refine x_iald_h (pc := 231) (15) dX9_refute_231 (zar_b rfl rfl rfl) rfl (by first | rfl | simp only [pk_mul, nI_add] | simp only [zon, pk_mul, nI_add]) hj231 (Nat.lt_of_lt_of_le hj231 (by decide)) ?_
          rw [show γ 101 15 = α 101 15 by rw [hrow]]
          have hj232 : 15 < 13326 := by omega
          refine x_iast_h (pc := 232) (15) dX9_refute_232 (zar_b rfl rfl rfl) rfl (by first | rfl | simp only [pk_mul, nI_add] | simp only [zon, pk_mul, nI_add]) hj232 (Nat.lt_of_lt_of_le hj232 (by decide)) ?_
          refine x_iinc (pc := 233) (nI (k + 1)) dX9_refute_233 rfl (zinc _) (by decide) rfl ?_
          refine x_goto (pc := 236) 138 dX9_refute_236 (by decide) ?_
          obtain ⟨c1, c2, c3, c4⟩ := done (α 101 15)
          exact ih (k + 1) _ (by omega) c4 c3 c1 c2 _
theorem t_refute (d : Nat) {R : Nat} (hO : rdOOK 500 (a_re0 α)) (hz : a_rdO 500 (a_re0 α) 100 25 = 0 → a_rdO 500 (a_re0 α) 100 20 = nI R ∧ R ≤ 401 ∧ aW (a_rdO 500 (a_re0 α)) ∧ aRd (a_rdO 500 (a_re0 α)) R ∧ aRd2 (a_rdO 500 (a_re0 α)) R) : zTr E (d + 5) mX9_refute [.ref 100] (κ, α, τ) (some (.int (a_refute α).1)) (κ, (a_refute α).2, τ) := by
  refine zM.tr (zM_of [some (.ref 100), none, none] (by decide) rfl (Nat.le_of_ble_eq_true rfl) ?_)
  refine x_aload_n (pc := 0) 0 dX9_refute_0 rfl rfl ?_
  refine x_iconst (pc := 1) (nI 0) dX9_refute_1 (by decide) ?_
  refine x_puti_h (pc := 2) dX9_refute_2 pX9_63 (zat_b rfl rfl) rfl rfl ?_
  refine x_aload_n (pc := 5) 0 dX9_refute_5 rfl rfl ?_
  refine x_callV0v (pc := 6) dX9_refute_6 lX9_214 (zat_b rfl rfl) rfl (t_startsText (d + 3)) (Nat.le_of_ble_eq_true rfl) (Or.inl zgr) ?_
  refine x_aload_n (pc := 9) 0 dX9_refute_9 rfl rfl ?_
  refine x_iconst (pc := 10) (nI 0) dX9_refute_10 (by decide) ?_
  refine x_puti_h (pc := 11) dX9_refute_11 pX9_217 (zat_b rfl rfl) rfl rfl ?_
  refine x_aload_n (pc := 14) 0 dX9_refute_14 rfl rfl ?_
  refine x_getr (pc := 15) (119) dX9_refute_15 fX9_50 (zat_b rfl rfl) rfl ?_
  refine x_iconst (pc := 18) (nI 0) dX9_refute_18 (by decide) ?_
  refine x_iconst (pc := 19) (nI 0) dX9_refute_19 (by decide) ?_
  have hj20 : 0 < 402 := by omega
  refine x_iast_h (pc := 20) (0) dX9_refute_20 (zar_b rfl rfl rfl) rfl (by first | rfl | simp only [pk_mul, nI_add] | simp only [zon, pk_mul, nI_add]) hj20 (Nat.lt_of_lt_of_le hj20 (by decide)) ?_
  show zX E (d + 5) mX9_refute 21 _ [] (κ, a_re0 α, τ) _
  refine l_rdO d _ 500 (a_re0 α) hO (fun w1 w2 => ?_) _ _
  unfold a_refute
  generalize a_rdO 500 (a_re0 α) = β at hz ⊢
  by_cases hf : β 100 25 = 0
  · rw [if_pos hf]
    obtain ⟨z1, z2, z3, z4, z5⟩ := hz hf
    have hRm : aRm β = R := by unfold aRm; rw [z1]; exact nI_clamp (by omega)
    rw [hRm]
    refine zX.sub (ls' := [some (.ref 100), none, none]) (zs1 (zsn (zsn zse))) ?_
    refine x_aload_n (pc := 119) 0 dX9_refute_119 rfl rfl ?_
    refine x_geti_h (pc := 120) dX9_refute_120 fX9_220 (zat_b rfl rfl) rfl rfl ?_
    refine x_if_eq_t (pc := 123) 128 dX9_refute_123 (by decide) (hf) ?_
    refine x_aload_n (pc := 128) 0 dX9_refute_128 rfl rfl ?_
    refine x_getr (pc := 129) (101) dX9_refute_129 fX9_7 (zat_b rfl rfl) rfl ?_
    refine x_bipush (pc := 132) (nI 15) dX9_refute_132 (by decide) ?_
    refine x_iconst (pc := 134) (nI 0) dX9_refute_134 (by decide) ?_
    have hj135 : 15 < 13326 := by omega
    refine x_iast_h (pc := 135) (15) dX9_refute_135 (zar_b rfl rfl rfl) rfl (by first | rfl | simp only [pk_mul, nI_add] | simp only [zon, pk_mul, nI_add]) hj135 (Nat.lt_of_lt_of_le hj135 (by decide)) ?_
    refine x_iconst (pc := 136) (nI 0) dX9_refute_136 (by decide) ?_
    refine x_istore_n (pc := 137) 1 dX9_refute_137 rfl (by decide) rfl ?_
    have o3 : zoff [101] β (zup β 101 15 (nI 0)) := zoff.rf.up (by decide)
    refine l_rfK d R 0 _ (by omega) (by rw [zup_p (by decide)]; exact z1) (aW_zup z3 (Or.inr (by omega))) (z4.off o3 (by decide) (by decide)) ?_ _
    have q1 := o3 118 (by decide)
    have q2 := o3 119 (by decide)
    unfold aRd2 aF at *
    rw [q1, q2]
    exact z5
  · rw [if_neg hf]
    refine x_aload_n (pc := 119) 0 dX9_refute_119 rfl rfl ?_
    refine x_geti_h (pc := 120) dX9_refute_120 fX9_220 (zat_b rfl rfl) rfl rfl ?_
    refine x_if_eq_f (pc := 123) 128 dX9_refute_123 (by decide) (hf) ?_
    refine x_iconst (pc := 126) (-1) dX9_refute_126 (by decide) ?_
    refine x_iret (pc := 127) dX9_refute_127 rfl ?_
    exact ⟨rfl, rfl⟩
end M28
