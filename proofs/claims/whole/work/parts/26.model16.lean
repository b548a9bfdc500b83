/-! the reference: numbers, literals, words of a text -/
def a_dgt (α : Nat → Nat → Int32) (i : Nat) : Bool := a_dig (α 121 i)
def a_numF (α : Nat → Nat → Int32) (p i v : Nat) : Nat := if i - p < 2 then 10 * v + (α 121 i).toNatClampNeg - 48 else v
def a_numL (α : Nat → Nat → Int32) (p : Nat) : Nat → Nat → Nat → Nat
  | 0, _, v => v
  | m + 1, i, v => bif a_dgt α i then a_numL α p m (i + 1) (a_numF α p i v) else v
/-- where a number ends -/
def a_nq (α : Nat → Nat → Int32) : Nat := if a_dig (a_chr α) = true then zspan (a_dgt α) (aLen α - a_hp α) (a_hp α) else a_hp α
def a_nv (α : Nat → Nat → Int32) : Nat := if a_dig (a_chr α) = true then a_numL α (a_hp α) (aLen α - a_hp α) (a_hp α) 0 else 0
def a_number (α : Nat → Nat → Int32) : Nat → Nat → Int32 :=
  if 1 ≤ a_nq α - a_hp α ∧ a_nq α - a_hp α ≤ 2 then zup α 100 24 (nI (a_nq α)) else a_fails (zup α 100 24 (nI (a_nq α))) (nI 1) (nI (a_hp α))
theorem a_dig_t {x : Int32} (h : a_dig x = true) : ∃ t, 48 ≤ t ∧ t ≤ 57 ∧ x = nI t := by
  unfold a_dig at h
  simp only [Bool.and_eq_true, decide_eq_true_eq] at h
  obtain ⟨j, hj, rfl⟩ := nI_of (x := x) (Int32.not_lt.mpr (Int32.le_trans (by decide) h.1))
  exact ⟨j, (nI_leI (by decide) hj).mp h.1, (nI_leI hj (by decide)).mp h.2, rfl⟩
theorem a_nq_le (α : Nat → Nat → Int32) (h : aWT α) : a_hp α ≤ a_nq α ∧ a_nq α ≤ 1000 := by
  have h1 := a_hp_le h
  have h2 := zspan_ge (a_dgt α) (aLen α - a_hp α) (a_hp α)
  have h3 := h.2.2.2
  unfold a_nq
  split <;> omega
theorem aWT.fails {α : Nat → Nat → Int32} {k w : Int32} (h : aWT α) : aWT (a_fails α k w) := by
  unfold a_fails
  split
  · exact h.up (Or.inr (by decide))
  · exact h
theorem a_number_WT {α : Nat → Nat → Int32} (h : aWT α) : aWT (a_number α) := by
  have h1 := a_nq_le α h
  unfold a_number
  split
  · exact h.to h1.2
  · exact (h.to h1.2).fails
section M17
variable {E : zEnv} {κ α : Nat → Nat → Int32} {τ : (Nat → Nat → Int64) × (Nat → Nat)}
theorem l_number (d : Nat) {L p : Nat} (hL : α 100 23 = nI L) (hL4 : L ≤ 400) (hp4 : p ≤ 1000) (P : Option Value → zMem → Prop) : ∀ m i v, (i + m = L ∨ m = 0 ∧ L ≤ i) → i ≤ 1000 → p ≤ i → (i = p → v = 0) → (i = p + 1 → v ≤ 9) → v ≤ 99 → (a_numL α p m i v ≤ 99 → zX E (d + 3) mX9_number 91 [some (.ref 100), some (.int (zbo true)), some (.int (nI p)), some (.int (nI (a_numL α p m i v)))] [] (κ, zup α 100 24 (nI (zspan (a_dgt α) m i)), τ) P) → zX E (d + 3) mX9_number 12 [some (.ref 100), some (.int (zbo true)), some (.int (nI p)), some (.int (nI v))] [] (κ, zup α 100 24 (nI i), τ) P := by
  intro m
  induction m with
  | zero =>
    intro i v hm hi hpi hv0 hv1 hv K
    have hge : L ≤ i := by omega
    refine x_iload_n (pc := 12) 1 dX9_number_12 rfl rfl ?_
    refine x_if_eq_f (pc := 13) 91 dX9_number_13 (by decide) (by decide) ?_
    refine x_aload_n (pc := 16) 0 dX9_number_16 rfl rfl ?_
    refine x_geti_h (pc := 17) dX9_number_17 fX9_233 (zat_b rfl rfl) rfl rfl ?_
    refine x_aload_n (pc := 20) 0 dX9_number_20 rfl rfl ?_
    refine x_geti_h (pc := 21) dX9_number_21 fX9_242 (zat_b rfl rfl) rfl rfl ?_
    rw [zup_same, zup_i (by decide), hL]
    refine x_icmp_ge_t (pc := 24) 91 dX9_number_24 (by decide) (nI_le hge (by omega)) ?_
    exact K hv
  | succ m ih =>
    intro i v hm hi hpi hv0 hv1 hv K
    have hlt : i < L := by omega
    have e1 : zspan (a_dgt α) (m + 1) i = bif a_dgt α i then zspan (a_dgt α) m (i + 1) else i := rfl
    have e2 : a_numL α p (m + 1) i v = bif a_dgt α i then a_numL α p m (i + 1) (a_numF α p i v) else v := rfl
    rw [e1, e2] at K
    refine x_iload_n (pc := 12) 1 dX9_number_12 rfl rfl ?_
    refine x_if_eq_f (pc := 13) 91 dX9_number_13 (by decide) (by decide) ?_
    refine x_aload_n (pc := 16) 0 dX9_number_16 rfl rfl ?_
    refine x_geti_h (pc := 17) dX9_number_17 fX9_233 (zat_b rfl rfl) rfl rfl ?_
    refine x_aload_n (pc := 20) 0 dX9_number_20 rfl rfl ?_
    refine x_geti_h (pc := 21) dX9_number_21 fX9_242 (zat_b rfl rfl) rfl rfl ?_
    rw [zup_same, zup_i (by decide), hL]
    refine x_icmp_ge_f (pc := 24) 91 dX9_number_24 (by decide) (nI_ge hlt (by omega)) ?_
    refine x_aload_n (pc := 27) 0 dX9_number_27 rfl rfl ?_
    refine x_getr (pc := 28) (121) dX9_number_28 fX9_53 (zat_b rfl rfl) rfl ?_
    refine x_aload_n (pc := 31) 0 dX9_number_31 rfl rfl ?_
    refine x_geti_h (pc := 32) dX9_number_32 fX9_233 (zat_b rfl rfl) rfl rfl ?_
    rw [zup_same]
    have hj35 : i < 400 := by omega
    refine x_bald_h (pc := 35) (i) dX9_number_35 (zar_b rfl rfl rfl) rfl (by first | rfl | simp only [pk_mul, nI_add] | simp only [zon, pk_mul, nI_add]) hj35 (Nat.lt_of_lt_of_le hj35 (by decide)) ?_
    rw [zup_p (by decide)]
    refine x_bipush (pc := 36) (nI 48) dX9_number_36 (by decide) ?_
    refine x_bipush (pc := 38) (nI 57) dX9_number_38 (by decide) ?_
    refine x_callS3i (pc := 40) dX9_number_40 lX9_67 (t_isIn (d + 1) _ _ _) (Nat.le_of_ble_eq_true rfl) (Or.inl zgr) ?_
    show zX E (d + 3) mX9_number 43 _ [.int (zbo (a_dgt α i))] _ _
    cases hd : a_dgt α i with
    | false =>
      rw [hd, cond_false, cond_false] at K
      refine x_if_eq_t (pc := 43) 91 dX9_number_43 (by decide) (rfl) ?_
      exact K hv
    | true =>
      rw [hd, cond_true, cond_true] at K
      obtain ⟨t, t1, t2, ht⟩ := a_dig_t hd
      have J : ∀ v', v' = a_numF α p i v → (v' ≤ 99 ∧ (i + 1 = p + 1 → v' ≤ 9)) → zX E (d + 3) mX9_number 77 [some (.ref 100), some (.int (zbo true)), some (.int (nI p)), some (.int (nI v))] [.int (nI v')] (κ, zup α 100 24 (nI i), τ) P := by
        intro v' hv' hb
        refine x_istore_n (pc := 77) 3 dX9_number_77 rfl (by decide) rfl ?_
        refine x_aload_n (pc := 78) 0 dX9_number_78 rfl rfl ?_
        refine x_dup (pc := 79) dX9_number_79 rfl ?_
        refine x_geti_h (pc := 80) dX9_number_80 fX9_233 (zat_b rfl rfl) rfl rfl ?_
        rw [zup_same]
        refine x_iconst (pc := 83) (nI 1) dX9_number_83 (by decide) ?_
        refine x_iadd (pc := 84) dX9_number_84 ?_
        rw [nI_add]
        refine x_puti_h (pc := 85) dX9_number_85 pX9_233 (zat_b rfl rfl) rfl rfl ?_
        refine x_goto (pc := 88) 12 dX9_number_88 (by decide) ?_
        rw [zup_zup]
        refine ih (i + 1) v' (by omega) (by omega) (by omega) (by omega) hb.2 hb.1 (fun q => ?_)
        rw [← hv'] at K
        exact K q
      refine x_if_eq_f (pc := 43) 91 dX9_number_43 (by decide) (by decide) ?_
      refine x_aload_n (pc := 46) 0 dX9_number_46 rfl rfl ?_
      refine x_geti_h (pc := 47) dX9_number_47 fX9_233 (zat_b rfl rfl) rfl rfl ?_
      rw [zup_same]
      refine x_iload_n (pc := 50) 2 dX9_number_50 rfl rfl ?_
      refine x_isub (pc := 51) dX9_number_51 ?_
      refine x_iconst (pc := 52) (nI 2) dX9_number_52 (by decide) ?_
      rw [pk_sub hpi]
      by_cases h2 : i - p < 2
      · have hF : a_numF α p i v = 10 * v + t - 48 := by unfold a_numF; rw [if_pos h2, ht, nI_clamp (by omega)]
        refine x_icmp_ge_f (pc := 53) 76 dX9_number_53 (by decide) (nI_ge h2 (by omega)) ?_
        refine x_bipush (pc := 56) (nI 10) dX9_number_56 (by decide) ?_
        refine x_iload_n (pc := 58) 3 dX9_number_58 rfl rfl ?_
        refine x_imul (pc := 59) dX9_number_59 ?_
        refine x_aload_n (pc := 60) 0 dX9_number_60 rfl rfl ?_
        refine x_getr (pc := 61) (121) dX9_number_61 fX9_53 (zat_b rfl rfl) rfl ?_
        refine x_aload_n (pc := 64) 0 dX9_number_64 rfl rfl ?_
        refine x_geti_h (pc := 65) dX9_number_65 fX9_233 (zat_b rfl rfl) rfl rfl ?_
        rw [zup_same]
        have hj68 : i < 400 := by omega
        refine x_bald_h (pc := 68) (i) dX9_number_68 (zar_b rfl rfl rfl) rfl (by first | rfl | simp only [pk_mul, nI_add] | simp only [zon, pk_mul, nI_add]) hj68 (Nat.lt_of_lt_of_le hj68 (by decide)) ?_
        rw [zup_p (by decide), ht, pk_mul]
        refine x_iadd (pc := 69) dX9_number_69 ?_
        rw [nI_add]
        refine x_bipush (pc := 70) (nI 48) dX9_number_70 (by decide) ?_
        refine x_isub (pc := 72) dX9_number_72 ?_
        rw [pk_sub (by omega)]
        refine x_goto (pc := 73) 77 dX9_number_73 (by decide) ?_
        refine J _ hF.symm ?_
        rcases Nat.eq_or_lt_of_le hpi with e | e
        · have := hv0 e.symm; omega
        · have := hv1 (by omega); omega
      · have hF : a_numF α p i v = v := by unfold a_numF; rw [if_neg h2]
        refine x_icmp_ge_t (pc := 53) 76 dX9_number_53 (by decide) (nI_le (by omega) (by omega)) ?_
        refine x_iload_n (pc := 76) 3 dX9_number_76 rfl rfl ?_
        exact J _ hF.symm ⟨hv, by omega⟩
theorem a_nv_99 (α : Nat → Nat → Int32) : a_nv α ≤ 99 := by
  unfold a_nv
  split
  · have hb : ∀ m i v p, (i = p → v = 0) → (i = p + 1 → v ≤ 9) → p ≤ i → v ≤ 99 → a_numL α p m i v ≤ 99 := by
      intro m
      induction m with
      | zero => intro i v p _ _ _ hv; exact hv
      | succ m ih =>
        intro i v p h0 h1 hpi hv
        show (bif a_dgt α i then a_numL α p m (i + 1) (a_numF α p i v) else v) ≤ 99
        cases hd : a_dgt α i with
        | false => exact hv
        | true =>
          obtain ⟨t, t1, t2, ht⟩ := a_dig_t hd
          have hF : a_numF α p i v ≤ 99 ∧ (i + 1 = p + 1 → a_numF α p i v ≤ 9) := by
            unfold a_numF
            rw [ht, nI_clamp (by omega)]
            split
            · rcases Nat.eq_or_lt_of_le hpi with e | e
              · have := h0 e.symm; omega
              · have := h1 (by omega); omega
            · exact ⟨hv, by omega⟩
          exact ih (i + 1) _ p (by omega) hF.2 (by omega) hF.1
    exact hb _ _ _ _ (fun _ => rfl) (by omega) (Nat.le_refl _) (by omega)
  · omega
theorem t_number (d : Nat) (h : aWT α) : a_nv α ≤ 99 ∧ zTr E (d + 3) mX9_number [.ref 100] (κ, α, τ) (some (.int (nI (a_nv α)))) (κ, a_number α, τ) := by
  obtain ⟨w1, w2, w3, w4⟩ := id h
  have hh := a_hp_le h
  have key : ∀ (Q : Nat) (v q : Nat) (bb : Bool), a_hp α ≤ q → q ≤ 1000 → v = a_nv α → q = a_nq α → zX E (d + 3) mX9_number 91 [some (.ref 100), some (.int (zbo bb)), some (.int (nI (a_hp α))), some (.int (nI v))] [] (κ, zup α 100 24 (nI q), τ) (fun a m => a = some (.int (nI (a_nv α))) ∧ m = (κ, a_number α, τ)) := by
    intro Q v q bb h1 h1' h2 h3
    unfold a_number
    rw [← h3]
    refine x_aload_n (pc := 91) 0 dX9_number_91 rfl rfl ?_
    refine x_geti_h (pc := 92) dX9_number_92 fX9_233 (zat_b rfl rfl) rfl rfl ?_
    rw [zup_same]
    refine x_iload_n (pc := 95) 2 dX9_number_95 rfl rfl ?_
    refine x_isub (pc := 96) dX9_number_96 ?_
    rw [pk_sub h1]
    refine x_iconst (pc := 97) (nI 1) dX9_number_97 (by decide) ?_
    refine x_iconst (pc := 98) (nI 2) dX9_number_98 (by decide) ?_
    refine x_callS3i (pc := 99) dX9_number_99 lX9_67 (t_isIn (d + 1) _ _ _) (Nat.le_of_ble_eq_true rfl) (Or.inl zgr) ?_
    by_cases h4 : 1 ≤ q - a_hp α ∧ q - a_hp α ≤ 2
    · rw [if_pos h4]
      have hb : (decide (nI 1 ≤ nI (q - a_hp α)) && decide (nI (q - a_hp α) ≤ nI 2)) = true := by simp [nI_le h4.1 (by omega), nI_le h4.2 (by omega)]
      rw [hb]
      refine x_if_ne_t (pc := 102) 111 dX9_number_102 (by decide) (by decide) ?_
      refine x_iload_n (pc := 111) 3 dX9_number_111 rfl rfl ?_
      refine x_iret (pc := 112) dX9_number_112 rfl ?_
      exact ⟨by rw [h2], rfl⟩
    · rw [if_neg h4]
      have hb : (decide (nI 1 ≤ nI (q - a_hp α)) && decide (nI (q - a_hp α) ≤ nI 2)) = false := by
        refine zbf (fun z => h4 ?_)
        simp only [Bool.and_eq_true, decide_eq_true_eq] at z
        exact ⟨(nI_leI (by omega) (by omega)).mp z.1, (nI_leI (by omega) (by omega)).mp z.2⟩
      rw [hb]
      refine x_if_ne_f (pc := 102) 111 dX9_number_102 (by decide) (rfl) ?_
      refine x_aload_n (pc := 105) 0 dX9_number_105 rfl rfl ?_
      refine x_iconst (pc := 106) (nI 1) dX9_number_106 (by decide) ?_
      refine x_iload_n (pc := 107) 2 dX9_number_107 rfl rfl ?_
      refine x_callV2v (pc := 108) dX9_number_108 lX9_248 (zat_b rfl rfl) rfl (t_fails (d + 1) (nI 1) (nI (a_hp α))) (Nat.le_of_ble_eq_true rfl) (Or.inl zgr) ?_
      refine x_iload_n (pc := 111) 3 dX9_number_111 rfl rfl ?_
      refine x_iret (pc := 112) dX9_number_112 rfl ?_
      exact ⟨by rw [h2], rfl⟩
  have hL' : a_here α 100 23 = nI (aLen α) := by unfold a_here; rw [zup_i (by decide)]; exact w3
  have hdg : a_dgt (a_here α) = a_dgt α := by funext i; unfold a_dgt a_here; rw [zup_p (by decide)]
  have bound : a_nv α ≤ 99 := a_nv_99 α
  refine ⟨bound, ?_⟩
  refine zM.tr (zM_of [some (.ref 100), none, none, none] (by decide) rfl (Nat.le_of_ble_eq_true rfl) ?_)
  refine x_aload_n (pc := 0) 0 dX9_number_0 rfl rfl ?_
  refine x_callV0i (pc := 1) dX9_number_1 lX9_245 (zat_b rfl rfl) rfl (t_isDigit d h) (Nat.le_of_ble_eq_true rfl) (Or.inl zgr) ?_
  refine x_istore_n (pc := 4) 1 dX9_number_4 rfl (by decide) rfl ?_
  refine x_aload_n (pc := 5) 0 dX9_number_5 rfl rfl ?_
  refine x_geti_h (pc := 6) dX9_number_6 fX9_233 (zat_b rfl rfl) rfl rfl ?_
  have hpl : a_here α 100 24 = nI (a_hp α) := by unfold a_here; rw [zup_same]
  rw [hpl]
  cases hd : a_dig (a_chr α) with
  | false =>
    refine x_istore_n (pc := 9) 2 dX9_number_9 rfl (by decide) rfl ?_
    refine x_iconst (pc := 10) (nI 0) dX9_number_10 (by decide) ?_
    refine x_istore_n (pc := 11) 3 dX9_number_11 rfl (by decide) rfl ?_
    refine x_iload_n (pc := 12) 1 dX9_number_12 rfl rfl ?_
    refine x_if_eq_t (pc := 13) 91 dX9_number_13 (by decide) (rfl) ?_
    exact key 0 0 (a_hp α) false (Nat.le_refl _) hh.1 (by unfold a_nv; rw [hd]; rfl) (by unfold a_nq; rw [hd]; rfl)
  | true =>
    refine x_istore_n (pc := 9) 2 dX9_number_9 rfl (by decide) rfl ?_
    refine x_iconst (pc := 10) (nI 0) dX9_number_10 (by decide) ?_
    refine x_istore_n (pc := 11) 3 dX9_number_11 rfl (by decide) rfl ?_
    refine l_number d w3 w4 hh.1 _ (aLen α - a_hp α) (a_hp α) 0 (by omega) hh.1 (Nat.le_refl _) (fun _ => rfl) (by omega) (by omega) (fun q => ?_)
    have g := zspan_ge (a_dgt α) (aLen α - a_hp α) (a_hp α)
    exact key 0 _ _ true g.1 (by omega) (by unfold a_nv; rw [hd]; rfl) (by unfold a_nq; rw [hd]; rfl)
end M17
