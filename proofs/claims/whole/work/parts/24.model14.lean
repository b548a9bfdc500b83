/-! the reference: clause, lines, the tape -/
/-- the lines of the log name clauses, or none -/
def aWL (α : Nat → Nat → Int32) : Prop := α 101 6 = nI (aLn α) ∧ aLn α ≤ 401 ∧ ∀ k, k < aLn α → α 101 (925 + k) = -1 ∨ ∃ c, c < aN α ∧ α 101 (925 + k) = nI c
def a_clB (α : Nat → Nat → Int32) (c w : Int32) : Bool := (decide (nI 0 ≤ c) && decide (c ≤ α 101 1 - nI 1)) && (decide (-3 ≤ w) && decide (w ≤ α 101 (125 + c.toNatClampNeg) - nI 1))
def a_clV (α : Nat → Nat → Int32) (c w : Int32) : Int32 :=
  if w = -1 then α 101 (125 + c.toNatClampNeg) else if w = -2 then zbo (a_learnt α c.toNatClampNeg) else if w = -3 then zbo (a_gone α c.toNatClampNeg) else aL α c.toNatClampNeg w.toNatClampNeg
def a_clause (α : Nat → Nat → Int32) (c w : Int32) : Int32 × (Nat → Nat → Int32) := if a_clB α c w = true then (a_clV α c w, zup α 100 0 (nI 0)) else (nI 0, zup α 100 0 (nI 1))
theorem zm3 {w : Int32} {n : Nat} (hn : n < 2 ^ 29) (h : (decide (-3 ≤ w) && decide (w ≤ nI n - nI 1)) = true) : w = -3 ∨ w = -2 ∨ w = -1 ∨ ∃ k, k < n ∧ w = nI k := by
  simp only [Bool.and_eq_true, decide_eq_true_eq, Int32.le_iff_toInt_le, pk_sub_toInt (a := n) (b := 1) (by omega) (by decide)] at h
  have h3 : (-3 : Int32).toInt = -3 := by decide
  rw [h3] at h
  have h0 : w.toInt = -3 ∨ w.toInt = -2 ∨ w.toInt = -1 ∨ 0 ≤ w.toInt := by omega
  rcases h0 with e | e | e | e
  · exact Or.inl (Int32.toInt_inj.mp (e.trans (by decide)))
  · exact Or.inr (Or.inl (Int32.toInt_inj.mp (e.trans (by decide))))
  · exact Or.inr (Or.inr (Or.inl (Int32.toInt_inj.mp (e.trans (by decide)))))
  · obtain ⟨k, hk, rfl⟩ := nI_of (x := w) (fun q => by have := Int32.lt_iff_toInt_lt.mp q; rw [show (0 : Int32).toInt = 0 from rfl] at this; omega)
    rw [nI_toInt hk] at h
    exact Or.inr (Or.inr (Or.inr ⟨k, by omega, rfl⟩))
section M15
variable {E : zEnv} {κ α : Nat → Nat → Int32} {τ : (Nat → Nat → Int64) × (Nat → Nat)}
theorem t_clause (d : Nat) (c w : Int32) (hW : aW α) : zTr E (d + 2) mX9_clause [.ref 100, .int c, .int w] (κ, α, τ) (some (.int (a_clause α c w).1)) (κ, (a_clause α c w).2, τ) := by
  have hn4 := hW.n400
  refine zM.tr (zM_of [some (.ref 100), some (.int c), some (.int w)] (by decide) rfl (Nat.le_of_ble_eq_true rfl) ?_)
  have bad : a_clB α c w = false → zX E (d + 2) mX9_clause 37 [some (.ref 100), some (.int c), some (.int w)] [.ref 100] (κ, α, τ) (fun a m => a = some (.int (a_clause α c w).1) ∧ m = (κ, (a_clause α c w).2, τ)) := by
    intro h
    refine x_iconst (pc := 37) (nI 1) dX9_clause_37 (by decide) ?_
    refine x_puti_h (pc := 38) dX9_clause_38 pX9_63 (zat_b rfl rfl) rfl rfl ?_
    refine x_aload_n (pc := 41) 0 dX9_clause_41 rfl rfl ?_
    refine x_geti_h (pc := 42) dX9_clause_42 fX9_63 (zat_b rfl rfl) rfl rfl ?_
    rw [zup_same]
    refine x_iconst (pc := 45) (nI 1) dX9_clause_45 (by decide) ?_
    refine x_icmp_ne_f (pc := 46) 51 dX9_clause_46 (by decide) (rfl) ?_
    refine x_iconst (pc := 49) (nI 0) dX9_clause_49 (by decide) ?_
    refine x_iret (pc := 50) dX9_clause_50 rfl ?_
    unfold a_clause
    rw [if_neg (by rw [h]; decide)]
    exact ⟨rfl, rfl⟩
  refine x_aload_n (pc := 0) 0 dX9_clause_0 rfl rfl ?_
  refine x_iload_n (pc := 1) 1 dX9_clause_1 rfl rfl ?_
  refine x_iconst (pc := 2) (nI 0) dX9_clause_2 (by decide) ?_
  refine x_aload_n (pc := 3) 0 dX9_clause_3 rfl rfl ?_
  refine x_getr (pc := 4) (101) dX9_clause_4 fX9_7 (zat_b rfl rfl) rfl ?_
  refine x_iconst (pc := 7) (nI 1) dX9_clause_7 (by decide) ?_
  have hj8 : 1 < 13326 := by omega
  refine x_iald_h (pc := 8) (1) dX9_clause_8 (zar_b rfl rfl rfl) rfl (by first | rfl | simp only [pk_mul, nI_add] | simp only [zon, pk_mul, nI_add]) hj8 (Nat.lt_of_lt_of_le hj8 (by decide)) ?_
  rw [hW.n]
  refine x_iconst (pc := 9) (nI 1) dX9_clause_9 (by decide) ?_
  refine x_isub (pc := 10) dX9_clause_10 ?_
  refine x_callS3i (pc := 11) dX9_clause_11 lX9_67 (t_isIn d _ _ _) (Nat.le_of_ble_eq_true rfl) (Or.inl zgr) ?_
  cases h1 : (decide (nI 0 ≤ c) && decide (c ≤ nI (aN α) - nI 1)) with
  | false =>
    refine x_if_eq_t (pc := 14) 37 dX9_clause_14 (by decide) (rfl) ?_
    exact bad (by unfold a_clB; rw [hW.n, h1]; rfl)
  | true =>
    obtain ⟨j, hj, rfl⟩ := (zidx (by omega)).mp h1
    have hs := hW.s30 hj
    have hcl : (nI j).toNatClampNeg = j := nI_clamp (by omega)
    refine x_if_eq_f (pc := 14) 37 dX9_clause_14 (by decide) (by decide) ?_
    refine x_iload_n (pc := 17) 2 dX9_clause_17 rfl rfl ?_
    refine x_bipush (pc := 18) (-3) dX9_clause_18 (by decide) ?_
    refine x_aload_n (pc := 20) 0 dX9_clause_20 rfl rfl ?_
    refine x_iload_n (pc := 21) 1 dX9_clause_21 rfl rfl ?_
    refine x_callV1i (pc := 22) dX9_clause_22 lX9_99 (zat_b rfl rfl) rfl (t_sizeOfW d hW hj) (Nat.le_of_ble_eq_true rfl) (Or.inl zgr) ?_
    refine x_iconst (pc := 25) (nI 1) dX9_clause_25 (by decide) ?_
    refine x_isub (pc := 26) dX9_clause_26 ?_
    refine x_callS3i (pc := 27) dX9_clause_27 lX9_67 (t_isIn d _ _ _) (Nat.le_of_ble_eq_true rfl) (Or.inl zgr) ?_
    cases h2 : (decide (-3 ≤ w) && decide (w ≤ nI (aS α j) - nI 1)) with
    | false =>
      refine x_if_eq_t (pc := 30) 37 dX9_clause_30 (by decide) (rfl) ?_
      exact bad (by unfold a_clB; rw [hW.n, h1, hcl, hW.s hj, h2]; rfl)
    | true =>
      have hB : a_clB α (nI j) w = true := by unfold a_clB; rw [hW.n, h1, hcl, hW.s hj, h2]; rfl
      have hr : a_clause α (nI j) w = (a_clV α (nI j) w, zup α 100 0 (nI 0)) := by unfold a_clause; rw [if_pos hB]
      rw [hr]
      have ho : zoff [100] α (zup α 100 0 (nI 0)) := zoff.rf.up (by decide)
      have hW0 := hW.off ho (by decide)
      have hj0 : j < aN (zup α 100 0 (nI 0)) := by rw [zo_N ho (by decide)]; exact hj
      have eg : a_gone (zup α 100 0 (nI 0)) j = a_gone α j := by unfold a_gone; rw [zup_p (by decide)]
      have el : a_learnt (zup α 100 0 (nI 0)) j = a_learnt α j := by unfold a_learnt; rw [zup_p (by decide)]
      refine x_if_eq_f (pc := 30) 37 dX9_clause_30 (by decide) (by decide) ?_
      refine x_iconst (pc := 33) (nI 0) dX9_clause_33 (by decide) ?_
      refine x_goto (pc := 34) 38 dX9_clause_34 (by decide) ?_
      refine x_puti_h (pc := 38) dX9_clause_38 pX9_63 (zat_b rfl rfl) rfl rfl ?_
      refine x_aload_n (pc := 41) 0 dX9_clause_41 rfl rfl ?_
      refine x_geti_h (pc := 42) dX9_clause_42 fX9_63 (zat_b rfl rfl) rfl rfl ?_
      rw [zup_same]
      unfold a_clV
      rw [hcl]
      rcases zm3 (by omega) h2 with rfl | rfl | rfl | ⟨k, hk, rfl⟩
      · rw [if_neg (by decide), if_neg (by decide), if_pos rfl]
        refine x_iconst (pc := 45) (nI 1) dX9_clause_45 (by decide) ?_
        refine x_icmp_ne_t (pc := 46) 51 dX9_clause_46 (by decide) (by decide) ?_
        refine x_iload_n (pc := 51) 2 dX9_clause_51 rfl rfl ?_
        refine x_tableIn (pc := 52) (off := 48) 100 dX9_clause_52  (by decide) (by decide) (by decide) (by decide) ?_
        refine x_aload_n (pc := 100) 0 dX9_clause_100 rfl rfl ?_
        refine x_iload_n (pc := 101) 1 dX9_clause_101 rfl rfl ?_
        refine x_callV1i (pc := 102) dX9_clause_102 lX9_96 (zat_b rfl rfl) rfl (t_isGone d j (by omega)) (Nat.le_of_ble_eq_true rfl) (Or.inl zgr) ?_
        rw [eg]
        cases h3 : a_gone α j with
        | true =>
          refine x_if_eq_f (pc := 105) 112 dX9_clause_105 (by decide) (by decide) ?_
          refine x_iconst (pc := 108) (nI 1) dX9_clause_108 (by decide) ?_
          refine x_goto (pc := 109) 113 dX9_clause_109 (by decide) ?_
          refine x_iret (pc := 113) dX9_clause_113 rfl ?_
          exact ⟨rfl, rfl⟩
        | false =>
          refine x_if_eq_t (pc := 105) 112 dX9_clause_105 (by decide) (rfl) ?_
          refine x_iconst (pc := 112) (nI 0) dX9_clause_112 (by decide) ?_
          refine x_iret (pc := 113) dX9_clause_113 rfl ?_
          exact ⟨rfl, rfl⟩
      · rw [if_neg (by decide), if_pos rfl]
        refine x_iconst (pc := 45) (nI 1) dX9_clause_45 (by decide) ?_
        refine x_icmp_ne_t (pc := 46) 51 dX9_clause_46 (by decide) (by decide) ?_
        refine x_iload_n (pc := 51) 2 dX9_clause_51 rfl rfl ?_
        refine x_tableIn (pc := 52) (off := 34) 86 dX9_clause_52  (by decide) (by decide) (by decide) (by decide) ?_
        refine x_aload_n (pc := 86) 0 dX9_clause_86 rfl rfl ?_
        refine x_iload_n (pc := 87) 1 dX9_clause_87 rfl rfl ?_
        refine x_callV1i (pc := 88) dX9_clause_88 lX9_93 (zat_b rfl rfl) rfl (t_isLearnt d j (by omega)) (Nat.le_of_ble_eq_true rfl) (Or.inl zgr) ?_
        rw [el]
        cases h3 : a_learnt α j with
        | true =>
          refine x_if_eq_f (pc := 91) 98 dX9_clause_91 (by decide) (by decide) ?_
          refine x_iconst (pc := 94) (nI 1) dX9_clause_94 (by decide) ?_
          refine x_goto (pc := 95) 99 dX9_clause_95 (by decide) ?_
          refine x_iret (pc := 99) dX9_clause_99 rfl ?_
          exact ⟨rfl, rfl⟩
        | false =>
          refine x_if_eq_t (pc := 91) 98 dX9_clause_91 (by decide) (rfl) ?_
          refine x_iconst (pc := 98) (nI 0) dX9_clause_98 (by decide) ?_
          refine x_iret (pc := 99) dX9_clause_99 rfl ?_
          exact ⟨rfl, rfl⟩
      · rw [if_pos rfl]
        refine x_iconst (pc := 45) (nI 1) dX9_clause_45 (by decide) ?_
        refine x_icmp_ne_t (pc := 46) 51 dX9_clause_46 (by decide) (by decide) ?_
        refine x_iload_n (pc := 51) 2 dX9_clause_51 rfl rfl ?_
        refine x_tableIn (pc := 52) (off := 28) 80 dX9_clause_52  (by decide) (by decide) (by decide) (by decide) ?_
        refine x_aload_n (pc := 80) 0 dX9_clause_80 rfl rfl ?_
        refine x_iload_n (pc := 81) 1 dX9_clause_81 rfl rfl ?_
        refine x_callV1i (pc := 82) dX9_clause_82 lX9_99 (zat_b rfl rfl) rfl (t_sizeOf d j (by omega)) (Nat.le_of_ble_eq_true rfl) (Or.inl zgr) ?_
        rw [zup_p (by decide)]
        refine x_iret (pc := 85) dX9_clause_85 rfl ?_
        exact ⟨rfl, rfl⟩
      · have hk31 : k < 2 ^ 31 := by omega
        have n1 : ¬ nI k = -1 := nI_nem1 hk31
        have n2 : ¬ nI k = -2 := fun q => by have := congrArg Int32.toInt q; rw [nI_toInt hk31] at this; simp at this
        have n3 : ¬ nI k = -3 := fun q => by have := congrArg Int32.toInt q; rw [nI_toInt hk31] at this; simp at this
        rw [if_neg n1, if_neg n2, if_neg n3, nI_clamp hk31]
        refine x_iconst (pc := 45) (nI 1) dX9_clause_45 (by decide) ?_
        refine x_icmp_ne_t (pc := 46) 51 dX9_clause_46 (by decide) (by decide) ?_
        refine x_iload_n (pc := 51) 2 dX9_clause_51 rfl rfl ?_
        refine x_tableOut (pc := 52) 114 dX9_clause_52 ( Or.inr (by rw [nI_toInt hk31]; omega)) (by decide) ?_
        refine x_aload_n (pc := 114) 0 dX9_clause_114 rfl rfl ?_
        refine x_iload_n (pc := 115) 1 dX9_clause_115 rfl rfl ?_
        refine x_iload_n (pc := 116) 2 dX9_clause_116 rfl rfl ?_
        refine x_callV2i (pc := 117) dX9_clause_117 lX9_108 (zat_b rfl rfl) rfl (t_literal d j k (by omega) (by omega)) (Nat.le_of_ble_eq_true rfl) (Or.inl zgr) ?_
        rw [zup_p (by decide)]
        refine x_iret (pc := 120) dX9_clause_120 rfl ?_
        exact ⟨rfl, rfl⟩
theorem t_isLine (d : Nat) (k : Int32) : zTr E (d + 2) mX9_isLine [.ref 100, .int k] (κ, α, τ) (some (.int (zbo (decide (nI 0 ≤ k) && decide (k ≤ α 101 6 - nI 1))))) (κ, α, τ) := by
  refine zM.tr (zM_of [some (.ref 100), some (.int k)] (by decide) rfl (Nat.le_of_ble_eq_true rfl) ?_)
  refine x_iload_n (pc := 0) 1 dX9_isLine_0 rfl rfl ?_
  refine x_iconst (pc := 1) (nI 0) dX9_isLine_1 (by decide) ?_
  refine x_aload_n (pc := 2) 0 dX9_isLine_2 rfl rfl ?_
  refine x_getr (pc := 3) (101) dX9_isLine_3 fX9_7 (zat_b rfl rfl) rfl ?_
  refine x_bipush (pc := 6) (nI 6) dX9_isLine_6 (by decide) ?_
  have hj8 : 6 < 13326 := by omega
  refine x_iald_h (pc := 8) (6) dX9_isLine_8 (zar_b rfl rfl rfl) rfl (by first | rfl | simp only [pk_mul, nI_add] | simp only [zon, pk_mul, nI_add]) hj8 (Nat.lt_of_lt_of_le hj8 (by decide)) ?_
  refine x_iconst (pc := 9) (nI 1) dX9_isLine_9 (by decide) ?_
  refine x_isub (pc := 10) dX9_isLine_10 ?_
  refine x_callS3i (pc := 11) dX9_isLine_11 lX9_67 (t_isIn d _ _ _) (Nat.le_of_ble_eq_true rfl) (Or.inl zgr) ?_
  refine x_zret (pc := 14) dX9_isLine_14 rfl (zbo_nar _) ?_
  exact ⟨rfl, rfl⟩
def a_lsz (α : Nat → Nat → Int32) (k : Nat) : Nat := if α 101 (925 + k) = -1 then 0 else aS α (α 101 (925 + k)).toNatClampNeg
theorem t_lineSize (d : Nat) {k : Nat} (hW : aW α) (hk : k < 401) (hL : α 101 (925 + k) = -1 ∨ ∃ c, c < aN α ∧ α 101 (925 + k) = nI c) : zTr E (d + 2) mX9_lineSize [.ref 100, .int (nI k)] (κ, α, τ) (some (.int (nI (a_lsz α k)))) (κ, α, τ) := by
  have hn4 := hW.n400
  refine zM.tr (zM_of [some (.ref 100), some (.int (nI k))] (by decide) rfl (Nat.le_of_ble_eq_true rfl) ?_)
  unfold a_lsz
  rcases hL with h | ⟨c, hc, h⟩
  · rw [if_pos h]
    refine x_aload_n (pc := 0) 0 dX9_lineSize_0 rfl rfl ?_
    refine x_getr (pc := 1) (101) dX9_lineSize_1 fX9_7 (zat_b rfl rfl) rfl ?_
    refine x_sipush (pc := 4) (nI 925) dX9_lineSize_4 (by decide) ?_
    refine x_iload_n (pc := 7) 1 dX9_lineSize_7 rfl rfl ?_
    refine x_iadd (pc := 8) dX9_lineSize_8 ?_
    have hj9 : 925 + k < 13326 := by omega
    refine x_iald_h (pc := 9) (925 + k) dX9_lineSize_9 (zar_b rfl rfl rfl) rfl (by first | rfl | simp only [pk_mul, nI_add] | simp only [zon, pk_mul, nI_add]) hj9 (Nat.lt_of_lt_of_le hj9 (by decide)) ?_
    refine x_iconst (pc := 10) (-1) dX9_lineSize_10 (by decide) ?_
    refine x_icmp_ne_f (pc := 11) 18 dX9_lineSize_11 (by decide) (h) ?_
    refine x_iconst (pc := 14) (nI 0) dX9_lineSize_14 (by decide) ?_
    refine x_goto (pc := 15) 32 dX9_lineSize_15 (by decide) ?_
    refine x_iret (pc := 32) dX9_lineSize_32 rfl ?_
    exact ⟨rfl, rfl⟩
  · have hne : ¬ α 101 (925 + k) = -1 := by rw [h]; exact nI_nem1 (by omega)
    rw [if_neg hne]
    have hcc : (α 101 (925 + k)).toNatClampNeg = c := by rw [h]; exact nI_clamp (by omega)
    rw [hcc]
    refine x_aload_n (pc := 0) 0 dX9_lineSize_0 rfl rfl ?_
    refine x_getr (pc := 1) (101) dX9_lineSize_1 fX9_7 (zat_b rfl rfl) rfl ?_
    refine x_sipush (pc := 4) (nI 925) dX9_lineSize_4 (by decide) ?_
    refine x_iload_n (pc := 7) 1 dX9_lineSize_7 rfl rfl ?_
    refine x_iadd (pc := 8) dX9_lineSize_8 ?_
    have hj9 : 925 + k < 13326 := by omega
    refine x_iald_h (pc := 9) (925 + k) dX9_lineSize_9 (zar_b rfl rfl rfl) rfl (by first | rfl | simp only [pk_mul, nI_add] | simp only [zon, pk_mul, nI_add]) hj9 (Nat.lt_of_lt_of_le hj9 (by decide)) ?_
    refine x_iconst (pc := 10) (-1) dX9_lineSize_10 (by decide) ?_
    refine x_icmp_ne_t (pc := 11) 18 dX9_lineSize_11 (by decide) (hne) ?_
    refine x_aload_n (pc := 18) 0 dX9_lineSize_18 rfl rfl ?_
    refine x_aload_n (pc := 19) 0 dX9_lineSize_19 rfl rfl ?_
    refine x_getr (pc := 20) (101) dX9_lineSize_20 fX9_7 (zat_b rfl rfl) rfl ?_
    refine x_sipush (pc := 23) (nI 925) dX9_lineSize_23 (by decide) ?_
    refine x_iload_n (pc := 26) 1 dX9_lineSize_26 rfl rfl ?_
    refine x_iadd (pc := 27) dX9_lineSize_27 ?_
    have hj28 : 925 + k < 13326 := by omega
    refine x_iald_h (pc := 28) (925 + k) dX9_lineSize_28 (zar_b rfl rfl rfl) rfl (by first | rfl | simp only [pk_mul, nI_add] | simp only [zon, pk_mul, nI_add]) hj28 (Nat.lt_of_lt_of_le hj28 (by decide)) ?_
    rw [h]
    refine x_callV1i (pc := 29) dX9_lineSize_29 lX9_99 (zat_b rfl rfl) rfl (t_sizeOfW d hW hc) (Nat.le_of_ble_eq_true rfl) (Or.inl zgr) ?_
    refine x_iret (pc := 32) dX9_lineSize_32 rfl ?_
    exact ⟨rfl, rfl⟩
theorem zm1 {w : Int32} {n : Nat} (hn : n < 2 ^ 29) (h : (decide (-1 ≤ w) && decide (w ≤ nI n - nI 1)) = true) : w = -1 ∨ ∃ k, k < n ∧ w = nI k := by
  have h' : (decide (-3 ≤ w) && decide (w ≤ nI n - nI 1)) = true := by
    simp only [Bool.and_eq_true, decide_eq_true_eq] at h ⊢
    exact ⟨Int32.le_trans (by decide) h.1, h.2⟩
  rcases zm3 hn h' with rfl | rfl | e | e
  · simp only [Bool.and_eq_true, decide_eq_true_eq] at h; exact absurd h.1 (by decide)
  · simp only [Bool.and_eq_true, decide_eq_true_eq] at h; exact absurd h.1 (by decide)
  · exact Or.inl e
  · exact Or.inr e
def a_line (α : Nat → Nat → Int32) (k w : Int32) : Int32 :=
  if (decide (nI 0 ≤ k) && decide (k ≤ α 101 6 - nI 1)) = true ∧ (decide (-1 ≤ w) && decide (w ≤ nI (a_lsz α k.toNatClampNeg) - nI 1)) = true then
    (if w = -1 then nI (a_lsz α k.toNatClampNeg) else aL α (α 101 (925 + k.toNatClampNeg)).toNatClampNeg w.toNatClampNeg) else -100
theorem t_line (d : Nat) (k w : Int32) (hW : aW α) (hL : aWL α) : zTr E (d + 3) mX9_line [.ref 100, .int k, .int w] (κ, α, τ) (some (.int (a_line α k w))) (κ, a0 α, τ) := by
  have hn4 := hW.n400
  obtain ⟨l1, l2, l3⟩ := hL
  have z : ∀ i, a0 α 101 i = α 101 i := fun i => zup_p (by decide)
  have ho : zoff [100] α (a0 α) := zoff.rf.up (by decide)
  have hW0 : aW (a0 α) := hW.off ho (by decide)
  have els : ∀ j, a_lsz (a0 α) j = a_lsz α j := fun j => by unfold a_lsz; rw [z]; simp only [zo_S ho (by decide)]
  refine zM.tr (zM_of [some (.ref 100), some (.int k), some (.int w)] (by decide) rfl (Nat.le_of_ble_eq_true rfl) ?_)
  unfold a_line
  refine x_aload_n (pc := 0) 0 dX9_line_0 rfl rfl ?_
  refine x_iconst (pc := 1) (nI 0) dX9_line_1 (by decide) ?_
  refine x_puti_h (pc := 2) dX9_line_2 pX9_63 (zat_b rfl rfl) rfl rfl ?_
  refine x_aload_n (pc := 5) 0 dX9_line_5 rfl rfl ?_
  refine x_iload_n (pc := 6) 1 dX9_line_6 rfl rfl ?_
  refine x_callV1i (pc := 7) dX9_line_7 lX9_198 (zat_b rfl rfl) rfl (t_isLine d k) (Nat.le_of_ble_eq_true rfl) (Or.inl zgr) ?_
  rw [show zup α 100 0 (nI 0) = a0 α from rfl, z]
  by_cases h1 : (decide (nI 0 ≤ k) && decide (k ≤ α 101 6 - nI 1)) = true
  · rw [h1]
    rw [l1] at h1
    obtain ⟨j, hj, rfl⟩ := (zidx (by omega)).mp h1
    have hLj := l3 j hj
    have hL0 : a0 α 101 (925 + j) = -1 ∨ ∃ c, c < aN (a0 α) ∧ a0 α 101 (925 + j) = nI c := by rw [z, zo_N ho (by decide)]; exact hLj
    have hls : a_lsz α j ≤ 30 := by
      unfold a_lsz
      split
      · omega
      · rename_i hne
        obtain ⟨c, hc, e⟩ := hLj.resolve_left hne
        rw [e, nI_clamp (by omega)]
        exact hW.s30 hc
    rw [nI_clamp (show j < 2 ^ 31 by omega)]
    refine x_if_eq_f (pc := 10) 28 dX9_line_10 (by decide) (by decide) ?_
    refine x_iload_n (pc := 13) 2 dX9_line_13 rfl rfl ?_
    refine x_iconst (pc := 14) (-1) dX9_line_14 (by decide) ?_
    refine x_aload_n (pc := 15) 0 dX9_line_15 rfl rfl ?_
    refine x_iload_n (pc := 16) 1 dX9_line_16 rfl rfl ?_
    refine x_callV1i (pc := 17) dX9_line_17 lX9_201 (zat_b rfl rfl) rfl (t_lineSize d hW0 (by omega) hL0) (Nat.le_of_ble_eq_true rfl) (Or.inl zgr) ?_
    rw [els]
    refine x_iconst (pc := 20) (nI 1) dX9_line_20 (by decide) ?_
    refine x_isub (pc := 21) dX9_line_21 ?_
    refine x_callS3i (pc := 22) dX9_line_22 lX9_67 (t_isIn (d + 1) _ _ _) (Nat.le_of_ble_eq_true rfl) (Or.inl zgr) ?_
    by_cases h2 : (decide (-1 ≤ w) && decide (w ≤ nI (a_lsz α j) - nI 1)) = true
    · rw [if_pos ⟨rfl, h2⟩, h2]
      rcases zm1 (by omega) h2 with rfl | ⟨i, hi, rfl⟩
      · rw [if_pos rfl]
        refine x_if_ne_t (pc := 25) 31 dX9_line_25 (by decide) (by decide) ?_
        refine x_iload_n (pc := 31) 2 dX9_line_31 rfl rfl ?_
        refine x_iconst (pc := 32) (-1) dX9_line_32 (by decide) ?_
        refine x_icmp_ne_f (pc := 33) 44 dX9_line_33 (by decide) (rfl) ?_
        refine x_aload_n (pc := 36) 0 dX9_line_36 rfl rfl ?_
        refine x_iload_n (pc := 37) 1 dX9_line_37 rfl rfl ?_
        refine x_callV1i (pc := 38) dX9_line_38 lX9_201 (zat_b rfl rfl) rfl (t_lineSize d hW0 (by omega) hL0) (Nat.le_of_ble_eq_true rfl) (Or.inl zgr) ?_
        rw [els]
        refine x_goto (pc := 41) 59 dX9_line_41 (by decide) ?_
        refine x_iret (pc := 59) dX9_line_59 rfl ?_
        exact ⟨rfl, rfl⟩
      · have hne : ¬ α 101 (925 + j) = -1 := fun q => by unfold a_lsz at hi; rw [if_pos q] at hi; omega
        obtain ⟨c, hc, e⟩ := hLj.resolve_left hne
        have hin : ¬ nI i = -1 := nI_nem1 (by omega)
        rw [if_neg hin, nI_clamp (show i < 2 ^ 31 by omega), e, nI_clamp (show c < 2 ^ 31 by omega)]
        refine x_if_ne_t (pc := 25) 31 dX9_line_25 (by decide) (by decide) ?_
        refine x_iload_n (pc := 31) 2 dX9_line_31 rfl rfl ?_
        refine x_iconst (pc := 32) (-1) dX9_line_32 (by decide) ?_
        refine x_icmp_ne_t (pc := 33) 44 dX9_line_33 (by decide) (hin) ?_
        refine x_aload_n (pc := 44) 0 dX9_line_44 rfl rfl ?_
        refine x_aload_n (pc := 45) 0 dX9_line_45 rfl rfl ?_
        refine x_getr (pc := 46) (101) dX9_line_46 fX9_7 (zat_b rfl rfl) rfl ?_
        refine x_sipush (pc := 49) (nI 925) dX9_line_49 (by decide) ?_
        refine x_iload_n (pc := 52) 1 dX9_line_52 rfl rfl ?_
        refine x_iadd (pc := 53) dX9_line_53 ?_
        have hj54 : 925 + j < 13326 := by omega
        refine x_iald_h (pc := 54) (925 + j) dX9_line_54 (zar_b rfl rfl rfl) rfl (by first | rfl | simp only [pk_mul, nI_add] | simp only [zon, pk_mul, nI_add]) hj54 (Nat.lt_of_lt_of_le hj54 (by decide)) ?_
        rw [z, e]
        have hi2 : i < aS (a0 α) c := by
          rw [zo_S ho (by decide)]
          unfold a_lsz at hi
          rw [if_neg hne, e, nI_clamp (by omega)] at hi
          exact hi
        refine x_iload_n (pc := 55) 2 dX9_line_55 rfl rfl ?_
        refine x_callV2i (pc := 56) dX9_line_56 lX9_108 (zat_b rfl rfl) rfl (t_literalW (d + 1) hW0 (by rw [zo_N ho (by decide)]; exact hc) hi2) (Nat.le_of_ble_eq_true rfl) (Or.inl zgr) ?_
        rw [zo_L ho (by decide)]
        refine x_iret (pc := 59) dX9_line_59 rfl ?_
        exact ⟨rfl, rfl⟩
    · rw [if_neg (fun q => h2 q.2), zbf h2]
      refine x_if_ne_f (pc := 25) 31 dX9_line_25 (by decide) (rfl) ?_
      refine x_bipush (pc := 28) (-100) dX9_line_28 (by decide) ?_
      refine x_iret (pc := 30) dX9_line_30 rfl ?_
      exact ⟨rfl, rfl⟩
  · rw [if_neg (fun q => h1 q.1), zbf h1]
    refine x_if_eq_t (pc := 10) 28 dX9_line_10 (by decide) (rfl) ?_
    refine x_bipush (pc := 28) (-100) dX9_line_28 (by decide) ?_
    refine x_iret (pc := 30) dX9_line_30 rfl ?_
    exact ⟨rfl, rfl⟩
def a_put1 (s w : Int32) (α : Nat → Nat → Int32) : Nat → Nat → Int32 := zup (zup α 121 (α 100 22).toNatClampNeg (w >>> (s &&& 31)).toInt8.toInt32) 100 22 (α 100 22 + nI 1)
def a_put (α : Nat → Nat → Int32) (w : Int32) : Nat → Nat → Int32 := a_put1 (nI 0) w (a_put1 (nI 8) w (a_put1 (nI 16) w (a_put1 (nI 24) w α)))
theorem l_put1 (d : Nat) {w s s' : Int32} {t : Nat} {P : Option Value → zMem → Prop} {β : Nat → Nat → Int32} (ht : β 100 22 = nI t) (ht4 : t < 400) (hs : ¬ s < 0) (hs' : s + Int32.ofInt (-8) = s') (K : zX E d mX9_put 3 [some (.ref 100), some (.int w), some (.int s')] [] (κ, a_put1 s w β, τ) P) : zX E d mX9_put 3 [some (.ref 100), some (.int w), some (.int s)] [] (κ, β, τ) P := by
  unfold a_put1 at K
  rw [ht, nI_clamp (show t < 2 ^ 31 by omega)] at K
  refine x_iload_n (pc := 3) 2 dX9_put_3 rfl rfl ?_
  refine x_if_lt_f (pc := 4) 36 dX9_put_4 (by decide) (hs) ?_
  refine x_aload_n (pc := 7) 0 dX9_put_7 rfl rfl ?_
  refine x_getr (pc := 8) (121) dX9_put_8 fX9_53 (zat_b rfl rfl) rfl ?_
  refine x_aload_n (pc := 11) 0 dX9_put_11 rfl rfl ?_
  refine x_geti_h (pc := 12) dX9_put_12 fX9_192 (zat_b rfl rfl) rfl rfl ?_
  rw [ht]
  refine x_iload_n (pc := 15) 1 dX9_put_15 rfl rfl ?_
  refine x_iload_n (pc := 16) 2 dX9_put_16 rfl rfl ?_
  refine x_ishr (pc := 17) dX9_put_17 ?_
  refine x_i2b (pc := 18) dX9_put_18 ?_
  have hj19 : t < 400 := by omega
  refine x_bast_h (pc := 19) (t) dX9_put_19 (zar_b rfl rfl rfl) rfl (by first | rfl | simp only [pk_mul, nI_add] | simp only [zon, pk_mul, nI_add]) hj19 (Nat.lt_of_lt_of_le hj19 (by decide)) (pk_vb _) ?_
  refine x_aload_n (pc := 20) 0 dX9_put_20 rfl rfl ?_
  refine x_dup (pc := 21) dX9_put_21 rfl ?_
  refine x_geti_h (pc := 22) dX9_put_22 fX9_192 (zat_b rfl rfl) rfl rfl ?_
  rw [zup_p (by decide), ht]
  refine x_iconst (pc := 25) (nI 1) dX9_put_25 (by decide) ?_
  refine x_iadd (pc := 26) dX9_put_26 ?_
  refine x_puti_h (pc := 27) dX9_put_27 pX9_192 (zat_b rfl rfl) rfl rfl ?_
  refine x_iinc (pc := 30) (s') dX9_put_30 rfl (hs') (by decide) rfl ?_
  refine x_goto (pc := 33) 3 dX9_put_33 (by decide) ?_
  exact K
theorem a_put1_t {s w : Int32} {t : Nat} {β : Nat → Nat → Int32} (ht : β 100 22 = nI t) : a_put1 s w β 100 22 = nI (t + 1) := by unfold a_put1; rw [zup_same, ht, nI_add]
theorem t_put (d : Nat) (w : Int32) {t : Nat} (ht : α 100 22 = nI t) (ht4 : t + 4 ≤ 400) : zTr E (d + 1) mX9_put [.ref 100, .int w] (κ, α, τ) none (κ, a_put α w, τ) := by
  refine zM.tr (zM_of [some (.ref 100), some (.int w), none] (by decide) rfl (Nat.le_of_ble_eq_true rfl) ?_)
  refine x_bipush (pc := 0) (nI 24) dX9_put_0 (by decide) ?_
  refine x_istore_n (pc := 2) 2 dX9_put_2 rfl (by decide) rfl ?_
  refine l_put1 (d + 1) (s' := nI 16) ht (by omega) (by decide) (by decide) ?_
  refine l_put1 (d + 1) (s' := nI 8) (a_put1_t ht) (by omega) (by decide) (by decide) ?_
  refine l_put1 (d + 1) (s' := nI 0) (a_put1_t (a_put1_t ht)) (by omega) (by decide) (by decide) ?_
  refine l_put1 (d + 1) (s' := -8) (a_put1_t (a_put1_t (a_put1_t ht))) (by omega) (by decide) (by decide) ?_
  refine x_iload_n (pc := 3) 2 dX9_put_3 rfl rfl ?_
  refine x_if_lt_t (pc := 4) 36 dX9_put_4 (by decide) (by decide) ?_
  refine x_vret (pc := 36) dX9_put_36 rfl ?_
  exact ⟨rfl, rfl⟩
theorem a_put_t {w : Int32} {t : Nat} {β : Nat → Nat → Int32} (ht : β 100 22 = nI t) : a_put β w 100 22 = nI (t + 4) := a_put1_t (a_put1_t (a_put1_t (a_put1_t ht)))
def a_feed (α : Nat → Nat → Int32) (a b c e f : Int32) : Int32 × (Nat → Nat → Int32) :=
  if α 100 22 + nI 20 ≤ nI 400 then (α 100 22 + nI 20, a_put (a_put (a_put (a_put (a_put (a0 α) a) b) c) e) f) else (-1, a0 α)
theorem t_feed (d : Nat) (a b c e f : Int32) {t : Nat} (ht : α 100 22 = nI t) (ht4 : t ≤ 400) : zTr E (d + 2) mX9_feed [.ref 100, .int a, .int b, .int c, .int e, .int f] (κ, α, τ) (some (.int (a_feed α a b c e f).1)) (κ, (a_feed α a b c e f).2, τ) := by
  refine zM.tr (zM_of [some (.ref 100), some (.int a), some (.int b), some (.int c), some (.int e), some (.int f)] (by decide) rfl (Nat.le_of_ble_eq_true rfl) ?_)
  unfold a_feed
  refine x_aload_n (pc := 0) 0 dX9_feed_0 rfl rfl ?_
  refine x_iconst (pc := 1) (nI 0) dX9_feed_1 (by decide) ?_
  refine x_puti_h (pc := 2) dX9_feed_2 pX9_63 (zat_b rfl rfl) rfl rfl ?_
  refine x_aload_n (pc := 5) 0 dX9_feed_5 rfl rfl ?_
  refine x_geti_h (pc := 6) dX9_feed_6 fX9_192 (zat_b rfl rfl) rfl rfl ?_
  rw [zup_i (by decide), ht, show zup α 100 0 (nI 0) = a0 α from rfl]
  refine x_bipush (pc := 9) (nI 20) dX9_feed_9 (by decide) ?_
  refine x_iadd (pc := 11) dX9_feed_11 ?_
  refine x_sipush (pc := 12) (nI 400) dX9_feed_12 (by decide) ?_
  rw [nI_add]
  have h0 : a0 α 100 22 = nI t := by rw [a0_at (Or.inr (by decide))]; exact ht
  by_cases h : nI (t + 20) ≤ nI 400
  · rw [if_pos h]
    have ht20 : t + 20 ≤ 400 := (nI_leI (by omega) (by decide)).mp h
    have h1 := a_put_t (w := a) h0
    have h2 := a_put_t (w := b) h1
    have h3 := a_put_t (w := c) h2
    have h4 := a_put_t (w := e) h3
    have h5 := a_put_t (w := f) h4
    refine x_icmp_le_t (pc := 15) 20 dX9_feed_15 (by decide) (h) ?_
    refine x_aload_n (pc := 20) 0 dX9_feed_20 rfl rfl ?_
    refine x_iload_n (pc := 21) 1 dX9_feed_21 rfl rfl ?_
    refine x_callV1v (pc := 22) dX9_feed_22 lX9_239 (zat_b rfl rfl) rfl (t_put d a h0 (by omega)) (Nat.le_of_ble_eq_true rfl) (Or.inl zgr) ?_
    refine x_aload_n (pc := 25) 0 dX9_feed_25 rfl rfl ?_
    refine x_iload_n (pc := 26) 2 dX9_feed_26 rfl rfl ?_
    refine x_callV1v (pc := 27) dX9_feed_27 lX9_239 (zat_b rfl rfl) rfl (t_put d b h1 (by omega)) (Nat.le_of_ble_eq_true rfl) (Or.inl zgr) ?_
    refine x_aload_n (pc := 30) 0 dX9_feed_30 rfl rfl ?_
    refine x_iload_n (pc := 31) 3 dX9_feed_31 rfl rfl ?_
    refine x_callV1v (pc := 32) dX9_feed_32 lX9_239 (zat_b rfl rfl) rfl (t_put d c h2 (by omega)) (Nat.le_of_ble_eq_true rfl) (Or.inl zgr) ?_
    refine x_aload_n (pc := 35) 0 dX9_feed_35 rfl rfl ?_
    refine x_iload (pc := 36) dX9_feed_36 rfl ?_
    refine x_callV1v (pc := 38) dX9_feed_38 lX9_239 (zat_b rfl rfl) rfl (t_put d e h3 (by omega)) (Nat.le_of_ble_eq_true rfl) (Or.inl zgr) ?_
    refine x_aload_n (pc := 41) 0 dX9_feed_41 rfl rfl ?_
    refine x_iload (pc := 42) dX9_feed_42 rfl ?_
    refine x_callV1v (pc := 44) dX9_feed_44 lX9_239 (zat_b rfl rfl) rfl (t_put d f h4 (by omega)) (Nat.le_of_ble_eq_true rfl) (Or.inl zgr) ?_
    refine x_aload_n (pc := 47) 0 dX9_feed_47 rfl rfl ?_
    refine x_geti_h (pc := 48) dX9_feed_48 fX9_192 (zat_b rfl rfl) rfl rfl ?_
    rw [h5]
    refine x_iret (pc := 51) dX9_feed_51 rfl ?_
    exact ⟨rfl, rfl⟩
  · rw [if_neg h]
    refine x_icmp_le_f (pc := 15) 20 dX9_feed_15 (by decide) (h) ?_
    refine x_iconst (pc := 18) (-1) dX9_feed_18 (by decide) ?_
    refine x_iret (pc := 19) dX9_feed_19 rfl ?_
    exact ⟨rfl, rfl⟩
end M15
