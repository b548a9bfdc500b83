/-! the reference: a statement, and tell -/
theorem a_roL_ge (must full : Bool) : ∀ m n α, n ≤ (a_roL must full m n α).1
  | 0, n, α => Nat.le_refl _
  | m + 1, n, α => by
    unfold a_roL
    split
    · split
      · exact Nat.le_of_succ_le (a_roL_ge must full m (n + 1) _)
      · split
        · exact Nat.le_of_succ_le (a_roL_ge must full m (n + 1) _)
        · exact Nat.le_refl _
    · exact Nat.le_refl _
theorem a_roL_nz {full : Bool} {α : Nat → Nat → Int32} (h : (a_roL true full 10 0 α).1 = 0) : ¬ a_endS (a_roL true full 10 0 α).2 100 25 = 0 := by
  by_cases hf : α 100 25 = 0
  · have e : a_roL true full 10 0 α = a_roL true full 9 1 (a_ro1 α 0 (full || Nat.beq 0 8)) := by rw [a_roL, if_pos hf, if_pos ⟨rfl, rfl⟩]
    rw [e] at h
    have := a_roL_ge true full 9 1 (a_ro1 α 0 (full || Nat.beq 0 8))
    omega
  · have e : a_roL true full 10 0 α = (0, α) := by rw [a_roL, if_neg hf]
    rw [e]
    dsimp only
    unfold a_endS
    rw [if_neg hf, zup_i (by decide)]
    exact hf
theorem lg_cmp0 (x y : Int64) : lg_cmp x y = 0 ↔ x = y := by
  unfold lg_cmp
  split
  · rename_i h
    constructor
    · intro q; exact absurd q (by decide)
    · intro q; rw [q] at h; exact (Int64.lt_irrefl h).elim
  · split
    · rename_i h; exact ⟨fun _ => h, fun _ => rfl⟩
    · rename_i h; exact ⟨fun q => absurd q (by decide), fun q => absurd q h⟩
def a_wst (α : Nat → Nat → Int32) : Nat → Nat → Int32 := zup (a_here α) 100 24 (nI (a_wq (a_here α)))
def a_stmt (α : Nat → Nat → Int32) : Nat → Nat → Int32 :=
  if a_isl α = true then a_clT (a_here α) else
  if a_wv (a_here α) = 151331 then a_growT (a_wst α) else if a_wv (a_here α) = 24835928 then a_asT (a_wst α) else if a_wv (a_here α) = 8661767 then a_endS (a_phL 500 true (a_wst α)) else a_fails (a_wst α) (nI 1) (nI (a_hp α))
def stmtOK (α : Nat → Nat → Int32) : Prop :=
  aWR α ∧ α 101 1 = nI (aN α) ∧ aN α ≤ 400 ∧ (a_isl α = false → a_wv (a_here α) = 8661767 → phOK 500 true (a_wst α))
theorem a_wq_max {α : Nat → Nat → Int32} : a_wq α ≤ max (aPl α) (aLen α) := by
  have h1 := a_hp_max (α := α)
  have := zspan_ge (a_let α) (aLen α - a_hp α) (a_hp α)
  unfold a_wq
  omega
section M22
variable {E : zEnv} {κ α : Nat → Nat → Int32} {τ : (Nat → Nat → Int64) × (Nat → Nat)}
theorem a_wst_R (h : aWR α) : aWR (a_wst α) := by
  have hh := h.here
  have h1 := a_wq_max (α := a_here α)
  have h2 := hh.1.2.2.2
  have h3 := hh.2.1
  have e : a_wst α 101 0 = a_here α 101 0 := zup_p (by decide)
  refine ⟨hh.1.to (by omega), by unfold a_wst; rw [aPl_at (by omega)]; omega, ?_, ?_⟩
  · unfold aV; rw [e]; exact hh.2.2.1
  · unfold aV; rw [e]; exact hh.2.2.2
theorem t_statement (d : Nat) (h : stmtOK α) : zTr E (d + 6) mX9_statement [.ref 100] (κ, α, τ) none (κ, a_stmt α, τ) := by
  obtain ⟨hR, hN, hN4, hph⟩ := h
  have hRh := hR.here
  have hN' : aN (a_here α) = aN α := by unfold aN; rw [a_here_at (Or.inl (by decide))]
  have hRw := a_wst_R hR
  have ehe : a_here α 100 24 = nI (a_hp α) := by unfold a_here; rw [zup_same]
  refine zM.tr (zM_of [some (.ref 100), none, none, none] (by decide) rfl (Nat.le_of_ble_eq_true rfl) ?_)
  unfold a_stmt
  refine x_aload_n (pc := 0) 0 dX9_statement_0 rfl rfl ?_
  refine x_callV0i (pc := 1) dX9_statement_1 lX9_258 (zat_b rfl rfl) rfl (t_isLit (d + 2) hR.1) (Nat.le_of_ble_eq_true rfl) (Or.inl zgr) ?_
  show zX E (d + 6) mX9_statement 4 _ [.int (zbo (a_isl α))] _ _
  cases hl : a_isl α with
  | true =>
    rw [if_pos rfl]
    refine x_if_eq_f (pc := 4) 12 dX9_statement_4 (by decide) (by decide) ?_
    refine x_aload_n (pc := 7) 0 dX9_statement_7 rfl rfl ?_
    refine x_callV0v (pc := 8) dX9_statement_8 lX9_264 (zat_b rfl rfl) rfl (t_clauseTold d hRh (by rw [hN', a_here_at (Or.inl (by decide))]; exact hN) (by rw [hN']; exact hN4) a_roL_nz) (Nat.le_of_ble_eq_true rfl) (Or.inl zgr) ?_
    refine x_vret (pc := 11) dX9_statement_11 rfl ?_
    exact ⟨rfl, rfl⟩
  | false =>
    rw [if_neg (by decide)]
    refine x_if_eq_t (pc := 4) 12 dX9_statement_4 (by decide) (rfl) ?_
    refine x_aload_n (pc := 12) 0 dX9_statement_12 rfl rfl ?_
    refine x_geti_h (pc := 13) dX9_statement_13 fX9_233 (zat_b rfl rfl) rfl rfl ?_
    rw [ehe]
    refine x_istore_n (pc := 16) 1 dX9_statement_16 rfl (by decide) rfl ?_
    refine x_aload_n (pc := 17) 0 dX9_statement_17 rfl rfl ?_
    refine x_callV0i (pc := 18) dX9_statement_18 lX9_267 (zat_b rfl rfl) rfl (t_word (d + 3) hRh.1) (Nat.le_of_ble_eq_true rfl) (Or.inl zgr) ?_
    refine x_lstore_n (pc := 21) 2 dX9_statement_21 rfl (by decide) rfl ?_
    refine x_lload_n (pc := 22) 2 dX9_statement_22 rfl rfl ?_
    refine x_ldc2 (pc := 23) (151331) dX9_statement_23 (zt_of 1538 (by decide +kernel) (by decide +kernel)) ?_
    refine x_lcmp (pc := 26) dX9_statement_26 ?_
    show zX E (d + 6) mX9_statement 27 _ _ (κ, a_wst α, τ) _
    by_cases h1 : a_wv (a_here α) = 151331
    · rw [if_pos h1]
      refine x_if_ne_f (pc := 27) 37 dX9_statement_27 (by decide) ((lg_cmp0 _ _).mpr h1) ?_
      refine x_aload_n (pc := 30) 0 dX9_statement_30 rfl rfl ?_
      refine x_callV0v (pc := 31) dX9_statement_31 lX9_273 (zat_b rfl rfl) rfl (t_growTold (d + 1) hRw.1 hRw.2.2.1 hRw.2.2.2) (Nat.le_of_ble_eq_true rfl) (Or.inl zgr) ?_
      refine x_goto (pc := 34) 73 dX9_statement_34 (by decide) ?_
      refine x_vret (pc := 73) dX9_statement_73 rfl ?_
      exact ⟨rfl, rfl⟩
    · rw [if_neg h1]
      by_cases h2 : a_wv (a_here α) = 24835928
      · rw [if_pos h2]
        refine x_if_ne_t (pc := 27) 37 dX9_statement_27 (by decide) (fun q => h1 ((lg_cmp0 _ _).mp q)) ?_
        refine x_lload_n (pc := 37) 2 dX9_statement_37 rfl rfl ?_
        refine x_ldc2 (pc := 38) (24835928) dX9_statement_38 (zt_of 1543 (by decide +kernel) (by decide +kernel)) ?_
        refine x_lcmp (pc := 41) dX9_statement_41 ?_
        refine x_if_ne_f (pc := 42) 52 dX9_statement_42 (by decide) ((lg_cmp0 _ _).mpr h2) ?_
        refine x_aload_n (pc := 45) 0 dX9_statement_45 rfl rfl ?_
        refine x_callV0v (pc := 46) dX9_statement_46 lX9_278 (zat_b rfl rfl) rfl (t_assumeTold d hRw) (Nat.le_of_ble_eq_true rfl) (Or.inl zgr) ?_
        refine x_goto (pc := 49) 73 dX9_statement_49 (by decide) ?_
        refine x_vret (pc := 73) dX9_statement_73 rfl ?_
        exact ⟨rfl, rfl⟩
      · rw [if_neg h2]
        by_cases h3 : a_wv (a_here α) = 8661767
        · rw [if_pos h3]
          refine x_if_ne_t (pc := 27) 37 dX9_statement_27 (by decide) (fun q => h1 ((lg_cmp0 _ _).mp q)) ?_
          refine x_lload_n (pc := 37) 2 dX9_statement_37 rfl rfl ?_
          refine x_ldc2 (pc := 38) (24835928) dX9_statement_38 (zt_of 1543 (by decide +kernel) (by decide +kernel)) ?_
          refine x_lcmp (pc := 41) dX9_statement_41 ?_
          refine x_if_ne_t (pc := 42) 52 dX9_statement_42 (by decide) (fun q => h2 ((lg_cmp0 _ _).mp q)) ?_
          refine x_lload_n (pc := 52) 2 dX9_statement_52 rfl rfl ?_
          refine x_ldc2 (pc := 53) (8661767) dX9_statement_53 (zt_of 1548 (by decide +kernel) (by decide +kernel)) ?_
          refine x_lcmp (pc := 56) dX9_statement_56 ?_
          refine x_if_ne_f (pc := 57) 67 dX9_statement_57 (by decide) ((lg_cmp0 _ _).mpr h3) ?_
          refine x_aload_n (pc := 60) 0 dX9_statement_60 rfl rfl ?_
          refine x_callV0v (pc := 61) dX9_statement_61 lX9_283 (zat_b rfl rfl) rfl (t_phaseTold d (hph hl h3) hRw) (Nat.le_of_ble_eq_true rfl) (Or.inl zgr) ?_
          refine x_goto (pc := 64) 73 dX9_statement_64 (by decide) ?_
          refine x_vret (pc := 73) dX9_statement_73 rfl ?_
          exact ⟨rfl, rfl⟩
        · rw [if_neg h3]
          refine x_if_ne_t (pc := 27) 37 dX9_statement_27 (by decide) (fun q => h1 ((lg_cmp0 _ _).mp q)) ?_
          refine x_lload_n (pc := 37) 2 dX9_statement_37 rfl rfl ?_
          refine x_ldc2 (pc := 38) (24835928) dX9_statement_38 (zt_of 1543 (by decide +kernel) (by decide +kernel)) ?_
          refine x_lcmp (pc := 41) dX9_statement_41 ?_
          refine x_if_ne_t (pc := 42) 52 dX9_statement_42 (by decide) (fun q => h2 ((lg_cmp0 _ _).mp q)) ?_
          refine x_lload_n (pc := 52) 2 dX9_statement_52 rfl rfl ?_
          refine x_ldc2 (pc := 53) (8661767) dX9_statement_53 (zt_of 1548 (by decide +kernel) (by decide +kernel)) ?_
          refine x_lcmp (pc := 56) dX9_statement_56 ?_
          refine x_if_ne_t (pc := 57) 67 dX9_statement_57 (by decide) (fun q => h3 ((lg_cmp0 _ _).mp q)) ?_
          refine x_aload_n (pc := 67) 0 dX9_statement_67 rfl rfl ?_
          refine x_iconst (pc := 68) (nI 1) dX9_statement_68 (by decide) ?_
          refine x_iload_n (pc := 69) 1 dX9_statement_69 rfl rfl ?_
          refine x_callV2v (pc := 70) dX9_statement_70 lX9_248 (zat_b rfl rfl) rfl (t_fails (d + 4) _ _) (Nat.le_of_ble_eq_true rfl) (Or.inl zgr) ?_
          refine x_vret (pc := 73) dX9_statement_73 rfl ?_
          exact ⟨rfl, rfl⟩
def a_st0 (α : Nat → Nat → Int32) : Nat → Nat → Int32 := zup (zup (zup (zup (a0 α) 100 23 (a0 α 100 22)) 100 22 (nI 0)) 100 24 (nI 0)) 100 25 (nI 0)
def a_bfF (k : Nat) (a : Nat → Nat → Int32) : Nat → Nat → Int32 := zup a 102 k (a 101 k)
def a_rsF2 (k : Nat) (a : Nat → Nat → Int32) : Nat → Nat → Int32 := zup a 101 k (a 102 k)
def a_teL : Nat → Nat → (Nat → Nat → Int32) → Nat × (Nat → Nat → Int32)
  | 0, n, α => (n, α)
  | m + 1, n, α => if α 100 25 = 0 then (if a_chr α = -1 then (n, a_here α) else a_teL m (n + 1) (a_stmt (a_here α))) else (n, α)
def teOK : Nat → (Nat → Nat → Int32) → Prop
  | 0, _ => False
  | m + 1, α => α 100 25 = 0 → aWT α ∧ (¬ a_chr α = -1 → stmtOK (a_here α) ∧ teOK m (a_stmt (a_here α)))
def a_tell (α : Nat → Nat → Int32) : Int32 × (Nat → Nat → Int32) :=
  if (a_teL 500 0 (zit a_bfF 0 13326 (a_st0 α))).2 100 25 = 0 then (nI (a_teL 500 0 (zit a_bfF 0 13326 (a_st0 α))).1, (a_teL 500 0 (zit a_bfF 0 13326 (a_st0 α))).2)
  else (-1, zit a_rsF2 0 13326 (a_teL 500 0 (zit a_bfF 0 13326 (a_st0 α))).2)
theorem l_te1 (d : Nat) (P : Option Value → zMem → Prop) : ∀ m k β, k + m = 13326 → (∀ k', zX E d mX9_tell 36 [some (.ref 100), some k', none] [] (κ, zit a_bfF k m β, τ) P) → zX E d mX9_tell 11 [some (.ref 100), some (.int (nI k)), none] [] (κ, β, τ) P := by
  intro m
  induction m with
  | zero =>
    intro k β hk K
    refine x_iload_n (pc := 11) 1 dX9_tell_11 rfl rfl ?_
    refine x_sipush (pc := 12) (nI 13326) dX9_tell_12 (by decide) ?_
    refine x_icmp_ge_t (pc := 15) 36 dX9_tell_15 (by decide) (nI_le (by omega) (by omega)) ?_
    exact K _
  | succ m ih =>
    intro k β hk K
    refine x_iload_n (pc := 11) 1 dX9_tell_11 rfl rfl ?_
    refine x_sipush (pc := 12) (nI 13326) dX9_tell_12 (by decide) ?_
    refine x_icmp_ge_f (pc := 15) 36 dX9_tell_15 (by decide) (nI_ge (by omega) (by omega)) ?_
    refine x_aload_n (pc := 18) 0 dX9_tell_18 rfl rfl ?_
    refine x_getr (pc := 19) (102) dX9_tell_19 fX9_13 (zat_b rfl rfl) rfl ?_
    refine x_iload_n (pc := 22) 1 dX9_tell_22 rfl rfl ?_
    refine x_aload_n (pc := 23) 0 dX9_tell_23 rfl rfl ?_
    refine x_getr (pc := 24) (101) dX9_tell_24 fX9_7 (zat_b rfl rfl) rfl ?_
    refine x_iload_n (pc := 27) 1 dX9_tell_27 rfl rfl ?_
    have hj28 : k < 13326 := by omega
    refine x_iald_h (pc := 28) (k) dX9_tell_28 (zar_b rfl rfl rfl) rfl (by first | rfl | simp only [pk_mul, nI_add] | simp only [zon, pk_mul, nI_add]) hj28 (Nat.lt_of_lt_of_le hj28 (by decide)) ?_
    have hj29 : k < 13326 := by omega
    refine x_iast_h (pc := 29) (k) dX9_tell_29 (zar_b rfl rfl rfl) rfl (by first | rfl | simp only [pk_mul, nI_add] | simp only [zon, pk_mul, nI_add]) hj29 (Nat.lt_of_lt_of_le hj29 (by decide)) ?_
    refine x_iinc (pc := 30) (nI (k + 1)) dX9_tell_30 rfl (zinc _) (by decide) rfl ?_
    refine x_goto (pc := 33) 11 dX9_tell_33 (by decide) ?_
    exact ih (k + 1) _ (by omega) K
theorem l_te3 (d : Nat) {n : Int32} : ∀ m k β, k + m = 13326 → zX E d mX9_tell 74 [some (.ref 100), some (.int n), some (.int (nI k))] [] (κ, β, τ) (fun r ν => r = some (.int (-1)) ∧ ν = (κ, zit a_rsF2 k m β, τ)) := by
  intro m
  induction m with
  | zero =>
    intro k β hk
    refine x_iload_n (pc := 74) 2 dX9_tell_74 rfl rfl ?_
    refine x_sipush (pc := 75) (nI 13326) dX9_tell_75 (by decide) ?_
    refine x_icmp_ge_t (pc := 78) 99 dX9_tell_78 (by decide) (nI_le (by omega) (by omega)) ?_
    refine x_iconst (pc := 99) (-1) dX9_tell_99 (by decide) ?_
    refine x_iret (pc := 100) dX9_tell_100 rfl ?_
    exact ⟨rfl, rfl⟩
  | succ m ih =>
    intro k β hk
    refine x_iload_n (pc := 74) 2 dX9_tell_74 rfl rfl ?_
    refine x_sipush (pc := 75) (nI 13326) dX9_tell_75 (by decide) ?_
    refine x_icmp_ge_f (pc := 78) 99 dX9_tell_78 (by decide) (nI_ge (by omega) (by omega)) ?_
    refine x_aload_n (pc := 81) 0 dX9_tell_81 rfl rfl ?_
    refine x_getr (pc := 82) (101) dX9_tell_82 fX9_7 (zat_b rfl rfl) rfl ?_
    refine x_iload_n (pc := 85) 2 dX9_tell_85 rfl rfl ?_
    refine x_aload_n (pc := 86) 0 dX9_tell_86 rfl rfl ?_
    refine x_getr (pc := 87) (102) dX9_tell_87 fX9_13 (zat_b rfl rfl) rfl ?_
    refine x_iload_n (pc := 90) 2 dX9_tell_90 rfl rfl ?_
    have hj91 : k < 13326 := by omega
    refine x_iald_h (pc := 91) (k) dX9_tell_91 (zar_b rfl rfl rfl) rfl (by first | rfl | simp only [pk_mul, nI_add] | simp only [zon, pk_mul, nI_add]) hj91 (Nat.lt_of_lt_of_le hj91 (by decide)) ?_
    have hj92 : k < 13326 := by omega
    refine x_iast_h (pc := 92) (k) dX9_tell_92 (zar_b rfl rfl rfl) rfl (by first | rfl | simp only [pk_mul, nI_add] | simp only [zon, pk_mul, nI_add]) hj92 (Nat.lt_of_lt_of_le hj92 (by decide)) ?_
    refine x_iinc (pc := 93) (nI (k + 1)) dX9_tell_93 rfl (zinc _) (by decide) rfl ?_
    refine x_goto (pc := 96) 74 dX9_tell_96 (by decide) ?_
    exact ih (k + 1) _ (by omega)
theorem l_te2 (d : Nat) (P : Option Value → zMem → Prop) : ∀ m n α, teOK m α → (∀ k β, (k, β) = a_teL m n α → zX E (d + 7) mX9_tell 63 [some (.ref 100), some (.int (nI k)), none] [] (κ, β, τ) P) → zX E (d + 7) mX9_tell 38 [some (.ref 100), some (.int (nI n)), none] [] (κ, α, τ) P := by
  intro m
  induction m with
  | zero => intro n α h; exact absurd h id
  | succ m ih =>
    intro n α h K
    by_cases hf : α 100 25 = 0
    · obtain ⟨hT, h2⟩ := h hf
      by_cases hc : a_chr α = -1
      · have e : a_teL (m + 1) n α = (n, a_here α) := by rw [a_teL, if_pos hf, if_pos hc]
        refine x_aload_n (pc := 38) 0 dX9_tell_38 rfl rfl ?_
        refine x_geti_h (pc := 39) dX9_tell_39 fX9_220 (zat_b rfl rfl) rfl rfl ?_
        refine x_if_ne_f (pc := 42) 63 dX9_tell_42 (by decide) (hf) ?_
        refine x_aload_n (pc := 45) 0 dX9_tell_45 rfl rfl ?_
        refine x_callV0i (pc := 46) dX9_tell_46 lX9_223 (zat_b rfl rfl) rfl (t_here (d + 5) hT) (Nat.le_of_ble_eq_true rfl) (Or.inl zgr) ?_
        refine x_iconst (pc := 49) (-1) dX9_tell_49 (by decide) ?_
        refine x_icmp_eq_t (pc := 50) 63 dX9_tell_50 (by decide) (hc) ?_
        exact K n _ e.symm
      · have e : a_teL (m + 1) n α = a_teL m (n + 1) (a_stmt (a_here α)) := by rw [a_teL, if_pos hf, if_neg hc]
        rw [e] at K
        obtain ⟨g1, g2⟩ := h2 hc
        refine x_aload_n (pc := 38) 0 dX9_tell_38 rfl rfl ?_
        refine x_geti_h (pc := 39) dX9_tell_39 fX9_220 (zat_b rfl rfl) rfl rfl ?_
        refine x_if_ne_f (pc := 42) 63 dX9_tell_42 (by decide) (hf) ?_
        refine x_aload_n (pc := 45) 0 dX9_tell_45 rfl rfl ?_
        refine x_callV0i (pc := 46) dX9_tell_46 lX9_223 (zat_b rfl rfl) rfl (t_here (d + 5) hT) (Nat.le_of_ble_eq_true rfl) (Or.inl zgr) ?_
        refine x_iconst (pc := 49) (-1) dX9_tell_49 (by decide) ?_
        refine x_icmp_eq_f (pc := 50) 63 dX9_tell_50 (by decide) (hc) ?_
        refine x_aload_n (pc := 53) 0 dX9_tell_53 rfl rfl ?_
        refine x_callV0v (pc := 54) dX9_tell_54 lX9_286 (zat_b rfl rfl) rfl (t_statement d g1) (Nat.le_of_ble_eq_true rfl) (Or.inl zgr) ?_
        refine x_iinc (pc := 57) (nI (n + 1)) dX9_tell_57 rfl (zinc _) (by decide) rfl ?_
        refine x_goto (pc := 60) 38 dX9_tell_60 (by decide) ?_
        exact ih (n + 1) _ g2 K
    · have e : a_teL (m + 1) n α = (n, α) := by rw [a_teL, if_neg hf]
      refine x_aload_n (pc := 38) 0 dX9_tell_38 rfl rfl ?_
      refine x_geti_h (pc := 39) dX9_tell_39 fX9_220 (zat_b rfl rfl) rfl rfl ?_
      refine x_if_ne_t (pc := 42) 63 dX9_tell_42 (by decide) (hf) ?_
      exact K n α e.symm
theorem t_tell (d : Nat) (h : teOK 500 (zit a_bfF 0 13326 (a_st0 α))) : zTr E (d + 7) mX9_tell [.ref 100] (κ, α, τ) (some (.int (a_tell α).1)) (κ, (a_tell α).2, τ) := by
  refine zM.tr (zM_of [some (.ref 100), none, none] (by decide) rfl (Nat.le_of_ble_eq_true rfl) ?_)
  refine x_aload_n (pc := 0) 0 dX9_tell_0 rfl rfl ?_
  refine x_iconst (pc := 1) (nI 0) dX9_tell_1 (by decide) ?_
  refine x_puti_h (pc := 2) dX9_tell_2 pX9_63 (zat_b rfl rfl) rfl rfl ?_
  refine x_aload_n (pc := 5) 0 dX9_tell_5 rfl rfl ?_
  refine x_callV0v (pc := 6) dX9_tell_6 lX9_214 (zat_b rfl rfl) rfl (t_startsText (d + 5)) (Nat.le_of_ble_eq_true rfl) (Or.inl zgr) ?_
  refine x_iconst (pc := 9) (nI 0) dX9_tell_9 (by decide) ?_
  refine x_istore_n (pc := 10) 1 dX9_tell_10 rfl (by decide) rfl ?_
  show zX E (d + 7) mX9_tell 11 _ [] (κ, a_st0 α, τ) _
  refine l_te1 (d + 7) _ 13326 0 (a_st0 α) (by omega) (fun k' => ?_)
  unfold a_tell
  generalize zit a_bfF 0 13326 (a_st0 α) = β0 at h ⊢
  refine x_iconst (pc := 36) (nI 0) dX9_tell_36 (by decide) ?_
  refine x_istore_n (pc := 37) 1 dX9_tell_37 rfl (by decide) rfl ?_
  refine l_te2 d _ 500 0 β0 h (fun k β he => ?_)
  generalize a_teL 500 0 β0 = x at he ⊢
  subst he
  dsimp only
  by_cases hf : β 100 25 = 0
  · rw [if_pos hf]
    refine x_aload_n (pc := 63) 0 dX9_tell_63 rfl rfl ?_
    refine x_geti_h (pc := 64) dX9_tell_64 fX9_220 (zat_b rfl rfl) rfl rfl ?_
    refine x_if_ne_f (pc := 67) 72 dX9_tell_67 (by decide) (hf) ?_
    refine x_iload_n (pc := 70) 1 dX9_tell_70 rfl rfl ?_
    refine x_iret (pc := 71) dX9_tell_71 rfl ?_
    exact ⟨rfl, rfl⟩
  · rw [if_neg hf]
    refine x_aload_n (pc := 63) 0 dX9_tell_63 rfl rfl ?_
    refine x_geti_h (pc := 64) dX9_tell_64 fX9_220 (zat_b rfl rfl) rfl rfl ?_
    refine x_if_ne_t (pc := 67) 72 dX9_tell_67 (by decide) (hf) ?_
    refine x_iconst (pc := 72) (nI 0) dX9_tell_72 (by decide) ?_
    refine x_istore_n (pc := 73) 2 dX9_tell_73 rfl (by decide) rfl ?_
    have K := l_te3 (E := E) (κ := κ) (τ := τ) (d + 7) (n := nI k) 13326 0 β (by omega)
    dsimp only
    exact K
end M22
