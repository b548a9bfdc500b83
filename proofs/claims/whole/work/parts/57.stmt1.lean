/-! the class: rows and statements of a text -/
def k_rrL (full : Bool) : Nat → (Nat → Nat → Int32) → Bool × (Nat → Nat → Int32)
  | 0, κ => (true, κ)
  | n + 1, κ => if κ 5 7 = -2 then (true, κ)
    else if (k_rl κ (κ 6 4) (κ 80 2) (full || decide (8 ≤ (κ 80 1).toNatClampNeg))).1 = 0 then (false, (k_rl κ (κ 6 4) (κ 80 2) (full || decide (8 ≤ (κ 80 1).toNatClampNeg))).2)
    else k_rrL full n (k_put (k_rl κ (κ 6 4) (κ 80 2) (full || decide (8 ≤ (κ 80 1).toNatClampNeg))).2 80 (k_rl κ (κ 6 4) (κ 80 2) (full || decide (8 ≤ (κ 80 1).toNatClampNeg))).1)
def k_rR (κ : Nat → Nat → Int32) (full : Bool) : Bool × (Nat → Nat → Int32) := k_rrL full 9 (k_emp κ 80)
/-- how many the row of a statement has -/
def k_rT (κ : Nat → Nat → Int32) : Nat := (κ 80 1).toNatClampNeg
def k_asm (κ : Nat → Nat → Int32) : Bool × (Nat → Nat → Int32) := if (k_rR (k_adv κ) false).1 = true then (true, if κ 6 3 = 0 then (k_rR (k_adv κ) false).2 else k_cpR (k_rR (k_adv κ) false).2 19 80 (k_rT (k_rR (k_adv κ) false).2)) else (false, (k_rR (k_adv κ) false).2)
def k_gr1 (κ : Nat → Nat → Int32) : Nat → Nat → Int32 := zup κ 6 4 (κ 6 4 + κ 5 7)
def k_gr2 (κ : Nat → Nat → Int32) : Nat → Nat → Int32 := if κ 6 3 = 0 then k_gr1 κ else zup (k_gr1 κ) 10 4 (κ 6 4 + κ 5 7)
def k_grw (κ : Nat → Nat → Int32) : Bool × (Nat → Nat → Int32) :=
  if k_adv κ 5 7 < 0 then (false, k_ref (k_adv κ) (nI 1))
  else if k_adv κ 5 7 = 0 ∨ nI 30 < k_adv κ 6 4 + k_adv κ 5 7 then (false, k_ref (k_adv κ) (nI 2))
  else if k_adv (k_gr2 (k_adv κ)) 5 7 = -2 then (true, k_adv (k_gr2 (k_adv κ))) else (false, k_ref (k_adv (k_gr2 (k_adv κ))) (nI 1))
def k_ph1 (κ : Nat → Nat → Int32) (l : Int32) : Nat → Nat → Int32 := if κ 6 3 = 0 then κ else k_setPhase κ l
def k_phL : Nat → (Nat → Nat → Int32) → Bool × (Nat → Nat → Int32)
  | 0, κ => (true, κ)
  | n + 1, κ => if κ 5 7 = -2 then (true, κ)
    else if (k_rl κ (κ 6 4) (nI 0) false).1 = 0 then (false, (k_rl κ (κ 6 4) (nI 0) false).2)
    else k_phL n (k_ph1 (k_rl κ (κ 6 4) (nI 0) false).2 (k_rl κ (κ 6 4) (nI 0) false).1)
def k_phs (κ : Nat → Nat → Int32) : Bool × (Nat → Nat → Int32) := if k_adv κ 5 7 = -2 then (false, k_ref (k_adv κ) (nI 1)) else k_phL 401 (k_adv κ)
def k_full (κ : Nat → Nat → Int32) : Bool := decide (nI 80 ≤ κ 6 5) || decide (nI 400 ≤ κ 6 6)
def k_cl1 (κ : Nat → Nat → Int32) : Nat → Nat → Int32 := zup (zup κ 6 5 (κ 6 5 + nI 1)) 6 6 (κ 6 6 + nI 1)
def k_cl2 (κ : Nat → Nat → Int32) (τ : (Nat → Nat → Int64) × (Nat → Nat)) : (Nat → Nat → Int32) × ((Nat → Nat → Int64) × (Nat → Nat)) :=
  if kN κ < 400 then (k_app (k_rmK κ τ (kS κ (kN κ) + k_rT κ)) 80 (kN κ) (k_rT κ) false, k_rmT τ (kS κ (kN κ) + k_rT κ)) else (κ, τ)
def k_cls (κ : Nat → Nat → Int32) (τ : (Nat → Nat → Int64) × (Nat → Nat)) : Bool × (Nat → Nat → Int32) × ((Nat → Nat → Int64) × (Nat → Nat)) :=
  if κ 5 7 = -2 then (false, k_ref κ (nI 1), τ)
  else if (k_rR κ (k_full κ)).1 = true then (true, if κ 6 3 = 0 then (k_cl1 (k_rR κ (k_full κ)).2, τ) else k_cl2 (k_cl1 (k_rR κ (k_full κ)).2) τ) else (false, (k_rR κ (k_full κ)).2, τ)
def k_stm (κ : Nat → Nat → Int32) (τ : (Nat → Nat → Int64) × (Nat → Nat)) : Bool × (Nat → Nat → Int32) × ((Nat → Nat → Int64) × (Nat → Nat)) :=
  if κ 5 7 = -3 then ((k_grw κ).1, (k_grw κ).2, τ) else if κ 5 7 = -4 then ((k_asm κ).1, (k_asm κ).2, τ) else if κ 5 7 = -5 then ((k_phs κ).1, (k_phs κ).2, τ) else k_cls κ τ
def k_rdL : Nat → Nat → (Nat → Nat → Int32) → ((Nat → Nat → Int64) × (Nat → Nat)) → Int32 × (Nat → Nat → Int32) × ((Nat → Nat → Int64) × (Nat → Nat))
  | 0, c, κ, τ => (nI c, κ, τ)
  | n + 1, c, κ, τ => if κ 5 7 = -7 then (nI c, κ, τ)
    else if (k_stm κ τ).1 = true then k_rdL n (c + 1) (k_adv (k_stm κ τ).2.1) (k_stm κ τ).2.2 else (-1, (k_stm κ τ).2.1, (k_stm κ τ).2.2)
def k_rd0 (κ : Nat → Nat → Int32) (b : Bool) : Nat → Nat → Int32 := k_tok0 (zup (zup (zup (zup κ 6 3 (zbo b)) 6 4 (κ 10 4)) 6 5 (κ 11 6)) 6 6 (κ 11 5)) 0
def k_read (κ : Nat → Nat → Int32) (τ : (Nat → Nat → Int64) × (Nat → Nat)) (b : Bool) : Int32 × (Nat → Nat → Int32) × ((Nat → Nat → Int64) × (Nat → Nat)) := k_rdL 401 0 (k_rd0 κ b) τ
section S1
variable {E : zEnv} {κ α : Nat → Nat → Int32} {τ : (Nat → Nat → Int64) × (Nat → Nat)}
theorem k_tok0_p {n p : Nat} (h : p ≠ 5) : k_tok0 κ n p = κ p := by funext j; unfold k_tok0; rw [zup_p h, zup_p h]
theorem k_adv_p {p : Nat} (h : p ≠ 5) : k_adv κ p = κ p := by unfold k_adv; split <;> exact k_tok0_p h
theorem k_ref_p {p : Nat} {k : Int32} (h : p ≠ 5) : k_ref κ k p = κ p := by funext j; unfold k_ref; rw [zup_p h]
theorem k_rl1_p {p : Nat} (h : p ≠ 5) : k_rl1 κ p = κ p := by unfold k_rl1; split <;> first | exact k_adv_p h | rfl
theorem k_rl_p {V tk : Int32} {full : Bool} {p : Nat} (h : p ≠ 5) : (k_rl κ V tk full).2 p = κ p := by
  unfold k_rl
  split
  · exact k_ref_p h
  · split
    · exact (k_ref_p h).trans (k_rl1_p h)
    · split
      · exact (k_ref_p h).trans (k_rl1_p h)
      · split
        · exact (k_ref_p h).trans (k_rl1_p h)
        · exact (k_adv_p h).trans (k_rl1_p h)
theorem k_rl_full {V tk : Int32} : (k_rl κ V tk true).1 = 0 := by
  unfold k_rl
  split
  · rfl
  · split
    · rfl
    · split
      · rfl
      · rw [if_pos rfl]; rfl
theorem k_rl1_tk {n a : Nat} (h : kTk κ n a) : ∃ a', kTk (k_rl1 κ) n a' := by
  unfold k_rl1
  split
  · exact k_adv_tk h
  · exact ⟨a, h⟩
theorem k_rl_tk {V tk : Int32} {full : Bool} {n a : Nat} (h : kTk κ n a) (h0 : ¬ (k_rl κ V tk full).1 = 0) : ∃ a', kTk (k_rl κ V tk full).2 n a' := by
  obtain ⟨a1, h1⟩ := k_rl1_tk h
  unfold k_rl at h0 ⊢
  split at h0
  · exact absurd rfl h0
  · rename_i g1
    rw [if_neg g1]
    split at h0
    · exact absurd rfl h0
    · rename_i g2
      rw [if_neg g2]
      split at h0
      · exact absurd rfl h0
      · rename_i g3
        rw [if_neg g3]
        split at h0
        · exact absurd rfl h0
        · rename_i g4
          rw [if_neg g4]
          exact k_adv_tk h1
theorem kTk.of {κ' : Nat → Nat → Int32} {n a : Nat} (h : kTk κ n a) (e : κ' 5 = κ 5) : kTk κ' n a := by unfold kTk at h ⊢; rw [e]; exact h
theorem k_rrL_p {full : Bool} {p : Nat} (h5 : p ≠ 5) (h80 : p ≠ 80) (h81 : p ≠ 81) : ∀ n κ, (k_rrL full n κ).2 p = κ p
  | 0, κ => rfl
  | n + 1, κ => by
    unfold k_rrL
    split
    · rfl
    · split
      · exact k_rl_p h5
      · rw [k_rrL_p h5 h80 h81 n, k_put_at h80 h81, k_rl_p h5]
theorem k_rR_p {full : Bool} {p : Nat} (h5 : p ≠ 5) (h80 : p ≠ 80) (h81 : p ≠ 81) : (k_rR κ full).2 p = κ p := by
  unfold k_rR
  rw [k_rrL_p h5 h80 h81, k_emp_at h80]
theorem k_rrL_ok {full : Bool} {N : Nat} : ∀ n κ a t, kTk κ N a → κ 80 1 = nI t → t ≤ 8 → (k_rrL full n κ).1 = true → ∃ a' t', kTk (k_rrL full n κ).2 N a' ∧ (k_rrL full n κ).2 80 1 = nI t' ∧ t' ≤ 8
  | 0, κ, a, t, h, ht, ht8, _ => ⟨a, t, h, ht, ht8⟩
  | n + 1, κ, a, t, h, ht, ht8, hb => by
    have c : (κ 80 1).toNatClampNeg = t := by rw [ht]; exact nI_clamp (by omega)
    unfold k_rrL at hb ⊢
    rw [c] at hb ⊢
    split at hb
    · rename_i g1
      rw [if_pos g1]
      exact ⟨a, t, h, ht, ht8⟩
    · rename_i g1
      rw [if_neg g1]
      split at hb
      · cases hb
      · rename_i g2
        rw [if_neg g2]
        have hlt : t < 8 := by
          rcases Nat.lt_or_ge t 8 with q | q
          · exact q
          · rw [decide_eq_true q, Bool.or_true] at g2
            exact absurd k_rl_full g2
        obtain ⟨a', h'⟩ := k_rl_tk h g2
        refine k_rrL_ok n _ a' (t + 1) (h'.of (k_put_at (by decide) (by decide))) ?_ (by omega) hb
        rw [k_put_len, k_rl_p (by decide), ht, nI_add]
theorem k_rR_ok {full : Bool} {N a : Nat} (h : kTk κ N a) (hb : (k_rR κ full).1 = true) : ∃ a' t', kTk (k_rR κ full).2 N a' ∧ (k_rR κ full).2 80 1 = nI t' ∧ t' ≤ 8 :=
  k_rrL_ok 9 _ a 0 (h.of (k_emp_at (by decide))) (by unfold k_emp; rw [zup_i (by decide), zup_same]) (by omega) hb
theorem l_readRow (d : Nat) (full : Bool) {N : Nat} : ∀ n i κ a, i + n = 9 → kTk κ N a → κ 80 1 = nI i → ∀ x3, zX E (d + 3) mX4_readRow 9 [some (.ref 6), some (.int (zbo full)), some (.int (nI i)), x3] [] (κ, α, τ) (fun r ν => r = some (.int (zbo (k_rrL full n κ).1)) ∧ ν = ((k_rrL full n κ).2, α, τ)) := by
  intro n
  induction n with
  | zero =>
    intro i κ a hi h ht x3
    refine x_iload_n (pc := 9) 2 dX4_readRow_9 rfl rfl ?_
    refine x_bipush (pc := 10) (nI 8) dX4_readRow_10 (by decide) ?_
    refine x_icmp_gt_t (pc := 12) 85 dX4_readRow_12 (by decide) (nI_lt (a := 8) (by omega) (by omega)) ?_
    refine x_iconst (pc := 85) (nI 1) dX4_readRow_85 (by decide) ?_
    refine x_zret (pc := 86) dX4_readRow_86 rfl (by decide) ?_
    exact ⟨rfl, rfl⟩
  | succ n ih =>
    intro i κ a hi h ht x3
    have c : (κ 80 1).toNatClampNeg = i := by rw [ht]; exact nI_clamp (by omega)
    unfold k_rrL
    rw [c]
    by_cases h1 : κ 5 7 = -2
    · rw [if_pos h1]
      refine x_iload_n (pc := 9) 2 dX4_readRow_9 rfl rfl ?_
      refine x_bipush (pc := 10) (nI 8) dX4_readRow_10 (by decide) ?_
      refine x_icmp_gt_f (pc := 12) 85 dX4_readRow_12 (by decide) (nI_nlt (b := i) (a := 8) (by omega) (by omega)) ?_
      refine x_aload_n (pc := 15) 0 dX4_readRow_15 rfl rfl ?_
      refine x_getr (pc := 16) (5) dX4_readRow_16 fX4_20 (zat_b rfl rfl) rfl ?_
      refine x_geti_l (pc := 19) dX4_readRow_19 fX4_60 (zat_b rfl rfl) rfl rfl ?_
      refine x_bipush (pc := 22) (-2) dX4_readRow_22 (by decide) ?_
      refine x_icmp_eq_t (pc := 24) 85 dX4_readRow_24 (by decide) (h1) ?_
      refine x_iconst (pc := 85) (nI 1) dX4_readRow_85 (by decide) ?_
      refine x_zret (pc := 86) dX4_readRow_86 rfl (by decide) ?_
      exact ⟨rfl, rfl⟩
    · rw [if_neg h1]
      have fin : ∀ b : Bool, (full || decide (8 ≤ i)) = b → zX E (d + 3) mX4_readRow 61 [some (.ref 6), some (.int (zbo full)), some (.int (nI i)), x3] [.int (zbo b), .int (κ 80 2), .int (κ 6 4), .ref 5] (κ, α, τ) (fun r ν => r = some (.int (zbo (if (k_rl κ (κ 6 4) (κ 80 2) b).1 = 0 then (false, (k_rl κ (κ 6 4) (κ 80 2) b).2) else k_rrL full n (k_put (k_rl κ (κ 6 4) (κ 80 2) b).2 80 (k_rl κ (κ 6 4) (κ 80 2) b).1)).1)) ∧ ν = ((if (k_rl κ (κ 6 4) (κ 80 2) b).1 = 0 then (false, (k_rl κ (κ 6 4) (κ 80 2) b).2) else k_rrL full n (k_put (k_rl κ (κ 6 4) (κ 80 2) b).2 80 (k_rl κ (κ 6 4) (κ 80 2) b).1)).2, α, τ)) := by
        intro b hb
        refine x_callV3i (pc := 61) dX4_readRow_61 lX4_97 (zat_b rfl rfl) rfl (s_readLiteral d (κ 6 4) (κ 80 2) b h) (Nat.le_of_ble_eq_true rfl) (Or.inl zgr) ?_
        refine x_istore_n (pc := 64) 3 dX4_readRow_64 rfl (by decide) rfl ?_
        refine x_iload_n (pc := 65) 3 dX4_readRow_65 rfl rfl ?_
        by_cases h2 : (k_rl κ (κ 6 4) (κ 80 2) b).1 = 0
        · rw [if_pos h2]
          refine x_if_ne_f (pc := 66) 71 dX4_readRow_66 (by decide) (h2) ?_
          refine x_iconst (pc := 69) (nI 0) dX4_readRow_69 (by decide) ?_
          refine x_zret (pc := 70) dX4_readRow_70 rfl (by decide) ?_
          exact ⟨rfl, rfl⟩
        · rw [if_neg h2]
          have hlt : i < 8 := by
            rcases Nat.lt_or_ge i 8 with q | q
            · exact q
            · rw [decide_eq_true q, Bool.or_true] at hb
              rw [← hb] at h2
              exact absurd k_rl_full h2
          obtain ⟨a', h'⟩ := k_rl_tk h h2
          refine x_if_ne_t (pc := 66) 71 dX4_readRow_66 (by decide) (h2) ?_
          refine x_aload_n (pc := 71) 0 dX4_readRow_71 rfl rfl ?_
          refine x_getr (pc := 72) (80) dX4_readRow_72 fX4_14 (zat_b rfl rfl) rfl ?_
          refine x_iload_n (pc := 75) 3 dX4_readRow_75 rfl rfl ?_
          refine x_callV1v (pc := 76) dX4_readRow_76 lX4_115 (zat_b rfl rfl) rfl (s_rowPut (n := 8) (t := i) d _ kRow80 (by rw [k_rl_p (by decide)]; exact ht) (by omega)) (Nat.le_of_ble_eq_true rfl) (Or.inl zgr) ?_
          rw [if_pos hlt]
          refine x_iinc (pc := 79) (nI (i + 1)) dX4_readRow_79 rfl (zinc _) (by decide) rfl ?_
          refine x_goto (pc := 82) 9 dX4_readRow_82 (by decide) ?_
          exact ih (i + 1) _ a' (by omega) (h'.of (k_put_at (by decide) (by decide))) (by rw [k_put_len, k_rl_p (by decide), ht, nI_add]) _
      cases full with
      | true =>
        refine x_iload_n (pc := 9) 2 dX4_readRow_9 rfl rfl ?_
        refine x_bipush (pc := 10) (nI 8) dX4_readRow_10 (by decide) ?_
        refine x_icmp_gt_f (pc := 12) 85 dX4_readRow_12 (by decide) (nI_nlt (b := i) (a := 8) (by omega) (by omega)) ?_
        refine x_aload_n (pc := 15) 0 dX4_readRow_15 rfl rfl ?_
        refine x_getr (pc := 16) (5) dX4_readRow_16 fX4_20 (zat_b rfl rfl) rfl ?_
        refine x_geti_l (pc := 19) dX4_readRow_19 fX4_60 (zat_b rfl rfl) rfl rfl ?_
        refine x_bipush (pc := 22) (-2) dX4_readRow_22 (by decide) ?_
        refine x_icmp_eq_f (pc := 24) 85 dX4_readRow_24 (by decide) (h1) ?_
        refine x_aload_n (pc := 27) 0 dX4_readRow_27 rfl rfl ?_
        refine x_getr (pc := 28) (5) dX4_readRow_28 fX4_20 (zat_b rfl rfl) rfl ?_
        refine x_aload_n (pc := 31) 0 dX4_readRow_31 rfl rfl ?_
        refine x_geti_l (pc := 32) dX4_readRow_32 fX4_38 (zat_b rfl rfl) rfl rfl ?_
        refine x_aload_n (pc := 35) 0 dX4_readRow_35 rfl rfl ?_
        refine x_getr (pc := 36) (80) dX4_readRow_36 fX4_14 (zat_b rfl rfl) rfl ?_
        refine x_geti_l (pc := 39) dX4_readRow_39 fX4_111 (zat_b rfl rfl) rfl rfl ?_
        refine x_iload_n (pc := 42) 1 dX4_readRow_42 rfl rfl ?_
        refine x_if_ne_t (pc := 43) 56 dX4_readRow_43 (by decide) (by decide) ?_
        refine x_iconst (pc := 56) (nI 1) dX4_readRow_56 (by decide) ?_
        refine x_goto (pc := 57) 61 dX4_readRow_57 (by decide) ?_
        exact fin true rfl
      | false =>
        refine x_iload_n (pc := 9) 2 dX4_readRow_9 rfl rfl ?_
        refine x_bipush (pc := 10) (nI 8) dX4_readRow_10 (by decide) ?_
        refine x_icmp_gt_f (pc := 12) 85 dX4_readRow_12 (by decide) (nI_nlt (b := i) (a := 8) (by omega) (by omega)) ?_
        refine x_aload_n (pc := 15) 0 dX4_readRow_15 rfl rfl ?_
        refine x_getr (pc := 16) (5) dX4_readRow_16 fX4_20 (zat_b rfl rfl) rfl ?_
        refine x_geti_l (pc := 19) dX4_readRow_19 fX4_60 (zat_b rfl rfl) rfl rfl ?_
        refine x_bipush (pc := 22) (-2) dX4_readRow_22 (by decide) ?_
        refine x_icmp_eq_f (pc := 24) 85 dX4_readRow_24 (by decide) (h1) ?_
        refine x_aload_n (pc := 27) 0 dX4_readRow_27 rfl rfl ?_
        refine x_getr (pc := 28) (5) dX4_readRow_28 fX4_20 (zat_b rfl rfl) rfl ?_
        refine x_aload_n (pc := 31) 0 dX4_readRow_31 rfl rfl ?_
        refine x_geti_l (pc := 32) dX4_readRow_32 fX4_38 (zat_b rfl rfl) rfl rfl ?_
        refine x_aload_n (pc := 35) 0 dX4_readRow_35 rfl rfl ?_
        refine x_getr (pc := 36) (80) dX4_readRow_36 fX4_14 (zat_b rfl rfl) rfl ?_
        refine x_geti_l (pc := 39) dX4_readRow_39 fX4_111 (zat_b rfl rfl) rfl rfl ?_
        refine x_iload_n (pc := 42) 1 dX4_readRow_42 rfl rfl ?_
        refine x_if_ne_f (pc := 43) 56 dX4_readRow_43 (by decide) (rfl) ?_
        refine x_aload_n (pc := 46) 0 dX4_readRow_46 rfl rfl ?_
        refine x_getr (pc := 47) (80) dX4_readRow_47 fX4_14 (zat_b rfl rfl) rfl ?_
        refine x_callV0i (pc := 50) dX4_readRow_50 lX4_112 (zat_b rfl rfl) rfl (s_rowIsFull (n := 8) (t := i) (d + 1) kRow80 ht (by omega)) (Nat.le_of_ble_eq_true rfl) (Or.inl zgr) ?_
        have fin := fin _ rfl
        rw [Bool.false_or] at fin ⊢
        cases hc : decide (8 ≤ i) with
        | true =>
          rw [hc] at fin
          refine x_if_eq_f (pc := 53) 60 dX4_readRow_53 (by decide) (by decide) ?_
          refine x_iconst (pc := 56) (nI 1) dX4_readRow_56 (by decide) ?_
          refine x_goto (pc := 57) 61 dX4_readRow_57 (by decide) ?_
          exact fin
        | false =>
          rw [hc] at fin
          refine x_if_eq_t (pc := 53) 60 dX4_readRow_53 (by decide) (rfl) ?_
          refine x_iconst (pc := 60) (nI 0) dX4_readRow_60 (by decide) ?_
          exact fin
theorem s_readRow (d : Nat) (full : Bool) {N a : Nat} (h : kTk κ N a) : zTr E (d + 3) mX4_readRow [.ref 6, .int (zbo full)] (κ, α, τ) (some (.int (zbo (k_rR κ full).1))) ((k_rR κ full).2, α, τ) := by
  refine zM.tr (zM_of [some (.ref 6), some (.int (zbo full)), none, none] (by decide) rfl (Nat.le_of_ble_eq_true rfl) ?_)
  unfold k_rR
  refine x_aload_n (pc := 0) 0 dX4_readRow_0 rfl rfl ?_
  refine x_getr (pc := 1) (80) dX4_readRow_1 fX4_14 (zat_b rfl rfl) rfl ?_
  refine x_callV0v (pc := 4) dX4_readRow_4 lX4_108 (zat_b rfl rfl) rfl (s_makeEmpty (n := 8) (d + 1) kRow80) (Nat.le_of_ble_eq_true rfl) (Or.inl zgr) ?_
  refine x_iconst (pc := 7) (nI 0) dX4_readRow_7 (by decide) ?_
  refine x_istore_n (pc := 8) 2 dX4_readRow_8 rfl (by decide) rfl ?_
  exact l_readRow d full 9 0 _ a (by omega) (h.of (k_emp_at (by decide))) (by unfold k_emp; rw [zup_i (by decide), zup_same]) _
theorem s_readAssume (d : Nat) {N a : Nat} (b : Bool) (h : kTk κ N a) (hb : κ 6 3 = zbo b) : zTr E (d + 4) mX4_readAssume [.ref 6] (κ, α, τ) (some (.int (zbo (k_asm κ).1))) ((k_asm κ).2, α, τ) := by
  refine zM.tr (zM_of [some (.ref 6)] (by decide) rfl (Nat.le_of_ble_eq_true rfl) ?_)
  obtain ⟨a1, h1⟩ := k_adv_tk h
  unfold k_asm
  have e63 : (k_rR (k_adv κ) false).2 6 3 = κ 6 3 := by rw [k_rR_p (by decide) (by decide) (by decide), k_adv_p (by decide)]
  refine x_aload_n (pc := 0) 0 dX4_readAssume_0 rfl rfl ?_
  refine x_getr (pc := 1) (5) dX4_readAssume_1 fX4_20 (zat_b rfl rfl) rfl ?_
  refine x_callV0v (pc := 4) dX4_readAssume_4 lX4_67 (zat_b rfl rfl) rfl (s_advance (d + 2) h) (Nat.le_of_ble_eq_true rfl) (Or.inl zgr) ?_
  refine x_aload_n (pc := 7) 0 dX4_readAssume_7 rfl rfl ?_
  refine x_iconst (pc := 8) (nI 0) dX4_readAssume_8 (by decide) ?_
  refine x_callV1i (pc := 9) dX4_readAssume_9 lX4_86 (zat_b rfl rfl) rfl (s_readRow d false h1) (Nat.le_of_ble_eq_true rfl) (Or.inl zgr) ?_
  cases hc : (k_rR (k_adv κ) false).1 with
  | false =>
    rw [if_neg (by decide)]
    refine x_if_ne_f (pc := 12) 17 dX4_readAssume_12 (by decide) (rfl) ?_
    refine x_iconst (pc := 15) (nI 0) dX4_readAssume_15 (by decide) ?_
    refine x_zret (pc := 16) dX4_readAssume_16 rfl (by decide) ?_
    exact ⟨rfl, rfl⟩
  | true =>
    rw [if_pos rfl]
    obtain ⟨a2, t, h2, ht, ht8⟩ := k_rR_ok h1 hc
    have c : k_rT (k_rR (k_adv κ) false).2 = t := by unfold k_rT; rw [ht]; exact nI_clamp (by omega)
    refine x_if_ne_t (pc := 12) 17 dX4_readAssume_12 (by decide) (by decide) ?_
    refine x_aload_n (pc := 17) 0 dX4_readAssume_17 rfl rfl ?_
    refine x_geti_l (pc := 18) dX4_readAssume_18 fX4_28 (zat_b rfl rfl) rfl rfl ?_
    rw [e63, hb]
    cases b with
    | false =>
      rw [if_pos (show zbo false = 0 from rfl)]
      refine x_if_eq_t (pc := 21) 38 dX4_readAssume_21 (by decide) (rfl) ?_
      refine x_iconst (pc := 38) (nI 1) dX4_readAssume_38 (by decide) ?_
      refine x_zret (pc := 39) dX4_readAssume_39 rfl (by decide) ?_
      exact ⟨rfl, rfl⟩
    | true =>
      rw [if_neg (show ¬ zbo true = 0 by decide), c]
      refine x_if_eq_f (pc := 21) 38 dX4_readAssume_21 (by decide) (by decide) ?_
      refine x_aload_n (pc := 24) 0 dX4_readAssume_24 rfl rfl ?_
      refine x_getr (pc := 25) (10) dX4_readAssume_25 fX4_24 (zat_b rfl rfl) rfl ?_
      refine x_getr (pc := 28) (19) dX4_readAssume_28 fX4_90 (zat_b rfl rfl) rfl ?_
      refine x_aload_n (pc := 31) 0 dX4_readAssume_31 rfl rfl ?_
      refine x_getr (pc := 32) (80) dX4_readAssume_32 fX4_14 (zat_b rfl rfl) rfl ?_
      refine x_callV1v (pc := 35) dX4_readAssume_35 lX4_93 (zat_b rfl rfl) rfl (s_rowCopy (n := 8) (n2 := 8) (t := t) d kRow19 kRow80 (by decide) (by decide) (by decide) ht ht8 ht8) (Nat.le_of_ble_eq_true rfl) (Or.inl zgr) ?_
      refine x_iconst (pc := 38) (nI 1) dX4_readAssume_38 (by decide) ?_
      refine x_zret (pc := 39) dX4_readAssume_39 rfl (by decide) ?_
      exact ⟨rfl, rfl⟩
theorem s_readGrow (d : Nat) {N a : Nat} (b : Bool) (h : kTk κ N a) (hb : κ 6 3 = zbo b) : zTr E (d + 2) mX4_readGrow [.ref 6] (κ, α, τ) (some (.int (zbo (k_grw κ).1))) ((k_grw κ).2, α, τ) := by
  refine zM.tr (zM_of [some (.ref 6)] (by decide) rfl (Nat.le_of_ble_eq_true rfl) ?_)
  obtain ⟨a1, h1⟩ := k_adv_tk h
  have e63 : k_adv κ 6 3 = κ 6 3 := by rw [k_adv_p (by decide)]
  unfold k_grw
  refine x_aload_n (pc := 0) 0 dX4_readGrow_0 rfl rfl ?_
  refine x_getr (pc := 1) (5) dX4_readGrow_1 fX4_20 (zat_b rfl rfl) rfl ?_
  refine x_callV0v (pc := 4) dX4_readGrow_4 lX4_67 (zat_b rfl rfl) rfl (s_advance d h) (Nat.le_of_ble_eq_true rfl) (Or.inl zgr) ?_
  generalize k_adv κ = K at h1 e63 ⊢
  obtain ⟨b1, b2, b3, b4, b5⟩ := id h1
  by_cases g1 : K 5 7 < 0
  · rw [if_pos g1]
    refine x_aload_n (pc := 7) 0 dX4_readGrow_7 rfl rfl ?_
    refine x_getr (pc := 8) (5) dX4_readGrow_8 fX4_20 (zat_b rfl rfl) rfl ?_
    refine x_geti_l (pc := 11) dX4_readGrow_11 fX4_60 (zat_b rfl rfl) rfl rfl ?_
    refine x_if_ge_f (pc := 14) 26 dX4_readGrow_14 (by decide) (Int32.not_le.mpr g1) ?_
    refine x_aload_n (pc := 17) 0 dX4_readGrow_17 rfl rfl ?_
    refine x_getr (pc := 18) (5) dX4_readGrow_18 fX4_20 (zat_b rfl rfl) rfl ?_
    refine x_iconst (pc := 21) (nI 1) dX4_readGrow_21 (by decide) ?_
    refine x_callV1i (pc := 22) dX4_readGrow_22 lX4_82 (zat_b rfl rfl) rfl (s_refuse d _ b4 (by omega)) (Nat.le_of_ble_eq_true rfl) (Or.inl zgr) ?_
    refine x_zret (pc := 25) dX4_readGrow_25 rfl (by decide) ?_
    exact ⟨rfl, rfl⟩
  · rw [if_neg g1]
    have bad : zX E (d + 2) mX4_readGrow 53 [some (.ref 6)] [] (K, α, τ) (fun r ν => r = some (.int (zbo false)) ∧ ν = (k_ref K (nI 2), α, τ)) := by
      refine x_aload_n (pc := 53) 0 dX4_readGrow_53 rfl rfl ?_
      refine x_getr (pc := 54) (5) dX4_readGrow_54 fX4_20 (zat_b rfl rfl) rfl ?_
      refine x_iconst (pc := 57) (nI 2) dX4_readGrow_57 (by decide) ?_
      refine x_callV1i (pc := 58) dX4_readGrow_58 lX4_82 (zat_b rfl rfl) rfl (s_refuse d _ b4 (by omega)) (Nat.le_of_ble_eq_true rfl) (Or.inl zgr) ?_
      refine x_zret (pc := 61) dX4_readGrow_61 rfl (by decide) ?_
      exact ⟨rfl, rfl⟩
    by_cases g2 : K 5 7 = 0
    · rw [if_pos (Or.inl g2)]
      refine x_aload_n (pc := 7) 0 dX4_readGrow_7 rfl rfl ?_
      refine x_getr (pc := 8) (5) dX4_readGrow_8 fX4_20 (zat_b rfl rfl) rfl ?_
      refine x_geti_l (pc := 11) dX4_readGrow_11 fX4_60 (zat_b rfl rfl) rfl rfl ?_
      refine x_if_ge_t (pc := 14) 26 dX4_readGrow_14 (by decide) (Int32.not_lt.mp g1) ?_
      refine x_aload_n (pc := 26) 0 dX4_readGrow_26 rfl rfl ?_
      refine x_getr (pc := 27) (5) dX4_readGrow_27 fX4_20 (zat_b rfl rfl) rfl ?_
      refine x_geti_l (pc := 30) dX4_readGrow_30 fX4_60 (zat_b rfl rfl) rfl rfl ?_
      refine x_if_eq_t (pc := 33) 53 dX4_readGrow_33 (by decide) (g2) ?_
      exact bad
    · by_cases g3 : nI 30 < K 6 4 + K 5 7
      · rw [if_pos (Or.inr g3)]
        refine x_aload_n (pc := 7) 0 dX4_readGrow_7 rfl rfl ?_
        refine x_getr (pc := 8) (5) dX4_readGrow_8 fX4_20 (zat_b rfl rfl) rfl ?_
        refine x_geti_l (pc := 11) dX4_readGrow_11 fX4_60 (zat_b rfl rfl) rfl rfl ?_
        refine x_if_ge_t (pc := 14) 26 dX4_readGrow_14 (by decide) (Int32.not_lt.mp g1) ?_
        refine x_aload_n (pc := 26) 0 dX4_readGrow_26 rfl rfl ?_
        refine x_getr (pc := 27) (5) dX4_readGrow_27 fX4_20 (zat_b rfl rfl) rfl ?_
        refine x_geti_l (pc := 30) dX4_readGrow_30 fX4_60 (zat_b rfl rfl) rfl rfl ?_
        refine x_if_eq_f (pc := 33) 53 dX4_readGrow_33 (by decide) (g2) ?_
        refine x_aload_n (pc := 36) 0 dX4_readGrow_36 rfl rfl ?_
        refine x_geti_l (pc := 37) dX4_readGrow_37 fX4_38 (zat_b rfl rfl) rfl rfl ?_
        refine x_aload_n (pc := 40) 0 dX4_readGrow_40 rfl rfl ?_
        refine x_getr (pc := 41) (5) dX4_readGrow_41 fX4_20 (zat_b rfl rfl) rfl ?_
        refine x_geti_l (pc := 44) dX4_readGrow_44 fX4_60 (zat_b rfl rfl) rfl rfl ?_
        refine x_iadd (pc := 47) dX4_readGrow_47 ?_
        refine x_bipush (pc := 48) (nI 30) dX4_readGrow_48 (by decide) ?_
        refine x_icmp_le_f (pc := 50) 62 dX4_readGrow_50 (by decide) (Int32.not_le.mpr g3) ?_
        exact bad
      · rw [if_neg (fun q => q.elim g2 g3)]
        have fin : zX E (d + 2) mX4_readGrow 96 [some (.ref 6)] [] (k_gr2 K, α, τ) (fun r ν => r = some (.int (zbo (if k_adv (k_gr2 K) 5 7 = -2 then (true, k_adv (k_gr2 K)) else (false, k_ref (k_adv (k_gr2 K)) (nI 1))).1)) ∧ ν = ((if k_adv (k_gr2 K) 5 7 = -2 then (true, k_adv (k_gr2 K)) else (false, k_ref (k_adv (k_gr2 K)) (nI 1))).2, α, τ)) := by
          have hg : kTk (k_gr2 K) N a1 := h1.of (by
            unfold k_gr2 k_gr1
            split
            · funext j; rw [zup_p (by decide)]
            · funext j; rw [zup_p (by decide), zup_p (by decide)])
          obtain ⟨a3, h3⟩ := k_adv_tk hg
          refine x_aload_n (pc := 96) 0 dX4_readGrow_96 rfl rfl ?_
          refine x_getr (pc := 97) (5) dX4_readGrow_97 fX4_20 (zat_b rfl rfl) rfl ?_
          refine x_callV0v (pc := 100) dX4_readGrow_100 lX4_67 (zat_b rfl rfl) rfl (s_advance d hg) (Nat.le_of_ble_eq_true rfl) (Or.inl zgr) ?_
          generalize k_adv (k_gr2 K) = J at h3 ⊢
          by_cases g4 : J 5 7 = -2
          · rw [if_pos g4]
            refine x_aload_n (pc := 103) 0 dX4_readGrow_103 rfl rfl ?_
            refine x_getr (pc := 104) (5) dX4_readGrow_104 fX4_20 (zat_b rfl rfl) rfl ?_
            refine x_geti_l (pc := 107) dX4_readGrow_107 fX4_60 (zat_b rfl rfl) rfl rfl ?_
            refine x_bipush (pc := 110) (-2) dX4_readGrow_110 (by decide) ?_
            refine x_icmp_eq_t (pc := 112) 126 dX4_readGrow_112 (by decide) (g4) ?_
            refine x_iconst (pc := 126) (nI 1) dX4_readGrow_126 (by decide) ?_
            refine x_goto (pc := 127) 131 dX4_readGrow_127 (by decide) ?_
            refine x_zret (pc := 131) dX4_readGrow_131 rfl (by decide) ?_
            exact ⟨rfl, rfl⟩
          · rw [if_neg g4]
            refine x_aload_n (pc := 103) 0 dX4_readGrow_103 rfl rfl ?_
            refine x_getr (pc := 104) (5) dX4_readGrow_104 fX4_20 (zat_b rfl rfl) rfl ?_
            refine x_geti_l (pc := 107) dX4_readGrow_107 fX4_60 (zat_b rfl rfl) rfl rfl ?_
            refine x_bipush (pc := 110) (-2) dX4_readGrow_110 (by decide) ?_
            refine x_icmp_eq_f (pc := 112) 126 dX4_readGrow_112 (by decide) (g4) ?_
            refine x_aload_n (pc := 115) 0 dX4_readGrow_115 rfl rfl ?_
            refine x_getr (pc := 116) (5) dX4_readGrow_116 fX4_20 (zat_b rfl rfl) rfl ?_
            refine x_iconst (pc := 119) (nI 1) dX4_readGrow_119 (by decide) ?_
            refine x_callV1i (pc := 120) dX4_readGrow_120 lX4_82 (zat_b rfl rfl) rfl (s_refuse d _ h3.2.2.2.1 (by have := h3.2.2.1; have := h3.2.2.2.2; omega)) (Nat.le_of_ble_eq_true rfl) (Or.inl zgr) ?_
            refine x_if_eq_t (pc := 123) 130 dX4_readGrow_123 (by decide) (rfl) ?_
            refine x_iconst (pc := 130) (nI 0) dX4_readGrow_130 (by decide) ?_
            refine x_zret (pc := 131) dX4_readGrow_131 rfl (by decide) ?_
            exact ⟨rfl, rfl⟩
        refine x_aload_n (pc := 7) 0 dX4_readGrow_7 rfl rfl ?_
        refine x_getr (pc := 8) (5) dX4_readGrow_8 fX4_20 (zat_b rfl rfl) rfl ?_
        refine x_geti_l (pc := 11) dX4_readGrow_11 fX4_60 (zat_b rfl rfl) rfl rfl ?_
        refine x_if_ge_t (pc := 14) 26 dX4_readGrow_14 (by decide) (Int32.not_lt.mp g1) ?_
        refine x_aload_n (pc := 26) 0 dX4_readGrow_26 rfl rfl ?_
        refine x_getr (pc := 27) (5) dX4_readGrow_27 fX4_20 (zat_b rfl rfl) rfl ?_
        refine x_geti_l (pc := 30) dX4_readGrow_30 fX4_60 (zat_b rfl rfl) rfl rfl ?_
        refine x_if_eq_f (pc := 33) 53 dX4_readGrow_33 (by decide) (g2) ?_
        refine x_aload_n (pc := 36) 0 dX4_readGrow_36 rfl rfl ?_
        refine x_geti_l (pc := 37) dX4_readGrow_37 fX4_38 (zat_b rfl rfl) rfl rfl ?_
        refine x_aload_n (pc := 40) 0 dX4_readGrow_40 rfl rfl ?_
        refine x_getr (pc := 41) (5) dX4_readGrow_41 fX4_20 (zat_b rfl rfl) rfl ?_
        refine x_geti_l (pc := 44) dX4_readGrow_44 fX4_60 (zat_b rfl rfl) rfl rfl ?_
        refine x_iadd (pc := 47) dX4_readGrow_47 ?_
        refine x_bipush (pc := 48) (nI 30) dX4_readGrow_48 (by decide) ?_
        refine x_icmp_le_t (pc := 50) 62 dX4_readGrow_50 (by decide) (Int32.not_lt.mp g3) ?_
        refine x_aload_n (pc := 62) 0 dX4_readGrow_62 rfl rfl ?_
        refine x_dup (pc := 63) dX4_readGrow_63 rfl ?_
        refine x_geti_l (pc := 64) dX4_readGrow_64 fX4_38 (zat_b rfl rfl) rfl rfl ?_
        refine x_aload_n (pc := 67) 0 dX4_readGrow_67 rfl rfl ?_
        refine x_getr (pc := 68) (5) dX4_readGrow_68 fX4_20 (zat_b rfl rfl) rfl ?_
        refine x_geti_l (pc := 71) dX4_readGrow_71 fX4_60 (zat_b rfl rfl) rfl rfl ?_
        refine x_iadd (pc := 74) dX4_readGrow_74 ?_
        refine x_puti_l (pc := 75) dX4_readGrow_75 pX4_38 (zat_b rfl rfl) rfl rfl ?_
        refine x_aload_n (pc := 78) 0 dX4_readGrow_78 rfl rfl ?_
        refine x_geti_l (pc := 79) dX4_readGrow_79 fX4_28 (zat_b rfl rfl) rfl rfl ?_
        rw [zup_i (by decide), e63, hb]
        cases b with
        | false =>
          have e : k_gr2 K = zup K 6 4 (K 6 4 + K 5 7) := by unfold k_gr2 k_gr1; rw [if_pos (show K 6 3 = 0 from e63.trans hb)]
          rw [e] at fin ⊢
          refine x_if_eq_t (pc := 82) 96 dX4_readGrow_82 (by decide) (rfl) ?_
          exact fin
        | true =>
          have e : k_gr2 K = zup (zup K 6 4 (K 6 4 + K 5 7)) 10 4 (K 6 4 + K 5 7) := by unfold k_gr2 k_gr1; rw [if_neg (by rw [e63, hb]; decide)]
          rw [e] at fin ⊢
          refine x_if_eq_f (pc := 82) 96 dX4_readGrow_82 (by decide) (by decide) ?_
          refine x_aload_n (pc := 85) 0 dX4_readGrow_85 rfl rfl ?_
          refine x_getr (pc := 86) (10) dX4_readGrow_86 fX4_24 (zat_b rfl rfl) rfl ?_
          refine x_aload_n (pc := 89) 0 dX4_readGrow_89 rfl rfl ?_
          refine x_geti_l (pc := 90) dX4_readGrow_90 fX4_38 (zat_b rfl rfl) rfl rfl ?_
          rw [zup_same]
          refine x_puti_l (pc := 93) dX4_readGrow_93 pX4_32 (zat_b rfl rfl) rfl rfl ?_
          exact fin
theorem l_readPhases (d : Nat) {N : Nat} (b : Bool) : ∀ n i κ a, i + n = 401 → kTk κ N a → κ 6 3 = zbo b → ∀ x2, zX E (d + 3) mX4_readPhases 30 [some (.ref 6), some (.int (nI i)), x2] [] (κ, α, τ) (fun r ν => r = some (.int (zbo (k_phL n κ).1)) ∧ ν = ((k_phL n κ).2, α, τ)) := by
  intro n
  induction n with
  | zero =>
    intro i κ a hi h hb x2
    refine x_iload_n (pc := 30) 1 dX4_readPhases_30 rfl rfl ?_
    refine x_sipush (pc := 31) (nI 400) dX4_readPhases_31 (by decide) ?_
    refine x_icmp_gt_t (pc := 34) 90 dX4_readPhases_34 (by decide) (nI_lt (a := 400) (by omega) (by omega)) ?_
    refine x_iconst (pc := 90) (nI 1) dX4_readPhases_90 (by decide) ?_
    refine x_zret (pc := 91) dX4_readPhases_91 rfl (by decide) ?_
    exact ⟨rfl, rfl⟩
  | succ n ih =>
    intro i κ a hi h hb x2
    unfold k_phL
    by_cases h1 : κ 5 7 = -2
    · rw [if_pos h1]
      refine x_iload_n (pc := 30) 1 dX4_readPhases_30 rfl rfl ?_
      refine x_sipush (pc := 31) (nI 400) dX4_readPhases_31 (by decide) ?_
      refine x_icmp_gt_f (pc := 34) 90 dX4_readPhases_34 (by decide) (nI_nlt (b := i) (a := 400) (by omega) (by omega)) ?_
      refine x_aload_n (pc := 37) 0 dX4_readPhases_37 rfl rfl ?_
      refine x_getr (pc := 38) (5) dX4_readPhases_38 fX4_20 (zat_b rfl rfl) rfl ?_
      refine x_geti_l (pc := 41) dX4_readPhases_41 fX4_60 (zat_b rfl rfl) rfl rfl ?_
      refine x_bipush (pc := 44) (-2) dX4_readPhases_44 (by decide) ?_
      refine x_icmp_eq_t (pc := 46) 90 dX4_readPhases_46 (by decide) (h1) ?_
      refine x_iconst (pc := 90) (nI 1) dX4_readPhases_90 (by decide) ?_
      refine x_zret (pc := 91) dX4_readPhases_91 rfl (by decide) ?_
      exact ⟨rfl, rfl⟩
    · rw [if_neg h1]
      refine x_iload_n (pc := 30) 1 dX4_readPhases_30 rfl rfl ?_
      refine x_sipush (pc := 31) (nI 400) dX4_readPhases_31 (by decide) ?_
      refine x_icmp_gt_f (pc := 34) 90 dX4_readPhases_34 (by decide) (nI_nlt (b := i) (a := 400) (by omega) (by omega)) ?_
      refine x_aload_n (pc := 37) 0 dX4_readPhases_37 rfl rfl ?_
      refine x_getr (pc := 38) (5) dX4_readPhases_38 fX4_20 (zat_b rfl rfl) rfl ?_
      refine x_geti_l (pc := 41) dX4_readPhases_41 fX4_60 (zat_b rfl rfl) rfl rfl ?_
      refine x_bipush (pc := 44) (-2) dX4_readPhases_44 (by decide) ?_
      refine x_icmp_eq_f (pc := 46) 90 dX4_readPhases_46 (by decide) (h1) ?_
      refine x_aload_n (pc := 49) 0 dX4_readPhases_49 rfl rfl ?_
      refine x_getr (pc := 50) (5) dX4_readPhases_50 fX4_20 (zat_b rfl rfl) rfl ?_
      refine x_aload_n (pc := 53) 0 dX4_readPhases_53 rfl rfl ?_
      refine x_geti_l (pc := 54) dX4_readPhases_54 fX4_38 (zat_b rfl rfl) rfl rfl ?_
      refine x_iconst (pc := 57) (nI 0) dX4_readPhases_57 (by decide) ?_
      refine x_iconst (pc := 58) (nI 0) dX4_readPhases_58 (by decide) ?_
      refine x_callV3i (pc := 59) dX4_readPhases_59 lX4_97 (zat_b rfl rfl) rfl (s_readLiteral (d + 0) (κ 6 4) (nI 0) false h) (Nat.le_of_ble_eq_true rfl) (Or.inl zgr) ?_
      refine x_istore_n (pc := 62) 2 dX4_readPhases_62 rfl (by decide) rfl ?_
      refine x_iload_n (pc := 63) 2 dX4_readPhases_63 rfl rfl ?_
      by_cases h2 : (k_rl κ (κ 6 4) (nI 0) false).1 = 0
      · rw [if_pos h2]
        refine x_if_ne_f (pc := 64) 69 dX4_readPhases_64 (by decide) (h2) ?_
        refine x_iconst (pc := 67) (nI 0) dX4_readPhases_67 (by decide) ?_
        refine x_zret (pc := 68) dX4_readPhases_68 rfl (by decide) ?_
        exact ⟨rfl, rfl⟩
      · rw [if_neg h2]
        obtain ⟨a', h'⟩ := k_rl_tk h h2
        have e63 : (k_rl κ (κ 6 4) (nI 0) false).2 6 3 = zbo b := by rw [k_rl_p (by decide)]; exact hb
        refine x_if_ne_t (pc := 64) 69 dX4_readPhases_64 (by decide) (h2) ?_
        refine x_aload_n (pc := 69) 0 dX4_readPhases_69 rfl rfl ?_
        refine x_geti_l (pc := 70) dX4_readPhases_70 fX4_28 (zat_b rfl rfl) rfl rfl ?_
        unfold k_ph1
        rw [e63]
        cases b with
        | false =>
          rw [if_pos (show zbo false = 0 from rfl)]
          refine x_if_eq_t (pc := 73) 84 dX4_readPhases_73 (by decide) (rfl) ?_
          refine x_iinc (pc := 84) (nI (i + 1)) dX4_readPhases_84 rfl (zinc _) (by decide) rfl ?_
          refine x_goto (pc := 87) 30 dX4_readPhases_87 (by decide) ?_
          exact ih (i + 1) _ a' (by omega) h' e63 _
        | true =>
          rw [if_neg (show ¬ zbo true = 0 by decide)]
          refine x_if_eq_f (pc := 73) 84 dX4_readPhases_73 (by decide) (by decide) ?_
          refine x_aload_n (pc := 76) 0 dX4_readPhases_76 rfl rfl ?_
          refine x_getr (pc := 77) (10) dX4_readPhases_77 fX4_24 (zat_b rfl rfl) rfl ?_
          refine x_iload_n (pc := 80) 2 dX4_readPhases_80 rfl rfl ?_
          refine x_callV1v (pc := 81) dX4_readPhases_81 lX4_101 (zat_b rfl rfl) rfl (s_setPhase (d + 0) _) (Nat.le_of_ble_eq_true rfl) (Or.inl zgr) ?_
          refine x_iinc (pc := 84) (nI (i + 1)) dX4_readPhases_84 rfl (zinc _) (by decide) rfl ?_
          refine x_goto (pc := 87) 30 dX4_readPhases_87 (by decide) ?_
          exact ih (i + 1) _ a' (by omega) (h'.of (by funext j; unfold k_setPhase; rw [zup_p (by decide)])) (by unfold k_setPhase; rw [zup_p (by decide)]; exact e63) _
theorem s_readPhases (d : Nat) {N a : Nat} (b : Bool) (h : kTk κ N a) (hb : κ 6 3 = zbo b) : zTr E (d + 3) mX4_readPhases [.ref 6] (κ, α, τ) (some (.int (zbo (k_phs κ).1))) ((k_phs κ).2, α, τ) := by
  refine zM.tr (zM_of [some (.ref 6), none, none] (by decide) rfl (Nat.le_of_ble_eq_true rfl) ?_)
  obtain ⟨a1, h1⟩ := k_adv_tk h
  have e63 : k_adv κ 6 3 = κ 6 3 := by rw [k_adv_p (by decide)]
  unfold k_phs
  refine x_aload_n (pc := 0) 0 dX4_readPhases_0 rfl rfl ?_
  refine x_getr (pc := 1) (5) dX4_readPhases_1 fX4_20 (zat_b rfl rfl) rfl ?_
  refine x_callV0v (pc := 4) dX4_readPhases_4 lX4_67 (zat_b rfl rfl) rfl (s_advance (d + 1) h) (Nat.le_of_ble_eq_true rfl) (Or.inl zgr) ?_
  by_cases g1 : k_adv κ 5 7 = -2
  · rw [if_pos g1]
    refine x_aload_n (pc := 7) 0 dX4_readPhases_7 rfl rfl ?_
    refine x_getr (pc := 8) (5) dX4_readPhases_8 fX4_20 (zat_b rfl rfl) rfl ?_
    refine x_geti_l (pc := 11) dX4_readPhases_11 fX4_60 (zat_b rfl rfl) rfl rfl ?_
    refine x_bipush (pc := 14) (-2) dX4_readPhases_14 (by decide) ?_
    refine x_icmp_ne_f (pc := 16) 28 dX4_readPhases_16 (by decide) (g1) ?_
    refine x_aload_n (pc := 19) 0 dX4_readPhases_19 rfl rfl ?_
    refine x_getr (pc := 20) (5) dX4_readPhases_20 fX4_20 (zat_b rfl rfl) rfl ?_
    refine x_iconst (pc := 23) (nI 1) dX4_readPhases_23 (by decide) ?_
    refine x_callV1i (pc := 24) dX4_readPhases_24 lX4_82 (zat_b rfl rfl) rfl (s_refuse (d + 1) _ h1.2.2.2.1 (by have := h1.2.2.1; have := h1.2.2.2.2; omega)) (Nat.le_of_ble_eq_true rfl) (Or.inl zgr) ?_
    refine x_zret (pc := 27) dX4_readPhases_27 rfl (by decide) ?_
    exact ⟨rfl, rfl⟩
  · rw [if_neg g1]
    refine x_aload_n (pc := 7) 0 dX4_readPhases_7 rfl rfl ?_
    refine x_getr (pc := 8) (5) dX4_readPhases_8 fX4_20 (zat_b rfl rfl) rfl ?_
    refine x_geti_l (pc := 11) dX4_readPhases_11 fX4_60 (zat_b rfl rfl) rfl rfl ?_
    refine x_bipush (pc := 14) (-2) dX4_readPhases_14 (by decide) ?_
    refine x_icmp_ne_t (pc := 16) 28 dX4_readPhases_16 (by decide) (g1) ?_
    refine x_iconst (pc := 28) (nI 0) dX4_readPhases_28 (by decide) ?_
    refine x_istore_n (pc := 29) 1 dX4_readPhases_29 rfl (by decide) rfl ?_
    exact l_readPhases d b 401 0 _ a1 (by omega) h1 (e63.trans hb) _
end S1
