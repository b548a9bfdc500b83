/-! the class: the reader over its own log, and over a told one -/
def k_lnF (κ : Nat → Nat → Int32) (l : Int32) : Nat → Nat → Int32 := if 0 < l then zup κ 4 3 (κ 4 3 ||| kb l) else zup κ 4 4 (κ 4 4 ||| kb l)
def k_lnL (V : Int32) : Nat → (Nat → Nat → Int32) → Bool × (Nat → Nat → Int32)
  | 0, κ => (true, κ)
  | n + 1, κ => if κ 5 7 = -2 then (true, κ)
    else if (k_rl κ V (κ 4 3 ||| κ 4 4) false).1 = 0 then (false, (k_rl κ V (κ 4 3 ||| κ 4 4) false).2)
    else k_lnL V n (k_lnF (k_rl κ V (κ 4 3 ||| κ 4 4) false).2 (k_rl κ V (κ 4 3 ||| κ 4 4) false).1)
def k_line (κ : Nat → Nat → Int32) (V : Int32) : Bool × (Nat → Nat → Int32) := k_lnL V 401 (zup (zup κ 4 3 (nI 0)) 4 4 (nI 0))
/-- a line that is accepted -/
def k_lg1 (κ : Nat → Nat → Int32) : Nat → Nat → Int32 := k_take (zup κ 4 5 (zbo (decide (¬ κ 4 5 = 0) || decide (κ 4 3 ||| κ 4 4 = 0)))) (κ 4 3) (κ 4 4)
def k_lgL (V : Int32) : Nat → Bool → Nat → (Nat → Nat → Int32) → Int32 × (Nat → Nat → Int32)
  | 0, _, c, κ => (nI c, κ)
  | n + 1, al, c, κ => if κ 5 7 = -7 then (nI c, κ)
    else if (k_line κ V).1 = true then (if (al && k_acc (k_line κ V).2 ((k_line κ V).2 4 3) ((k_line κ V).2 4 4)) = true then k_lgL V n true (c + 1) (k_adv (k_lg1 (k_line κ V).2)) else k_lgL V n false c (k_adv (k_line κ V).2))
    else (-1, (k_line κ V).2)
def k_log (κ : Nat → Nat → Int32) : Int32 × (Nat → Nat → Int32) := k_lgL (κ 10 4) 401 true 0 (zup (k_start (k_told κ)) 4 5 (nI 0))
section R2
variable {E : zEnv} {κ α : Nat → Nat → Int32} {τ : (Nat → Nat → Int64) × (Nat → Nat)}
theorem l_fr (d : Nat) (b : Bool) (hb : κ 10 7 = zbo b) (hN : κ 11 5 = nI (kN κ)) (hN4 : kN κ ≤ 400) : ∀ m i at_ a, i + m = kN κ → kRd κ a → zX E (d + 2) mX0_firstRefused 12 [some (.ref 4), some (.ref 10), some (.int (nI at_)), some (.int (nI i))] [] (a, α, τ) (fun r ν => r = some (.int (k_frL κ m i at_ a).1) ∧ ν = ((k_frL κ m i at_ a).2, α, τ)) := by
  intro m
  induction m with
  | zero =>
    intro i at_ a hi h
    unfold k_frL
    refine x_iload_n (pc := 12) 3 dX0_firstRefused_12 rfl rfl ?_
    refine x_aload_n (pc := 13) 1 dX0_firstRefused_13 rfl rfl ?_
    refine x_getr (pc := 14) (11) dX0_firstRefused_14 fX0_18 (zat_b rfl rfl) rfl ?_
    refine x_geti_l (pc := 17) dX0_firstRefused_17 fX0_28 (zat_b rfl rfl) rfl rfl ?_
    rw [h.1 11 (by decide) (by decide) (by decide), hN]
    refine x_icmp_ge_t (pc := 20) 95 dX0_firstRefused_20 (by decide) (nI_le (by omega) (by omega)) ?_
    refine x_aload_n (pc := 95) 1 dX0_firstRefused_95 rfl rfl ?_
    refine x_geti_l (pc := 96) dX0_firstRefused_96 fX0_48 (zat_b rfl rfl) rfl rfl ?_
    rw [h.1 10 (by decide) (by decide) (by decide), hb]
    cases b with
    | false =>
      rw [if_pos (show zbo false = 0 from rfl)]
      refine x_if_eq_t (pc := 99) 115 dX0_firstRefused_99 (by decide) (rfl) ?_
      refine x_iconst (pc := 115) (-1) dX0_firstRefused_115 (by decide) ?_
      refine x_iret (pc := 116) dX0_firstRefused_116 rfl ?_
      exact ⟨rfl, rfl⟩
    | true =>
      rw [if_neg (show ¬ zbo true = 0 by decide)]
      refine x_if_eq_f (pc := 99) 115 dX0_firstRefused_99 (by decide) (by decide) ?_
      refine x_aload_n (pc := 102) 0 dX0_firstRefused_102 rfl rfl ?_
      refine x_iconst (pc := 103) (nI 0) dX0_firstRefused_103 (by decide) ?_
      refine x_iconst (pc := 104) (nI 0) dX0_firstRefused_104 (by decide) ?_
      refine x_callV2i (pc := 105) dX0_firstRefused_105 lX0_40 (zat_b rfl rfl) rfl (s_accepts (d + 0) (nI 0) (nI 0) h.2.choose_spec.2 h.2.choose_spec.1) (Nat.le_of_ble_eq_true rfl) (Or.inl zgr) ?_
      cases hc : k_acc a (nI 0) (nI 0) with
      | true =>
        rw [if_pos rfl]
        refine x_if_ne_t (pc := 108) 115 dX0_firstRefused_108 (by decide) (by decide) ?_
        refine x_iconst (pc := 115) (-1) dX0_firstRefused_115 (by decide) ?_
        refine x_iret (pc := 116) dX0_firstRefused_116 rfl ?_
        exact ⟨rfl, rfl⟩
      | false =>
        rw [if_neg (by decide)]
        refine x_if_ne_f (pc := 108) 115 dX0_firstRefused_108 (by decide) (rfl) ?_
        refine x_iload_n (pc := 111) 2 dX0_firstRefused_111 rfl rfl ?_
        refine x_goto (pc := 112) 116 dX0_firstRefused_112 (by decide) ?_
        refine x_iret (pc := 116) dX0_firstRefused_116 rfl ?_
        exact ⟨rfl, rfl⟩
  | succ m ih =>
    intro i at_ a hi h
    unfold k_frL
    refine x_iload_n (pc := 12) 3 dX0_firstRefused_12 rfl rfl ?_
    refine x_aload_n (pc := 13) 1 dX0_firstRefused_13 rfl rfl ?_
    refine x_getr (pc := 14) (11) dX0_firstRefused_14 fX0_18 (zat_b rfl rfl) rfl ?_
    refine x_geti_l (pc := 17) dX0_firstRefused_17 fX0_28 (zat_b rfl rfl) rfl rfl ?_
    rw [h.1 11 (by decide) (by decide) (by decide), hN]
    refine x_icmp_ge_f (pc := 20) 95 dX0_firstRefused_20 (by decide) (nI_ge (by omega) (by omega)) ?_
    refine x_aload_n (pc := 23) 1 dX0_firstRefused_23 rfl rfl ?_
    refine x_getr (pc := 24) (11) dX0_firstRefused_24 fX0_18 (zat_b rfl rfl) rfl ?_
    refine x_iload_n (pc := 27) 3 dX0_firstRefused_27 rfl rfl ?_
    refine x_callV1i (pc := 28) dX0_firstRefused_28 lX0_34 (zat_b rfl rfl) rfl (s_isLearnt (d + 0) (by omega)) (Nat.le_of_ble_eq_true rfl) (Or.inl zgr) ?_
    rw [h.1 14 (by decide) (by decide) (by decide)]
    by_cases g : κ 14 i = 0
    · rw [if_pos g, decide_eq_false (p := ¬ κ 14 i = 0) (by simpa using g)]
      refine x_if_ne_f (pc := 31) 37 dX0_firstRefused_31 (by decide) (rfl) ?_
      refine x_goto (pc := 34) 89 dX0_firstRefused_34 (by decide) ?_
      refine x_iinc (pc := 89) (nI (i + 1)) dX0_firstRefused_89 rfl (zinc _) (by decide) rfl ?_
      refine x_goto (pc := 92) 12 dX0_firstRefused_92 (by decide) ?_
      exact ih (i + 1) at_ a (by omega) h
    · rw [if_neg g, decide_eq_true (p := ¬ κ 14 i = 0) g]
      refine x_if_ne_t (pc := 31) 37 dX0_firstRefused_31 (by decide) (by decide) ?_
      refine x_aload_n (pc := 37) 0 dX0_firstRefused_37 rfl rfl ?_
      refine x_aload_n (pc := 38) 1 dX0_firstRefused_38 rfl rfl ?_
      refine x_getr (pc := 39) (11) dX0_firstRefused_39 fX0_18 (zat_b rfl rfl) rfl ?_
      refine x_getr (pc := 42) (12) dX0_firstRefused_42 fX0_38 (zat_b rfl rfl) rfl ?_
      refine x_iload_n (pc := 45) 3 dX0_firstRefused_45 rfl rfl ?_
      have hj46 : i < 400 := by omega
      refine x_iald_l (pc := 46) (i) dX0_firstRefused_46 (zar_b rfl rfl rfl) rfl (by first | rfl | simp only [pk_mul, nI_add] | simp only [zon, pk_mul, nI_add]) hj46 (Nat.lt_of_lt_of_le hj46 (by decide)) ?_
      refine x_aload_n (pc := 47) 1 dX0_firstRefused_47 rfl rfl ?_
      refine x_getr (pc := 48) (11) dX0_firstRefused_48 fX0_18 (zat_b rfl rfl) rfl ?_
      refine x_getr (pc := 51) (13) dX0_firstRefused_51 fX0_39 (zat_b rfl rfl) rfl ?_
      refine x_iload_n (pc := 54) 3 dX0_firstRefused_54 rfl rfl ?_
      have hj55 : i < 400 := by omega
      refine x_iald_l (pc := 55) (i) dX0_firstRefused_55 (zar_b rfl rfl rfl) rfl (by first | rfl | simp only [pk_mul, nI_add] | simp only [zon, pk_mul, nI_add]) hj55 (Nat.lt_of_lt_of_le hj55 (by decide)) ?_
      rw [h.1 12 (by decide) (by decide) (by decide), h.1 13 (by decide) (by decide) (by decide)]
      refine x_callV2i (pc := 56) dX0_firstRefused_56 lX0_40 (zat_b rfl rfl) rfl (s_accepts (d + 0) _ _ h.2.choose_spec.2 h.2.choose_spec.1) (Nat.le_of_ble_eq_true rfl) (Or.inl zgr) ?_
      cases hc : k_acc a (κ 12 i) (κ 13 i) with
      | true =>
        rw [if_pos rfl]
        refine x_if_ne_t (pc := 59) 64 dX0_firstRefused_59 (by decide) (by decide) ?_
        refine x_aload_n (pc := 64) 0 dX0_firstRefused_64 rfl rfl ?_
        refine x_aload_n (pc := 65) 1 dX0_firstRefused_65 rfl rfl ?_
        refine x_getr (pc := 66) (11) dX0_firstRefused_66 fX0_18 (zat_b rfl rfl) rfl ?_
        refine x_getr (pc := 69) (12) dX0_firstRefused_69 fX0_38 (zat_b rfl rfl) rfl ?_
        refine x_iload_n (pc := 72) 3 dX0_firstRefused_72 rfl rfl ?_
        have hj73 : i < 400 := by omega
        refine x_iald_l (pc := 73) (i) dX0_firstRefused_73 (zar_b rfl rfl rfl) rfl (by first | rfl | simp only [pk_mul, nI_add] | simp only [zon, pk_mul, nI_add]) hj73 (Nat.lt_of_lt_of_le hj73 (by decide)) ?_
        refine x_aload_n (pc := 74) 1 dX0_firstRefused_74 rfl rfl ?_
        refine x_getr (pc := 75) (11) dX0_firstRefused_75 fX0_18 (zat_b rfl rfl) rfl ?_
        refine x_getr (pc := 78) (13) dX0_firstRefused_78 fX0_39 (zat_b rfl rfl) rfl ?_
        refine x_iload_n (pc := 81) 3 dX0_firstRefused_81 rfl rfl ?_
        have hj82 : i < 400 := by omega
        refine x_iald_l (pc := 82) (i) dX0_firstRefused_82 (zar_b rfl rfl rfl) rfl (by first | rfl | simp only [pk_mul, nI_add] | simp only [zon, pk_mul, nI_add]) hj82 (Nat.lt_of_lt_of_le hj82 (by decide)) ?_
        rw [h.1 12 (by decide) (by decide) (by decide), h.1 13 (by decide) (by decide) (by decide)]
        refine x_callV2v (pc := 83) dX0_firstRefused_83 lX0_44 (zat_b rfl rfl) rfl (s_take (d + 0) _ _ h.2.choose_spec.2 h.2.choose_spec.1) (Nat.le_of_ble_eq_true rfl) (Or.inl zgr) ?_
        refine x_iinc (pc := 86) (nI (at_ + 1)) dX0_firstRefused_86 rfl (zinc _) (by decide) rfl ?_
        refine x_iinc (pc := 89) (nI (i + 1)) dX0_firstRefused_89 rfl (zinc _) (by decide) rfl ?_
        refine x_goto (pc := 92) 12 dX0_firstRefused_92 (by decide) ?_
        exact ih (i + 1) (at_ + 1) _ (by omega) h.take
      | false =>
        rw [if_neg (by decide)]
        refine x_if_ne_f (pc := 59) 64 dX0_firstRefused_59 (by decide) (rfl) ?_
        refine x_iload_n (pc := 62) 2 dX0_firstRefused_62 rfl rfl ?_
        refine x_iret (pc := 63) dX0_firstRefused_63 rfl ?_
        exact ⟨rfl, rfl⟩
theorem s_firstRefused (d : Nat) (b : Bool) (hb : κ 10 7 = zbo b) (hN : κ 11 5 = nI (kN κ)) (hN4 : kN κ ≤ 400) : zTr E (d + 3) mX0_firstRefused [.ref 4, .ref 10] (κ, α, τ) (some (.int (k_first_ref κ).1)) ((k_first_ref κ).2, α, τ) := by
  refine zM.tr (zM_of [some (.ref 4), some (.ref 10), none, none] (by decide) rfl (Nat.le_of_ble_eq_true rfl) ?_)
  unfold k_first_ref
  refine x_aload_n (pc := 0) 0 dX0_firstRefused_0 rfl rfl ?_
  refine x_aload_n (pc := 1) 1 dX0_firstRefused_1 rfl rfl ?_
  refine x_getr (pc := 2) (11) dX0_firstRefused_2 fX0_18 (zat_b rfl rfl) rfl ?_
  refine x_callV1v (pc := 5) dX0_firstRefused_5 lX0_24 (zat_b rfl rfl) rfl (s_swt d hN hN4) (Nat.le_of_ble_eq_true rfl) (Or.inl zgr) ?_
  refine x_iconst (pc := 8) (nI 0) dX0_firstRefused_8 (by decide) ?_
  refine x_istore_n (pc := 9) 2 dX0_firstRefused_9 rfl (by decide) rfl ?_
  refine x_iconst (pc := 10) (nI 0) dX0_firstRefused_10 (by decide) ?_
  refine x_istore_n (pc := 11) 3 dX0_firstRefused_11 rfl (by decide) rfl ?_
  exact l_fr (d + 1) b hb hN hN4 (kN κ) 0 0 _ (by omega) kRd.told
theorem k_lnF_p {l : Int32} {p : Nat} (h : p ≠ 4) : k_lnF κ l p = κ p := by unfold k_lnF; split <;> (funext j; rw [zup_p h])
theorem k_lnF_i {l : Int32} {j : Nat} (h3 : j ≠ 3) (h4 : j ≠ 4) : k_lnF κ l 4 j = κ 4 j := by unfold k_lnF; split <;> first | rw [zup_i h3] | rw [zup_i h4]
theorem k_lnL_p {V : Int32} {p : Nat} (h5 : p ≠ 5) (h4 : p ≠ 4) : ∀ n κ, (k_lnL V n κ).2 p = κ p
  | 0, κ => rfl
  | n + 1, κ => by
    unfold k_lnL
    split
    · rfl
    · split
      · exact k_rl_p h5
      · rw [k_lnL_p h5 h4 n, k_lnF_p h4, k_rl_p h5]
theorem k_lnL_i {V : Int32} {j : Nat} (h3 : j ≠ 3) (h4 : j ≠ 4) : ∀ n κ, (k_lnL V n κ).2 4 j = κ 4 j
  | 0, κ => rfl
  | n + 1, κ => by
    unfold k_lnL
    split
    · rfl
    · split
      · show (k_rl κ V (κ 4 3 ||| κ 4 4) false).2 4 j = κ 4 j
        rw [k_rl_p (by decide)]
      · rw [k_lnL_i h3 h4 n, k_lnF_i h3 h4, k_rl_p (by decide)]
theorem k_lnL_ok {V : Int32} {N : Nat} : ∀ n κ a, kTk κ N a → (k_lnL V n κ).1 = true → ∃ a', kTk (k_lnL V n κ).2 N a'
  | 0, κ, a, h, _ => ⟨a, h⟩
  | n + 1, κ, a, h, hb => by
    unfold k_lnL at hb ⊢
    split at hb
    · rename_i g1
      rw [if_pos g1]
      exact ⟨a, h⟩
    · rename_i g1
      rw [if_neg g1]
      split at hb
      · cases hb
      · rename_i g2
        rw [if_neg g2]
        obtain ⟨a', h'⟩ := k_rl_tk h g2
        exact k_lnL_ok n _ a' (h'.of (k_lnF_p (by decide))) hb
theorem l_line (d : Nat) (V : Int32) {N : Nat} : ∀ n i κ a, i + n = 401 → kTk κ N a → ∀ x4, zX E (d + 3) mX0_readLine 12 [some (.ref 4), some (.ref 5), some (.int V), some (.int (nI i)), x4] [] (κ, α, τ) (fun r ν => r = some (.int (zbo (k_lnL V n κ).1)) ∧ ν = ((k_lnL V n κ).2, α, τ)) := by
  intro n
  induction n with
  | zero =>
    intro i κ a hi h x4
    refine x_iload_n (pc := 12) 3 dX0_readLine_12 rfl rfl ?_
    refine x_sipush (pc := 13) (nI 400) dX0_readLine_13 (by decide) ?_
    refine x_icmp_gt_t (pc := 16) 94 dX0_readLine_16 (by decide) (nI_lt (a := 400) (by omega) (by omega)) ?_
    refine x_iconst (pc := 94) (nI 1) dX0_readLine_94 (by decide) ?_
    refine x_zret (pc := 95) dX0_readLine_95 rfl (by decide) ?_
    exact ⟨rfl, rfl⟩
  | succ n ih =>
    intro i κ a hi h x4
    unfold k_lnL
    by_cases h1 : κ 5 7 = -2
    · rw [if_pos h1]
      refine x_iload_n (pc := 12) 3 dX0_readLine_12 rfl rfl ?_
      refine x_sipush (pc := 13) (nI 400) dX0_readLine_13 (by decide) ?_
      refine x_icmp_gt_f (pc := 16) 94 dX0_readLine_16 (by decide) (nI_nlt (b := i) (a := 400) (by omega) (by omega)) ?_
      refine x_aload_n (pc := 19) 1 dX0_readLine_19 rfl rfl ?_
      refine x_geti_l (pc := 20) dX0_readLine_20 fX0_60 (zat_b rfl rfl) rfl rfl ?_
      refine x_bipush (pc := 23) (-2) dX0_readLine_23 (by decide) ?_
      refine x_icmp_eq_t (pc := 25) 94 dX0_readLine_25 (by decide) (h1) ?_
      refine x_iconst (pc := 94) (nI 1) dX0_readLine_94 (by decide) ?_
      refine x_zret (pc := 95) dX0_readLine_95 rfl (by decide) ?_
      exact ⟨rfl, rfl⟩
    · rw [if_neg h1]
      refine x_iload_n (pc := 12) 3 dX0_readLine_12 rfl rfl ?_
      refine x_sipush (pc := 13) (nI 400) dX0_readLine_13 (by decide) ?_
      refine x_icmp_gt_f (pc := 16) 94 dX0_readLine_16 (by decide) (nI_nlt (b := i) (a := 400) (by omega) (by omega)) ?_
      refine x_aload_n (pc := 19) 1 dX0_readLine_19 rfl rfl ?_
      refine x_geti_l (pc := 20) dX0_readLine_20 fX0_60 (zat_b rfl rfl) rfl rfl ?_
      refine x_bipush (pc := 23) (-2) dX0_readLine_23 (by decide) ?_
      refine x_icmp_eq_f (pc := 25) 94 dX0_readLine_25 (by decide) (h1) ?_
      refine x_aload_n (pc := 28) 1 dX0_readLine_28 rfl rfl ?_
      refine x_iload_n (pc := 29) 2 dX0_readLine_29 rfl rfl ?_
      refine x_aload_n (pc := 30) 0 dX0_readLine_30 rfl rfl ?_
      refine x_geti_l (pc := 31) dX0_readLine_31 fX0_70 (zat_b rfl rfl) rfl rfl ?_
      refine x_aload_n (pc := 34) 0 dX0_readLine_34 rfl rfl ?_
      refine x_geti_l (pc := 35) dX0_readLine_35 fX0_73 (zat_b rfl rfl) rfl rfl ?_
      refine x_ior (pc := 38) dX0_readLine_38 ?_
      refine x_iconst (pc := 39) (nI 0) dX0_readLine_39 (by decide) ?_
      refine x_callV3i (pc := 40) dX0_readLine_40 lX0_79 (zat_b rfl rfl) rfl (s_readLiteral d V (κ 4 3 ||| κ 4 4) false h) (Nat.le_of_ble_eq_true rfl) (Or.inl zgr) ?_
      refine x_istore (pc := 43) dX0_readLine_43 (by decide) rfl ?_
      refine x_iload (pc := 45) dX0_readLine_45 rfl ?_
      by_cases h2 : (k_rl κ V (κ 4 3 ||| κ 4 4) false).1 = 0
      · rw [if_pos h2]
        refine x_if_ne_f (pc := 47) 52 dX0_readLine_47 (by decide) (h2) ?_
        refine x_iconst (pc := 50) (nI 0) dX0_readLine_50 (by decide) ?_
        refine x_zret (pc := 51) dX0_readLine_51 rfl (by decide) ?_
        exact ⟨rfl, rfl⟩
      · rw [if_neg h2]
        obtain ⟨a', h'⟩ := k_rl_tk h h2
        generalize k_rl κ V (κ 4 3 ||| κ 4 4) false = X at h2 h' ⊢
        by_cases h3 : 0 < X.1
        · have e : k_lnF X.2 X.1 = zup X.2 4 3 (X.2 4 3 ||| kb X.1) := by unfold k_lnF; rw [if_pos h3]
          rw [e]
          refine x_if_ne_t (pc := 47) 52 dX0_readLine_47 (by decide) (h2) ?_
          refine x_iload (pc := 52) dX0_readLine_52 rfl ?_
          refine x_if_le_f (pc := 54) 74 dX0_readLine_54 (by decide) (Int32.not_le.mpr h3) ?_
          refine x_aload_n (pc := 57) 0 dX0_readLine_57 rfl rfl ?_
          refine x_dup (pc := 58) dX0_readLine_58 rfl ?_
          refine x_geti_l (pc := 59) dX0_readLine_59 fX0_70 (zat_b rfl rfl) rfl rfl ?_
          refine x_iload (pc := 62) dX0_readLine_62 rfl ?_
          refine x_callN1i (pc := 64) dX0_readLine_64 lX0_83 (s_bitOf (d + 1) _) (Nat.le_of_ble_eq_true rfl) (Or.inl zgr) ?_
          refine x_ior (pc := 67) dX0_readLine_67 ?_
          refine x_puti_l (pc := 68) dX0_readLine_68 pX0_70 (zat_b rfl rfl) rfl rfl ?_
          refine x_goto (pc := 71) 88 dX0_readLine_71 (by decide) ?_
          refine x_iinc (pc := 88) (nI (i + 1)) dX0_readLine_88 rfl (zinc _) (by decide) rfl ?_
          refine x_goto (pc := 91) 12 dX0_readLine_91 (by decide) ?_
          exact ih (i + 1) _ a' (by omega) (h'.of (by funext j; rw [zup_p (by decide)])) _
        · have e : k_lnF X.2 X.1 = zup X.2 4 4 (X.2 4 4 ||| kb X.1) := by unfold k_lnF; rw [if_neg h3]
          rw [e]
          refine x_if_ne_t (pc := 47) 52 dX0_readLine_47 (by decide) (h2) ?_
          refine x_iload (pc := 52) dX0_readLine_52 rfl ?_
          refine x_if_le_t (pc := 54) 74 dX0_readLine_54 (by decide) (Int32.not_lt.mp h3) ?_
          refine x_aload_n (pc := 74) 0 dX0_readLine_74 rfl rfl ?_
          refine x_dup (pc := 75) dX0_readLine_75 rfl ?_
          refine x_geti_l (pc := 76) dX0_readLine_76 fX0_73 (zat_b rfl rfl) rfl rfl ?_
          refine x_iload (pc := 79) dX0_readLine_79 rfl ?_
          refine x_callN1i (pc := 81) dX0_readLine_81 lX0_83 (s_bitOf (d + 1) _) (Nat.le_of_ble_eq_true rfl) (Or.inl zgr) ?_
          refine x_ior (pc := 84) dX0_readLine_84 ?_
          refine x_puti_l (pc := 85) dX0_readLine_85 pX0_73 (zat_b rfl rfl) rfl rfl ?_
          refine x_iinc (pc := 88) (nI (i + 1)) dX0_readLine_88 rfl (zinc _) (by decide) rfl ?_
          refine x_goto (pc := 91) 12 dX0_readLine_91 (by decide) ?_
          exact ih (i + 1) _ a' (by omega) (h'.of (by funext j; rw [zup_p (by decide)])) _
theorem s_line (d : Nat) (V : Int32) {N a : Nat} (h : kTk κ N a) : zTr E (d + 3) mX0_readLine [.ref 4, .ref 5, .int V] (κ, α, τ) (some (.int (zbo (k_line κ V).1))) ((k_line κ V).2, α, τ) := by
  refine zM.tr (zM_of [some (.ref 4), some (.ref 5), some (.int V), none, none] (by decide) rfl (Nat.le_of_ble_eq_true rfl) ?_)
  unfold k_line
  refine x_aload_n (pc := 0) 0 dX0_readLine_0 rfl rfl ?_
  refine x_iconst (pc := 1) (nI 0) dX0_readLine_1 (by decide) ?_
  refine x_puti_l (pc := 2) dX0_readLine_2 pX0_70 (zat_b rfl rfl) rfl rfl ?_
  refine x_aload_n (pc := 5) 0 dX0_readLine_5 rfl rfl ?_
  refine x_iconst (pc := 6) (nI 0) dX0_readLine_6 (by decide) ?_
  refine x_puti_l (pc := 7) dX0_readLine_7 pX0_73 (zat_b rfl rfl) rfl rfl ?_
  refine x_iconst (pc := 10) (nI 0) dX0_readLine_10 (by decide) ?_
  refine x_istore_n (pc := 11) 3 dX0_readLine_11 rfl (by decide) rfl ?_
  exact l_line d V 401 0 _ a (by omega) (h.of (by funext j; rw [zup_p (by decide), zup_p (by decide)])) _
/-- what reading a log rests on -/
def kZ (κ : Nat → Nat → Int32) (N : Nat) (V : Int32) : Prop := (∃ a, kTk κ N a) ∧ κ 10 4 = V ∧ (∃ n, n ≤ 481 ∧ κ 4 2 = nI n) ∧ ∃ e : Bool, κ 4 5 = zbo e
theorem kZ.line {N : Nat} {V : Int32} (h : kZ κ N V) (hb : (k_line κ V).1 = true) : kZ (k_line κ V).2 N V := by
  obtain ⟨⟨a, h1⟩, h2, ⟨n, h3, h4⟩, e, h5⟩ := h
  unfold k_line at hb ⊢
  refine ⟨k_lnL_ok 401 _ a (h1.of (by funext j; rw [zup_p (by decide), zup_p (by decide)])) hb, ?_, ⟨n, h3, ?_⟩, e, ?_⟩
  · rw [k_lnL_p (by decide) (by decide), zup_p (by decide), zup_p (by decide)]; exact h2
  · rw [k_lnL_i (by decide) (by decide), zup_i (by decide), zup_i (by decide)]; exact h4
  · rw [k_lnL_i (by decide) (by decide), zup_i (by decide), zup_i (by decide)]; exact h5
theorem kZ.adv {N : Nat} {V : Int32} (h : kZ κ N V) : kZ (k_adv κ) N V := by
  obtain ⟨⟨a, h1⟩, h2, ⟨n, h3, h4⟩, e, h5⟩ := h
  exact ⟨k_adv_tk h1, by rw [k_adv_p (by decide)]; exact h2, ⟨n, h3, by rw [k_adv_p (by decide)]; exact h4⟩, e, by rw [k_adv_p (by decide)]; exact h5⟩
theorem k_take_5 {a b : Int32} : k_take κ a b 4 5 = κ 4 5 := by
  unfold k_take
  split
  · rw [zup_i (by decide), zup_p (by decide), zup_p (by decide)]
  · rfl
theorem kZ.lg1 {N : Nat} {V : Int32} (h : kZ κ N V) : kZ (k_lg1 κ) N V := by
  obtain ⟨⟨a, h1⟩, h2, ⟨n, h3, h4⟩, e, h5⟩ := h
  unfold k_lg1
  have hr : kRd κ (zup κ 4 5 (zbo (decide (¬ κ 4 5 = 0) || decide (κ 4 3 ||| κ 4 4 = 0)))) := ⟨fun p p4 _ _ => by funext j; rw [zup_p p4], n, h3, by rw [zup_i (by decide)]; exact h4⟩
  have hr2 := hr.take (x := κ 4 3) (y := κ 4 4)
  exact ⟨⟨a, h1.of (hr2.1 5 (by decide) (by decide) (by decide))⟩, by rw [hr2.1 10 (by decide) (by decide) (by decide)]; exact h2, hr2.2, _, by rw [k_take_5, zup_same]⟩
theorem l_log (d : Nat) (V : Int32) {N : Nat} : ∀ n i al c κ, i + n = 401 → kZ κ N V → zX E (d + 4) mX0_readLog 25 [some (.ref 4), some (.ref 5), some (.ref 10), some (.int (zbo al)), some (.int (nI c)), some (.int (nI i))] [] (κ, α, τ) (fun r ν => r = some (.int (k_lgL V n al c κ).1) ∧ ν = ((k_lgL V n al c κ).2, α, τ)) := by
  intro n
  induction n with
  | zero =>
    intro i al c κ hi h
    refine x_iload (pc := 25) dX0_readLog_25 rfl ?_
    refine x_sipush (pc := 27) (nI 400) dX0_readLog_27 (by decide) ?_
    refine x_icmp_gt_t (pc := 30) 138 dX0_readLog_30 (by decide) (nI_lt (a := 400) (by omega) (by omega)) ?_
    refine x_iload (pc := 138) dX0_readLog_138 rfl ?_
    refine x_iret (pc := 140) dX0_readLog_140 rfl ?_
    exact ⟨rfl, rfl⟩
  | succ n ih =>
    intro i al c κ hi h
    unfold k_lgL
    by_cases h1 : κ 5 7 = -7
    · rw [if_pos h1]
      refine x_iload (pc := 25) dX0_readLog_25 rfl ?_
      refine x_sipush (pc := 27) (nI 400) dX0_readLog_27 (by decide) ?_
      refine x_icmp_gt_f (pc := 30) 138 dX0_readLog_30 (by decide) (nI_nlt (b := i) (a := 400) (by omega) (by omega)) ?_
      refine x_aload_n (pc := 33) 1 dX0_readLog_33 rfl rfl ?_
      refine x_geti_l (pc := 34) dX0_readLog_34 fX0_60 (zat_b rfl rfl) rfl rfl ?_
      refine x_bipush (pc := 37) (-7) dX0_readLog_37 (by decide) ?_
      refine x_icmp_eq_t (pc := 39) 138 dX0_readLog_39 (by decide) (h1) ?_
      refine x_iload (pc := 138) dX0_readLog_138 rfl ?_
      refine x_iret (pc := 140) dX0_readLog_140 rfl ?_
      exact ⟨rfl, rfl⟩
    · rw [if_neg h1]
      refine x_iload (pc := 25) dX0_readLog_25 rfl ?_
      refine x_sipush (pc := 27) (nI 400) dX0_readLog_27 (by decide) ?_
      refine x_icmp_gt_f (pc := 30) 138 dX0_readLog_30 (by decide) (nI_nlt (b := i) (a := 400) (by omega) (by omega)) ?_
      refine x_aload_n (pc := 33) 1 dX0_readLog_33 rfl rfl ?_
      refine x_geti_l (pc := 34) dX0_readLog_34 fX0_60 (zat_b rfl rfl) rfl rfl ?_
      refine x_bipush (pc := 37) (-7) dX0_readLog_37 (by decide) ?_
      refine x_icmp_eq_f (pc := 39) 138 dX0_readLog_39 (by decide) (h1) ?_
      refine x_aload_n (pc := 42) 0 dX0_readLog_42 rfl rfl ?_
      refine x_aload_n (pc := 43) 1 dX0_readLog_43 rfl rfl ?_
      refine x_aload_n (pc := 44) 2 dX0_readLog_44 rfl rfl ?_
      refine x_geti_l (pc := 45) dX0_readLog_45 fX0_63 (zat_b rfl rfl) rfl rfl ?_
      rw [h.2.1]
      refine x_callV2i (pc := 48) dX0_readLog_48 lX0_66 (zat_b rfl rfl) rfl (s_line d V h.1.choose_spec) (Nat.le_of_ble_eq_true rfl) (Or.inl zgr) ?_
      cases hc : (k_line κ V).1 with
      | false =>
        rw [if_neg (by decide)]
        refine x_if_ne_f (pc := 51) 56 dX0_readLog_51 (by decide) (rfl) ?_
        refine x_iconst (pc := 54) (-1) dX0_readLog_54 (by decide) ?_
        refine x_iret (pc := 55) dX0_readLog_55 rfl ?_
        exact ⟨rfl, rfl⟩
      | true =>
        rw [if_pos rfl]
        have hl := h.line hc
        generalize (k_line κ V).2 = K at hl ⊢
        obtain ⟨m, hm4, hm⟩ := hl.2.2.1
        have no : zX E (d + 4) mX0_readLog 79 [some (.ref 4), some (.ref 5), some (.ref 10), some (.int (zbo al)), some (.int (nI c)), some (.int (nI i))] [] (K, α, τ) (fun r ν => r = some (.int (k_lgL V n false c (k_adv K)).1) ∧ ν = ((k_lgL V n false c (k_adv K)).2, α, τ)) := by
          refine x_iconst (pc := 79) (nI 0) dX0_readLog_79 (by decide) ?_
          refine x_istore_n (pc := 80) 3 dX0_readLog_80 rfl (by decide) rfl ?_
          refine x_iload_n (pc := 81) 3 dX0_readLog_81 rfl rfl ?_
          refine x_if_eq_t (pc := 82) 128 dX0_readLog_82 (by decide) (rfl) ?_
          refine x_aload_n (pc := 128) 1 dX0_readLog_128 rfl rfl ?_
          refine x_callV0v (pc := 129) dX0_readLog_129 lX0_76 (zat_b rfl rfl) rfl (s_advance (d + 2) hl.1.choose_spec) (Nat.le_of_ble_eq_true rfl) (Or.inl zgr) ?_
          refine x_iinc (pc := 132) (nI (i + 1)) dX0_readLog_132 rfl (zinc _) (by decide) rfl ?_
          refine x_goto (pc := 135) 25 dX0_readLog_135 (by decide) ?_
          exact ih (i + 1) false c _ (by omega) hl.adv
        cases al with
        | false =>
          rw [Bool.false_and, if_neg (by decide)]
          refine x_if_ne_t (pc := 51) 56 dX0_readLog_51 (by decide) (by decide) ?_
          refine x_iload_n (pc := 56) 3 dX0_readLog_56 rfl rfl ?_
          refine x_if_eq_t (pc := 57) 79 dX0_readLog_57 (by decide) (rfl) ?_
          exact no
        | true =>
          rw [Bool.true_and]
          refine x_if_ne_t (pc := 51) 56 dX0_readLog_51 (by decide) (by decide) ?_
          refine x_iload_n (pc := 56) 3 dX0_readLog_56 rfl rfl ?_
          refine x_if_eq_f (pc := 57) 79 dX0_readLog_57 (by decide) (by decide) ?_
          refine x_aload_n (pc := 60) 0 dX0_readLog_60 rfl rfl ?_
          refine x_aload_n (pc := 61) 0 dX0_readLog_61 rfl rfl ?_
          refine x_geti_l (pc := 62) dX0_readLog_62 fX0_70 (zat_b rfl rfl) rfl rfl ?_
          refine x_aload_n (pc := 65) 0 dX0_readLog_65 rfl rfl ?_
          refine x_geti_l (pc := 66) dX0_readLog_66 fX0_73 (zat_b rfl rfl) rfl rfl ?_
          refine x_callV2i (pc := 69) dX0_readLog_69 lX0_40 (zat_b rfl rfl) rfl (s_accepts (d + 2) _ _ hm hm4) (Nat.le_of_ble_eq_true rfl) (Or.inl zgr) ?_
          cases ha : k_acc K (K 4 3) (K 4 4) with
          | false =>
            rw [if_neg (by decide)]
            refine x_if_eq_t (pc := 72) 79 dX0_readLog_72 (by decide) (rfl) ?_
            exact no
          | true =>
            rw [if_pos rfl]
            have fin : ∀ z : Bool, (decide (¬ K 4 5 = 0) || decide (K 4 3 ||| K 4 4 = 0)) = z → zX E (d + 4) mX0_readLog 113 [some (.ref 4), some (.ref 5), some (.ref 10), some (.int (zbo true)), some (.int (nI (c + 1))), some (.int (nI i))] [.int (zbo z), .ref 4] (K, α, τ) (fun r ν => r = some (.int (k_lgL V n true (c + 1) (k_adv (k_lg1 K))).1) ∧ ν = ((k_lgL V n true (c + 1) (k_adv (k_lg1 K))).2, α, τ)) := by
              intro z hz
              have hg := hl.lg1
              have e : k_lg1 K = k_take (zup K 4 5 (zbo z)) (K 4 3) (K 4 4) := by unfold k_lg1; rw [hz]
              rw [e] at hg ⊢
              refine x_put0_l (pc := 113) dX0_readLog_113 pX0_57 (zat_b rfl rfl) rfl rfl (And.intro (zbo_nar z) (zbo_fit z)).1 (And.intro (zbo_nar z) (zbo_fit z)).2 ?_
              refine x_aload_n (pc := 116) 0 dX0_readLog_116 rfl rfl ?_
              refine x_aload_n (pc := 117) 0 dX0_readLog_117 rfl rfl ?_
              refine x_geti_l (pc := 118) dX0_readLog_118 fX0_70 (zat_b rfl rfl) rfl rfl ?_
              refine x_aload_n (pc := 121) 0 dX0_readLog_121 rfl rfl ?_
              refine x_geti_l (pc := 122) dX0_readLog_122 fX0_73 (zat_b rfl rfl) rfl rfl ?_
              rw [zup_i (by decide), zup_i (by decide)]
              refine x_callV2v (pc := 125) dX0_readLog_125 lX0_44 (zat_b rfl rfl) rfl (s_take (d + 2) _ _ (n := m) (by rw [zup_i (by decide)]; exact hm) hm4) (Nat.le_of_ble_eq_true rfl) (Or.inl zgr) ?_
              refine x_aload_n (pc := 128) 1 dX0_readLog_128 rfl rfl ?_
              refine x_callV0v (pc := 129) dX0_readLog_129 lX0_76 (zat_b rfl rfl) rfl (s_advance (d + 2) hg.1.choose_spec) (Nat.le_of_ble_eq_true rfl) (Or.inl zgr) ?_
              refine x_iinc (pc := 132) (nI (i + 1)) dX0_readLog_132 rfl (zinc _) (by decide) rfl ?_
              refine x_goto (pc := 135) 25 dX0_readLog_135 (by decide) ?_
              exact ih (i + 1) true (c + 1) _ (by omega) hg.adv
            by_cases g1 : K 4 5 = 0
            · by_cases g2 : K 4 3 ||| K 4 4 = 0
              ·
                refine x_if_eq_f (pc := 72) 79 dX0_readLog_72 (by decide) (by decide) ?_
                refine x_iconst (pc := 75) (nI 1) dX0_readLog_75 (by decide) ?_
                refine x_goto (pc := 76) 80 dX0_readLog_76 (by decide) ?_
                refine x_istore_n (pc := 80) 3 dX0_readLog_80 rfl (by decide) rfl ?_
                refine x_iload_n (pc := 81) 3 dX0_readLog_81 rfl rfl ?_
                refine x_if_eq_f (pc := 82) 128 dX0_readLog_82 (by decide) (by decide) ?_
                refine x_iinc (pc := 85) (nI (c + 1)) dX0_readLog_85 rfl (zinc _) (by decide) rfl ?_
                refine x_aload_n (pc := 88) 0 dX0_readLog_88 rfl rfl ?_
                refine x_aload_n (pc := 89) 0 dX0_readLog_89 rfl rfl ?_
                refine x_geti_l (pc := 90) dX0_readLog_90 fX0_57 (zat_b rfl rfl) rfl rfl ?_
                refine x_if_ne_f (pc := 93) 108 dX0_readLog_93 (by decide) (g1) ?_
                refine x_aload_n (pc := 96) 0 dX0_readLog_96 rfl rfl ?_
                refine x_geti_l (pc := 97) dX0_readLog_97 fX0_70 (zat_b rfl rfl) rfl rfl ?_
                refine x_aload_n (pc := 100) 0 dX0_readLog_100 rfl rfl ?_
                refine x_geti_l (pc := 101) dX0_readLog_101 fX0_73 (zat_b rfl rfl) rfl rfl ?_
                refine x_ior (pc := 104) dX0_readLog_104 ?_
                refine x_if_ne_f (pc := 105) 112 dX0_readLog_105 (by decide) (g2) ?_
                refine x_iconst (pc := 108) (nI 1) dX0_readLog_108 (by decide) ?_
                refine x_goto (pc := 109) 113 dX0_readLog_109 (by decide) ?_
                exact fin true (by rw [decide_eq_true g2, Bool.or_true])
              ·
                refine x_if_eq_f (pc := 72) 79 dX0_readLog_72 (by decide) (by decide) ?_
                refine x_iconst (pc := 75) (nI 1) dX0_readLog_75 (by decide) ?_
                refine x_goto (pc := 76) 80 dX0_readLog_76 (by decide) ?_
                refine x_istore_n (pc := 80) 3 dX0_readLog_80 rfl (by decide) rfl ?_
                refine x_iload_n (pc := 81) 3 dX0_readLog_81 rfl rfl ?_
                refine x_if_eq_f (pc := 82) 128 dX0_readLog_82 (by decide) (by decide) ?_
                refine x_iinc (pc := 85) (nI (c + 1)) dX0_readLog_85 rfl (zinc _) (by decide) rfl ?_
                refine x_aload_n (pc := 88) 0 dX0_readLog_88 rfl rfl ?_
                refine x_aload_n (pc := 89) 0 dX0_readLog_89 rfl rfl ?_
                refine x_geti_l (pc := 90) dX0_readLog_90 fX0_57 (zat_b rfl rfl) rfl rfl ?_
                refine x_if_ne_f (pc := 93) 108 dX0_readLog_93 (by decide) (g1) ?_
                refine x_aload_n (pc := 96) 0 dX0_readLog_96 rfl rfl ?_
                refine x_geti_l (pc := 97) dX0_readLog_97 fX0_70 (zat_b rfl rfl) rfl rfl ?_
                refine x_aload_n (pc := 100) 0 dX0_readLog_100 rfl rfl ?_
                refine x_geti_l (pc := 101) dX0_readLog_101 fX0_73 (zat_b rfl rfl) rfl rfl ?_
                refine x_ior (pc := 104) dX0_readLog_104 ?_
                refine x_if_ne_t (pc := 105) 112 dX0_readLog_105 (by decide) (g2) ?_
                refine x_iconst (pc := 112) (nI 0) dX0_readLog_112 (by decide) ?_
                exact fin false (by rw [decide_eq_false g2, decide_eq_false (p := ¬ K 4 5 = 0) (by simpa using g1)]; rfl)
            ·
              refine x_if_eq_f (pc := 72) 79 dX0_readLog_72 (by decide) (by decide) ?_
              refine x_iconst (pc := 75) (nI 1) dX0_readLog_75 (by decide) ?_
              refine x_goto (pc := 76) 80 dX0_readLog_76 (by decide) ?_
              refine x_istore_n (pc := 80) 3 dX0_readLog_80 rfl (by decide) rfl ?_
              refine x_iload_n (pc := 81) 3 dX0_readLog_81 rfl rfl ?_
              refine x_if_eq_f (pc := 82) 128 dX0_readLog_82 (by decide) (by decide) ?_
              refine x_iinc (pc := 85) (nI (c + 1)) dX0_readLog_85 rfl (zinc _) (by decide) rfl ?_
              refine x_aload_n (pc := 88) 0 dX0_readLog_88 rfl rfl ?_
              refine x_aload_n (pc := 89) 0 dX0_readLog_89 rfl rfl ?_
              refine x_geti_l (pc := 90) dX0_readLog_90 fX0_57 (zat_b rfl rfl) rfl rfl ?_
              refine x_if_ne_t (pc := 93) 108 dX0_readLog_93 (by decide) (g1) ?_
              refine x_iconst (pc := 108) (nI 1) dX0_readLog_108 (by decide) ?_
              refine x_goto (pc := 109) 113 dX0_readLog_109 (by decide) ?_
              exact fin true (by rw [decide_eq_true (p := ¬ K 4 5 = 0) g1]; rfl)
theorem k_srE_p {p : Nat} (h : p ≠ 5) (h78 : p ≠ 78) (h79 : p ≠ 79) : k_srE κ p = κ p := by
  unfold k_srE
  rw [k_tok0_p h]
  funext j
  unfold k_kt
  rw [zup_p h, zup_p h, zup_p h79, zup_p h78]
theorem k_srL_p {p : Nat} (h : p ≠ 5) (h78 : p ≠ 78) (h79 : p ≠ 79) : ∀ n f κ, k_srL n f κ p = κ p
  | 0, f, κ => rfl
  | n + 1, f, κ => by
    unfold k_srL
    split
    · rw [k_srL_p h h78 h79 n]
      unfold k_srF
      split
      · rfl
      · funext j
        unfold k_kt
        rw [zup_p h, zup_p h79, zup_p h78]
    · rfl
theorem k_start_p {p : Nat} (h : p ≠ 5) (h78 : p ≠ 78) (h79 : p ≠ 79) : k_start κ p = κ p := by
  unfold k_start
  rw [k_srE_p h h78 h79, k_srL_p h h78 h79]
  funext j
  rw [zup_p h]
theorem k_srL_n {L : Nat} (hL4 : L ≤ 400) : ∀ m f κ n, κ 5 5 = nI L → κ 5 3 = nI n → n ≤ f → f ≤ L → ∃ n', n' ≤ L ∧ k_srL m f κ 5 3 = nI n'
  | 0, f, κ, n, _, h, h1, h2 => ⟨n, by omega, h⟩
  | m + 1, f, κ, n, hL, h, h1, h2 => by
    have c : kLen κ = L := by unfold kLen; rw [hL]; exact nI_clamp (by omega)
    unfold k_srL
    by_cases g : f < kLen κ
    · rw [if_pos g]
      obtain ⟨e1, e2⟩ := k_eot_le g
      by_cases hb : k_bl κ f = true
      · have e : k_srF κ f = κ := by unfold k_srF; rw [if_pos hb]
        rw [e]
        exact k_srL_n hL4 m _ κ n hL h (by omega) (by omega)
      · have e : k_srF κ f = k_kt κ (k_tokOf κ f (k_eot κ f)) (nI f) := by unfold k_srF; rw [if_neg hb]
        rw [e]
        exact k_srL_n hL4 m _ _ (n + 1) (by rw [k_kt_5 (by decide)]; exact hL) (k_kt_n h) (by omega) (by omega)
    · rw [if_neg g]
      exact ⟨n, by omega, h⟩
/-- behind the splitting: tokens, the first of them the one now -/
theorem k_start_tk {L : Nat} (hL : κ 5 5 = nI L) (hL4 : L ≤ 400) : ∃ N, kTk (k_start κ) N 0 := by
  obtain ⟨n, hn, h⟩ := k_srL_n hL4 400 0 (zup κ 5 3 (nI 0)) 0 (by rw [zup_i (by decide)]; exact hL) (zup_same _ _ _ _) (by omega) (by omega)
  refine ⟨n + 1, ?_⟩
  unfold k_start k_srE kTk k_tok0
  rw [zup_i (by decide), zup_i (by decide), zup_i (by decide), zup_i (by decide), zup_same, k_kt_n h]
  exact ⟨rfl, by omega, by omega, rfl, by omega⟩
theorem s_log (d : Nat) {L : Nat} (hN : κ 11 5 = nI (kN κ)) (hN4 : kN κ ≤ 400) (hL : κ 5 5 = nI L) (hL4 : L ≤ 400) : zTr E (d + 8) mX0_readLog [.ref 4, .ref 5, .ref 10] (κ, α, τ) (some (.int (k_log κ).1)) ((k_log κ).2, α, τ) := by
  refine zM.tr (zM_of [some (.ref 4), some (.ref 5), some (.ref 10), none, none, none] (by decide) rfl (Nat.le_of_ble_eq_true rfl) ?_)
  unfold k_log
  have ht := kRd.told (κ := κ)
  have hL2 : k_told κ 5 5 = nI L := by rw [ht.1 5 (by decide) (by decide) (by decide)]; exact hL
  obtain ⟨N, hs⟩ := k_start_tk hL2 hL4
  have zs : ∀ p, p ≠ 5 → p ≠ 78 → p ≠ 79 → k_start (k_told κ) p = k_told κ p := fun p h1 h2 h3 => k_start_p h1 h2 h3
  refine x_aload_n (pc := 0) 0 dX0_readLog_0 rfl rfl ?_
  refine x_aload_n (pc := 1) 2 dX0_readLog_1 rfl rfl ?_
  refine x_getr (pc := 2) (11) dX0_readLog_2 fX0_18 (zat_b rfl rfl) rfl ?_
  refine x_callV1v (pc := 5) dX0_readLog_5 lX0_24 (zat_b rfl rfl) rfl (s_swt (d + 5) hN hN4) (Nat.le_of_ble_eq_true rfl) (Or.inl zgr) ?_
  refine x_aload_n (pc := 8) 1 dX0_readLog_8 rfl rfl ?_
  refine x_callV0v (pc := 9) dX0_readLog_9 lX0_52 (zat_b rfl rfl) rfl (s_startReading d hL2 hL4) (Nat.le_of_ble_eq_true rfl) (Or.inl zgr) ?_
  refine x_aload_n (pc := 12) 0 dX0_readLog_12 rfl rfl ?_
  refine x_iconst (pc := 13) (nI 0) dX0_readLog_13 (by decide) ?_
  refine x_put0_l (pc := 14) dX0_readLog_14 pX0_57 (zat_b rfl rfl) rfl rfl (by decide) (by decide) ?_
  refine x_iconst (pc := 17) (nI 1) dX0_readLog_17 (by decide) ?_
  refine x_istore_n (pc := 18) 3 dX0_readLog_18 rfl (by decide) rfl ?_
  refine x_iconst (pc := 19) (nI 0) dX0_readLog_19 (by decide) ?_
  refine x_istore (pc := 20) dX0_readLog_20 (by decide) rfl ?_
  refine x_iconst (pc := 22) (nI 0) dX0_readLog_22 (by decide) ?_
  refine x_istore (pc := 23) dX0_readLog_23 (by decide) rfl ?_
  refine l_log (d + 4) (κ 10 4) 401 0 true 0 _ (by omega) ⟨⟨0, hs.of (by funext j; rw [zup_p (by decide)])⟩, ?_, ?_, false, zup_same _ _ _ _⟩
  · rw [zup_p (by decide), zs 10 (by decide) (by decide) (by decide), ht.1 10 (by decide) (by decide) (by decide)]
  · obtain ⟨n, h1, h2⟩ := ht.2
    exact ⟨n, h1, by rw [zup_i (by decide), zs 4 (by decide) (by decide) (by decide)]; exact h2⟩
end R2
