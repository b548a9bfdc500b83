/-! the class: the store of clauses -/
def kN (κ : Nat → Nat → Int32) : Nat := (κ 11 5).toNatClampNeg
def kS (κ : Nat → Nat → Int32) (i : Nat) : Nat := (κ 15 i).toNatClampNeg
def kLn (κ : Nat → Nat → Int32) (c : Nat) : Nat := kS κ (c + 1) - kS κ c
def kM (κ : Nat → Nat → Int32) (c : Nat) : Int32 := κ 12 c ||| κ 13 c
/-- the store is in order -/
def kW (κ : Nat → Nat → Int32) (τ : (Nat → Nat → Int64) × (Nat → Nat)) : Prop := (κ 11 5 = nI (kN κ) ∧ kN κ ≤ 400) ∧ (∀ i, i ≤ kN κ → κ 15 i = nI (kS κ i)) ∧ (∀ i, i < kN κ → kS κ i ≤ kS κ (i + 1) ∧ kS κ (i + 1) ≤ kS κ i + 30) ∧ kS κ 0 = 0 ∧ kS κ (kN κ) ≤ τ.2 0 ∧ τ.2 0 ≤ 24000
section C3
variable {E : zEnv} {κ α : Nat → Nat → Int32} {τ : (Nat → Nat → Int64) × (Nat → Nat)}
theorem kW.n (h : kW κ τ) : κ 11 5 = nI (kN κ) := h.1.1
theorem kW.n400 (h : kW κ τ) : kN κ ≤ 400 := h.1.2
theorem kW.s (h : kW κ τ) {i : Nat} (hi : i ≤ kN κ) : κ 15 i = nI (kS κ i) := h.2.1 i hi
theorem kW.l30 (h : kW κ τ) {c : Nat} (hc : c < kN κ) : kLn κ c ≤ 30 := by have := h.2.2.1 c hc; unfold kLn; omega
theorem kW.s30 (h : kW κ τ) : ∀ {i : Nat}, i ≤ kN κ → kS κ i ≤ 30 * i
  | 0, _ => by rw [h.2.2.2.1]; exact Nat.le_refl _
  | i + 1, hi => by have := h.2.2.1 i (by omega); have := kW.s30 h (i := i) (by omega); omega
theorem kW.mon (h : kW κ τ) : ∀ {m i : Nat}, i + m ≤ kN κ → kS κ i ≤ kS κ (i + m)
  | 0, i, _ => Nat.le_refl _
  | m + 1, i, hi => by have := h.2.2.1 (i + m) (by omega); have := kW.mon h (m := m) (i := i) (by omega); rw [show i + (m + 1) = i + m + 1 by omega]; omega
theorem kW.sl (h : kW κ τ) {c k : Nat} (hc : c < kN κ) (hk : k < kLn κ c) : kS κ c + k < τ.2 0 := by
  have h1 := kW.mon h (m := kN κ - (c + 1)) (i := c + 1) (by omega)
  rw [show c + 1 + (kN κ - (c + 1)) = kN κ by omega] at h1
  have h2 := h.2.2.2.2.1
  unfold kLn at hk
  omega
theorem s_storeFull (d : Nat) (hN : κ 11 5 = nI (kN κ)) (hN4 : kN κ ≤ 400) : zTr E (d + 1) mX5_isFull [.ref 11] (κ, α, τ) (some (.int (zbo (decide (400 ≤ kN κ))))) (κ, α, τ) := by
  refine zM.tr (zM_of [some (.ref 11)] (by decide) rfl (Nat.le_of_ble_eq_true rfl) ?_)
  refine x_aload_n (pc := 0) 0 dX5_isFull_0 rfl rfl ?_
  refine x_geti_l (pc := 1) dX5_isFull_1 fX5_28 (zat_b rfl rfl) rfl rfl ?_
  rw [hN]
  by_cases h : 400 ≤ kN κ
  · rw [decide_eq_true h]
    refine x_sipush (pc := 4) (nI 400) dX5_isFull_4 (by decide) ?_
    refine x_icmp_lt_f (pc := 7) 14 dX5_isFull_7 (by decide) (nI_nlt h (by omega)) ?_
    refine x_iconst (pc := 10) (nI 1) dX5_isFull_10 (by decide) ?_
    refine x_goto (pc := 11) 15 dX5_isFull_11 (by decide) ?_
    refine x_zret (pc := 15) dX5_isFull_15 rfl (by decide) ?_
    exact ⟨rfl, rfl⟩
  · rw [decide_eq_false h]
    refine x_sipush (pc := 4) (nI 400) dX5_isFull_4 (by decide) ?_
    refine x_icmp_lt_t (pc := 7) 14 dX5_isFull_7 (by decide) (nI_lt (by omega) (by omega)) ?_
    refine x_iconst (pc := 14) (nI 0) dX5_isFull_14 (by decide) ?_
    refine x_zret (pc := 15) dX5_isFull_15 rfl (by decide) ?_
    exact ⟨rfl, rfl⟩
theorem s_fullTold (d : Nat) (hN : κ 11 5 = nI (kN κ)) (hN4 : kN κ ≤ 400) : zTr E (d + 2) mX5_isFullForTold [.ref 11] (κ, α, τ) (some (.int (zbo (decide (nI 80 ≤ κ 11 6) || decide (400 ≤ kN κ))))) (κ, α, τ) := by
  refine zM.tr (zM_of [some (.ref 11)] (by decide) rfl (Nat.le_of_ble_eq_true rfl) ?_)
  by_cases h1 : nI 80 ≤ κ 11 6
  · rw [decide_eq_true h1]
    refine x_aload_n (pc := 0) 0 dX5_isFullForTold_0 rfl rfl ?_
    refine x_geti_l (pc := 1) dX5_isFullForTold_1 fX5_32 (zat_b rfl rfl) rfl rfl ?_
    refine x_bipush (pc := 4) (nI 80) dX5_isFullForTold_4 (by decide) ?_
    refine x_icmp_ge_t (pc := 6) 16 dX5_isFullForTold_6 (by decide) (h1) ?_
    refine x_iconst (pc := 16) (nI 1) dX5_isFullForTold_16 (by decide) ?_
    refine x_goto (pc := 17) 21 dX5_isFullForTold_17 (by decide) ?_
    refine x_zret (pc := 21) dX5_isFullForTold_21 rfl (by decide) ?_
    exact ⟨rfl, rfl⟩
  · rw [decide_eq_false h1]
    refine x_aload_n (pc := 0) 0 dX5_isFullForTold_0 rfl rfl ?_
    refine x_geti_l (pc := 1) dX5_isFullForTold_1 fX5_32 (zat_b rfl rfl) rfl rfl ?_
    refine x_bipush (pc := 4) (nI 80) dX5_isFullForTold_4 (by decide) ?_
    refine x_icmp_ge_f (pc := 6) 16 dX5_isFullForTold_6 (by decide) (h1) ?_
    refine x_aload_n (pc := 9) 0 dX5_isFullForTold_9 rfl rfl ?_
    refine x_callV0i (pc := 10) dX5_isFullForTold_10 lX5_35 (zat_b rfl rfl) rfl (s_storeFull d hN hN4) (Nat.le_of_ble_eq_true rfl) (Or.inl zgr) ?_
    cases h : decide (400 ≤ kN κ) with
    | true =>
      refine x_if_eq_f (pc := 13) 20 dX5_isFullForTold_13 (by decide) (by decide) ?_
      refine x_iconst (pc := 16) (nI 1) dX5_isFullForTold_16 (by decide) ?_
      refine x_goto (pc := 17) 21 dX5_isFullForTold_17 (by decide) ?_
      refine x_zret (pc := 21) dX5_isFullForTold_21 rfl (by decide) ?_
      exact ⟨rfl, rfl⟩
    | false =>
      refine x_if_eq_t (pc := 13) 20 dX5_isFullForTold_13 (by decide) (rfl) ?_
      refine x_iconst (pc := 20) (nI 0) dX5_isFullForTold_20 (by decide) ?_
      refine x_zret (pc := 21) dX5_isFullForTold_21 rfl (by decide) ?_
      exact ⟨rfl, rfl⟩
theorem s_lengthOf (d : Nat) (hW : kW κ τ) {c : Nat} (hc : c < kN κ) : zTr E (d + 1) mX5_lengthOf [.ref 11, .int (nI c)] (κ, α, τ) (some (.int (nI (kLn κ c)))) (κ, α, τ) := by
  have h4 := hW.n400
  have hm := hW.2.2.1 c hc
  refine zM.tr (zM_of [some (.ref 11), some (.int (nI c))] (by decide) rfl (Nat.le_of_ble_eq_true rfl) ?_)
  refine x_aload_n (pc := 0) 0 dX5_lengthOf_0 rfl rfl ?_
  refine x_getr (pc := 1) (15) dX5_lengthOf_1 fX5_22 (zat_b rfl rfl) rfl ?_
  refine x_iload_n (pc := 4) 1 dX5_lengthOf_4 rfl rfl ?_
  refine x_iconst (pc := 5) (nI 1) dX5_lengthOf_5 (by decide) ?_
  refine x_iadd (pc := 6) dX5_lengthOf_6 ?_
  have hj7 : c + 1 < 401 := by omega
  refine x_iald_l (pc := 7) (c + 1) dX5_lengthOf_7 (zar_b rfl rfl rfl) rfl (nI_add _ _) hj7 (Nat.lt_of_lt_of_le hj7 (by decide)) ?_
  refine x_aload_n (pc := 8) 0 dX5_lengthOf_8 rfl rfl ?_
  refine x_getr (pc := 9) (15) dX5_lengthOf_9 fX5_22 (zat_b rfl rfl) rfl ?_
  refine x_iload_n (pc := 12) 1 dX5_lengthOf_12 rfl rfl ?_
  have hj13 : c < 401 := by omega
  refine x_iald_l (pc := 13) (c) dX5_lengthOf_13 (zar_b rfl rfl rfl) rfl (by first | rfl | simp only [pk_mul, nI_add] | simp only [zon, pk_mul, nI_add]) hj13 (Nat.lt_of_lt_of_le hj13 (by decide)) ?_
  rw [hW.s (i := c + 1) (by omega), hW.s (i := c) (by omega)]
  refine x_isub (pc := 14) dX5_lengthOf_14 ?_
  refine x_iret (pc := 15) dX5_lengthOf_15 rfl ?_
  exact ⟨by rw [pk_sub hm.1]; rfl, rfl⟩
theorem s_literalOf (d : Nat) (hW : kW κ τ) {c k : Nat} (hc : c < kN κ) (hk : k < kLn κ c) : zTr E (d + 1) mX5_literalOf [.ref 11, .int (nI c), .int (nI k)] (κ, α, τ) (some (.int (κ 16 (kS κ c + k)))) (κ, α, τ) := by
  have h4 := hW.n400
  have hm := hW.sl hc hk
  have h24 := hW.2.2.2.2.2
  refine zM.tr (zM_of [some (.ref 11), some (.int (nI c)), some (.int (nI k))] (by decide) rfl (Nat.le_of_ble_eq_true rfl) ?_)
  refine x_aload_n (pc := 0) 0 dX5_literalOf_0 rfl rfl ?_
  refine x_getr (pc := 1) (16) dX5_literalOf_1 fX5_25 (zat_b rfl rfl) rfl ?_
  refine x_aload_n (pc := 4) 0 dX5_literalOf_4 rfl rfl ?_
  refine x_getr (pc := 5) (15) dX5_literalOf_5 fX5_22 (zat_b rfl rfl) rfl ?_
  refine x_iload_n (pc := 8) 1 dX5_literalOf_8 rfl rfl ?_
  have hj9 : c < 401 := by omega
  refine x_iald_l (pc := 9) (c) dX5_literalOf_9 (zar_b rfl rfl rfl) rfl (by first | rfl | simp only [pk_mul, nI_add] | simp only [zon, pk_mul, nI_add]) hj9 (Nat.lt_of_lt_of_le hj9 (by decide)) ?_
  rw [hW.s (i := c) (by omega)]
  refine x_iload_n (pc := 10) 2 dX5_literalOf_10 rfl rfl ?_
  refine x_iadd (pc := 11) dX5_literalOf_11 ?_
  have hj12 : kS κ c + k < τ.2 0 := hm
  refine x_iald_l (pc := 12) (kS κ c + k) dX5_literalOf_12 (zar_b rfl rfl rfl) rfl (nI_add _ _) hj12 (Nat.lt_of_lt_of_le hj12 (by omega)) ?_
  refine x_iret (pc := 13) dX5_literalOf_13 rfl ?_
  exact ⟨rfl, rfl⟩
theorem s_variablesOf (d : Nat) {c : Nat} (hc : c < 400) : zTr E (d + 1) mX5_variablesOf [.ref 11, .int (nI c)] (κ, α, τ) (some (.int (kM κ c))) (κ, α, τ) := by
  refine zM.tr (zM_of [some (.ref 11), some (.int (nI c))] (by decide) rfl (Nat.le_of_ble_eq_true rfl) ?_)
  refine x_aload_n (pc := 0) 0 dX5_variablesOf_0 rfl rfl ?_
  refine x_getr (pc := 1) (12) dX5_variablesOf_1 fX5_9 (zat_b rfl rfl) rfl ?_
  refine x_iload_n (pc := 4) 1 dX5_variablesOf_4 rfl rfl ?_
  have hj5 : c < 400 := by omega
  refine x_iald_l (pc := 5) (c) dX5_variablesOf_5 (zar_b rfl rfl rfl) rfl (by first | rfl | simp only [pk_mul, nI_add] | simp only [zon, pk_mul, nI_add]) hj5 (Nat.lt_of_lt_of_le hj5 (by decide)) ?_
  refine x_aload_n (pc := 6) 0 dX5_variablesOf_6 rfl rfl ?_
  refine x_getr (pc := 7) (13) dX5_variablesOf_7 fX5_15 (zat_b rfl rfl) rfl ?_
  refine x_iload_n (pc := 10) 1 dX5_variablesOf_10 rfl rfl ?_
  have hj11 : c < 400 := by omega
  refine x_iald_l (pc := 11) (c) dX5_variablesOf_11 (zar_b rfl rfl rfl) rfl (by first | rfl | simp only [pk_mul, nI_add] | simp only [zon, pk_mul, nI_add]) hj11 (Nat.lt_of_lt_of_le hj11 (by decide)) ?_
  refine x_ior (pc := 12) dX5_variablesOf_12 ?_
  refine x_iret (pc := 13) dX5_variablesOf_13 rfl ?_
  exact ⟨rfl, rfl⟩
theorem s_isLearnt (d : Nat) {c : Nat} (hc : c < 400) : zTr E (d + 1) mX5_isLearnt [.ref 11, .int (nI c)] (κ, α, τ) (some (.int (zbo (decide (¬ κ 14 c = 0))))) (κ, α, τ) := by
  refine zM.tr (zM_of [some (.ref 11), some (.int (nI c))] (by decide) rfl (Nat.le_of_ble_eq_true rfl) ?_)
  by_cases h : κ 14 c = 0
  · rw [decide_eq_false (by simpa using h)]
    refine x_aload_n (pc := 0) 0 dX5_isLearnt_0 rfl rfl ?_
    refine x_getr (pc := 1) (14) dX5_isLearnt_1 fX5_18 (zat_b rfl rfl) rfl ?_
    refine x_iload_n (pc := 4) 1 dX5_isLearnt_4 rfl rfl ?_
    have hj5 : c < 400 := by omega
    refine x_bald_l (pc := 5) (c) dX5_isLearnt_5 (zar_b rfl rfl rfl) rfl (by first | rfl | simp only [pk_mul, nI_add] | simp only [zon, pk_mul, nI_add]) hj5 (Nat.lt_of_lt_of_le hj5 (by decide)) ?_
    refine x_if_eq_t (pc := 6) 13 dX5_isLearnt_6 (by decide) (h) ?_
    refine x_iconst (pc := 13) (nI 0) dX5_isLearnt_13 (by decide) ?_
    refine x_zret (pc := 14) dX5_isLearnt_14 rfl (by decide) ?_
    exact ⟨rfl, rfl⟩
  · rw [decide_eq_true h]
    refine x_aload_n (pc := 0) 0 dX5_isLearnt_0 rfl rfl ?_
    refine x_getr (pc := 1) (14) dX5_isLearnt_1 fX5_18 (zat_b rfl rfl) rfl ?_
    refine x_iload_n (pc := 4) 1 dX5_isLearnt_4 rfl rfl ?_
    have hj5 : c < 400 := by omega
    refine x_bald_l (pc := 5) (c) dX5_isLearnt_5 (zar_b rfl rfl rfl) rfl (by first | rfl | simp only [pk_mul, nI_add] | simp only [zon, pk_mul, nI_add]) hj5 (Nat.lt_of_lt_of_le hj5 (by decide)) ?_
    refine x_if_eq_f (pc := 6) 13 dX5_isLearnt_6 (by decide) (h) ?_
    refine x_iconst (pc := 9) (nI 1) dX5_isLearnt_9 (by decide) ?_
    refine x_goto (pc := 10) 14 dX5_isLearnt_10 (by decide) ?_
    refine x_zret (pc := 14) dX5_isLearnt_14 rfl (by decide) ?_
    exact ⟨rfl, rfl⟩
theorem s_isGone (d : Nat) {c : Nat} (hc : c < 400) : zTr E (d + 1) mX5_isGone [.ref 11, .int (nI c)] (κ, α, τ) (some (.int (zbo (decide (κ 14 c = nI 2))))) (κ, α, τ) := by
  refine zM.tr (zM_of [some (.ref 11), some (.int (nI c))] (by decide) rfl (Nat.le_of_ble_eq_true rfl) ?_)
  by_cases h : κ 14 c = nI 2
  · rw [decide_eq_true h]
    refine x_aload_n (pc := 0) 0 dX5_isGone_0 rfl rfl ?_
    refine x_getr (pc := 1) (14) dX5_isGone_1 fX5_18 (zat_b rfl rfl) rfl ?_
    refine x_iload_n (pc := 4) 1 dX5_isGone_4 rfl rfl ?_
    have hj5 : c < 400 := by omega
    refine x_bald_l (pc := 5) (c) dX5_isGone_5 (zar_b rfl rfl rfl) rfl (by first | rfl | simp only [pk_mul, nI_add] | simp only [zon, pk_mul, nI_add]) hj5 (Nat.lt_of_lt_of_le hj5 (by decide)) ?_
    refine x_iconst (pc := 6) (nI 2) dX5_isGone_6 (by decide) ?_
    refine x_icmp_ne_f (pc := 7) 14 dX5_isGone_7 (by decide) (h) ?_
    refine x_iconst (pc := 10) (nI 1) dX5_isGone_10 (by decide) ?_
    refine x_goto (pc := 11) 15 dX5_isGone_11 (by decide) ?_
    refine x_zret (pc := 15) dX5_isGone_15 rfl (by decide) ?_
    exact ⟨rfl, rfl⟩
  · rw [decide_eq_false h]
    refine x_aload_n (pc := 0) 0 dX5_isGone_0 rfl rfl ?_
    refine x_getr (pc := 1) (14) dX5_isGone_1 fX5_18 (zat_b rfl rfl) rfl ?_
    refine x_iload_n (pc := 4) 1 dX5_isGone_4 rfl rfl ?_
    have hj5 : c < 400 := by omega
    refine x_bald_l (pc := 5) (c) dX5_isGone_5 (zar_b rfl rfl rfl) rfl (by first | rfl | simp only [pk_mul, nI_add] | simp only [zon, pk_mul, nI_add]) hj5 (Nat.lt_of_lt_of_le hj5 (by decide)) ?_
    refine x_iconst (pc := 6) (nI 2) dX5_isGone_6 (by decide) ?_
    refine x_icmp_ne_t (pc := 7) 14 dX5_isGone_7 (by decide) (h) ?_
    refine x_iconst (pc := 14) (nI 0) dX5_isGone_14 (by decide) ?_
    refine x_zret (pc := 15) dX5_isGone_15 rfl (by decide) ?_
    exact ⟨rfl, rfl⟩
theorem s_learntEver (d : Nat) : zTr E (d + 1) mX5_learntEver [.ref 11] (κ, α, τ) (some (.int (κ 11 5 - κ 11 6))) (κ, α, τ) := by
  refine zM.tr (zM_of [some (.ref 11)] (by decide) rfl (Nat.le_of_ble_eq_true rfl) ?_)
  refine x_aload_n (pc := 0) 0 dX5_learntEver_0 rfl rfl ?_
  refine x_geti_l (pc := 1) dX5_learntEver_1 fX5_28 (zat_b rfl rfl) rfl rfl ?_
  refine x_aload_n (pc := 4) 0 dX5_learntEver_4 rfl rfl ?_
  refine x_geti_l (pc := 5) dX5_learntEver_5 fX5_32 (zat_b rfl rfl) rfl rfl ?_
  refine x_isub (pc := 8) dX5_learntEver_8 ?_
  refine x_iret (pc := 9) dX5_learntEver_9 rfl ?_
  exact ⟨rfl, rfl⟩
theorem l_learntLeft (d : Nat) (hN : κ 11 5 = nI (kN κ)) (hN4 : kN κ ≤ 400) : ∀ m i n, i + m = kN κ → zX E (d + 1) mX5_learntLeft 4 [some (.ref 11), some (.int (nI n)), some (.int (nI i))] [] (κ, α, τ) (fun r ν => r = some (.int (nI (n + zcnt (fun i => decide (κ 14 i = nI 1)) i m))) ∧ ν = (κ, α, τ)) := by
  intro m
  induction m with
  | zero =>
    intro i n hi
    refine x_iload_n (pc := 4) 2 dX5_learntLeft_4 rfl rfl ?_
    refine x_aload_n (pc := 5) 0 dX5_learntLeft_5 rfl rfl ?_
    refine x_geti_l (pc := 6) dX5_learntLeft_6 fX5_28 (zat_b rfl rfl) rfl rfl ?_
    rw [hN]
    refine x_icmp_ge_t (pc := 9) 36 dX5_learntLeft_9 (by decide) (nI_le (by omega) (by omega)) ?_
    refine x_iload_n (pc := 36) 1 dX5_learntLeft_36 rfl rfl ?_
    refine x_iret (pc := 37) dX5_learntLeft_37 rfl ?_
    exact ⟨rfl, rfl⟩
  | succ m ih =>
    intro i n hi
    refine x_iload_n (pc := 4) 2 dX5_learntLeft_4 rfl rfl ?_
    refine x_aload_n (pc := 5) 0 dX5_learntLeft_5 rfl rfl ?_
    refine x_geti_l (pc := 6) dX5_learntLeft_6 fX5_28 (zat_b rfl rfl) rfl rfl ?_
    rw [hN]
    have step : zcnt (fun i => decide (κ 14 i = nI 1)) i (m + 1) = (bif decide (κ 14 i = nI 1) then 1 else 0) + zcnt (fun i => decide (κ 14 i = nI 1)) (i + 1) m := rfl
    rw [step]
    by_cases h : κ 14 i = nI 1
    · rw [decide_eq_true h]
      refine x_icmp_ge_f (pc := 9) 36 dX5_learntLeft_9 (by decide) (nI_ge (by omega) (by omega)) ?_
      refine x_iload_n (pc := 12) 1 dX5_learntLeft_12 rfl rfl ?_
      refine x_aload_n (pc := 13) 0 dX5_learntLeft_13 rfl rfl ?_
      refine x_getr (pc := 14) (14) dX5_learntLeft_14 fX5_18 (zat_b rfl rfl) rfl ?_
      refine x_iload_n (pc := 17) 2 dX5_learntLeft_17 rfl rfl ?_
      have hj18 : i < 400 := by omega
      refine x_bald_l (pc := 18) (i) dX5_learntLeft_18 (zar_b rfl rfl rfl) rfl (by first | rfl | simp only [pk_mul, nI_add] | simp only [zon, pk_mul, nI_add]) hj18 (Nat.lt_of_lt_of_le hj18 (by decide)) ?_
      refine x_iconst (pc := 19) (nI 1) dX5_learntLeft_19 (by decide) ?_
      refine x_icmp_ne_f (pc := 20) 27 dX5_learntLeft_20 (by decide) (h) ?_
      refine x_iconst (pc := 23) (nI 1) dX5_learntLeft_23 (by decide) ?_
      refine x_goto (pc := 24) 28 dX5_learntLeft_24 (by decide) ?_
      refine x_iadd (pc := 28) dX5_learntLeft_28 ?_
      rw [nI_add]
      refine x_istore_n (pc := 29) 1 dX5_learntLeft_29 rfl (by decide) rfl ?_
      refine x_iinc (pc := 30) (nI (i + 1)) dX5_learntLeft_30 rfl (zinc _) (by decide) rfl ?_
      refine x_goto (pc := 33) 4 dX5_learntLeft_33 (by decide) ?_
      exact zX.imp (fun r ν q => ⟨by rw [q.1]; simp only [cond_true, Nat.add_assoc], q.2⟩) (ih (i + 1) (n + 1) (by omega))
    · rw [decide_eq_false h]
      refine x_icmp_ge_f (pc := 9) 36 dX5_learntLeft_9 (by decide) (nI_ge (by omega) (by omega)) ?_
      refine x_iload_n (pc := 12) 1 dX5_learntLeft_12 rfl rfl ?_
      refine x_aload_n (pc := 13) 0 dX5_learntLeft_13 rfl rfl ?_
      refine x_getr (pc := 14) (14) dX5_learntLeft_14 fX5_18 (zat_b rfl rfl) rfl ?_
      refine x_iload_n (pc := 17) 2 dX5_learntLeft_17 rfl rfl ?_
      have hj18 : i < 400 := by omega
      refine x_bald_l (pc := 18) (i) dX5_learntLeft_18 (zar_b rfl rfl rfl) rfl (by first | rfl | simp only [pk_mul, nI_add] | simp only [zon, pk_mul, nI_add]) hj18 (Nat.lt_of_lt_of_le hj18 (by decide)) ?_
      refine x_iconst (pc := 19) (nI 1) dX5_learntLeft_19 (by decide) ?_
      refine x_icmp_ne_t (pc := 20) 27 dX5_learntLeft_20 (by decide) (h) ?_
      refine x_iconst (pc := 27) (nI 0) dX5_learntLeft_27 (by decide) ?_
      refine x_iadd (pc := 28) dX5_learntLeft_28 ?_
      rw [nI_add]
      refine x_istore_n (pc := 29) 1 dX5_learntLeft_29 rfl (by decide) rfl ?_
      refine x_iinc (pc := 30) (nI (i + 1)) dX5_learntLeft_30 rfl (zinc _) (by decide) rfl ?_
      refine x_goto (pc := 33) 4 dX5_learntLeft_33 (by decide) ?_
      exact zX.imp (fun r ν q => ⟨by rw [q.1]; simp only [cond_false, Nat.zero_add, Nat.add_zero], q.2⟩) (ih (i + 1) n (by omega))
theorem s_learntLeft (d : Nat) (hN : κ 11 5 = nI (kN κ)) (hN4 : kN κ ≤ 400) : zTr E (d + 1) mX5_learntLeft [.ref 11] (κ, α, τ) (some (.int (nI (zcnt (fun i => decide (κ 14 i = nI 1)) 0 (kN κ))))) (κ, α, τ) := by
  refine zM.tr (zM_of [some (.ref 11), none, none] (by decide) rfl (Nat.le_of_ble_eq_true rfl) ?_)
  refine x_iconst (pc := 0) (nI 0) dX5_learntLeft_0 (by decide) ?_
  refine x_istore_n (pc := 1) 1 dX5_learntLeft_1 rfl (by decide) rfl ?_
  refine x_iconst (pc := 2) (nI 0) dX5_learntLeft_2 (by decide) ?_
  refine x_istore_n (pc := 3) 2 dX5_learntLeft_3 rfl (by decide) rfl ?_
  exact zX.imp (fun r ν q => ⟨by rw [q.1, Nat.zero_add], q.2⟩) (l_learntLeft d hN hN4 (kN κ) 0 0 (by omega))
def k_latL (κ : Nat → Nat → Int32) (n : Nat) : Nat → Nat → Nat → Option Nat
  | _, 0, _ => none
  | i, m + 1, b => if κ 14 i = 0 then k_latL κ n (i + 1) m b else if b = n then some i else k_latL κ n (i + 1) m (b + 1)
theorem l_learntAt (d : Nat) (hN : κ 11 5 = nI (kN κ)) (hN4 : kN κ ≤ 400) {n : Nat} (hn : n < 1000) : ∀ m i b, i + m = kN κ → b ≤ i → zX E (d + 2) mX5_learntAt 4 [some (.ref 11), some (.int (nI n)), some (.int (nI b)), some (.int (nI i))] [] (κ, α, τ) (fun r ν => r = some (.int (zon (k_latL κ n i m b))) ∧ ν = (κ, α, τ)) := by
  intro m
  induction m with
  | zero =>
    intro i b hi hb
    refine x_iload_n (pc := 4) 3 dX5_learntAt_4 rfl rfl ?_
    refine x_aload_n (pc := 5) 0 dX5_learntAt_5 rfl rfl ?_
    refine x_geti_l (pc := 6) dX5_learntAt_6 fX5_28 (zat_b rfl rfl) rfl rfl ?_
    rw [hN]
    refine x_icmp_ge_t (pc := 9) 39 dX5_learntAt_9 (by decide) (nI_le (by omega) (by omega)) ?_
    refine x_iconst (pc := 39) (-1) dX5_learntAt_39 (by decide) ?_
    refine x_iret (pc := 40) dX5_learntAt_40 rfl ?_
    exact ⟨rfl, rfl⟩
  | succ m ih =>
    intro i b hi hb
    unfold k_latL
    refine x_iload_n (pc := 4) 3 dX5_learntAt_4 rfl rfl ?_
    refine x_aload_n (pc := 5) 0 dX5_learntAt_5 rfl rfl ?_
    refine x_geti_l (pc := 6) dX5_learntAt_6 fX5_28 (zat_b rfl rfl) rfl rfl ?_
    rw [hN]
    refine x_icmp_ge_f (pc := 9) 39 dX5_learntAt_9 (by decide) (nI_ge (by omega) (by omega)) ?_
    refine x_aload_n (pc := 12) 0 dX5_learntAt_12 rfl rfl ?_
    refine x_iload_n (pc := 13) 3 dX5_learntAt_13 rfl rfl ?_
    refine x_callV1i (pc := 14) dX5_learntAt_14 lX5_65 (zat_b rfl rfl) rfl (s_isLearnt d (by omega)) (Nat.le_of_ble_eq_true rfl) (Or.inl zgr) ?_
    by_cases h : κ 14 i = 0
    · rw [if_pos h, decide_eq_false (by simpa using h)]
      refine x_if_ne_f (pc := 17) 23 dX5_learntAt_17 (by decide) (by decide) ?_
      refine x_goto (pc := 20) 33 dX5_learntAt_20 (by decide) ?_
      refine x_iinc (pc := 33) (nI (i + 1)) dX5_learntAt_33 rfl (zinc _) (by decide) rfl ?_
      refine x_goto (pc := 36) 4 dX5_learntAt_36 (by decide) ?_
      exact ih (i + 1) b (by omega) (by omega)
    · rw [if_neg h, decide_eq_true h]
      by_cases h2 : b = n
      · rw [if_pos h2]
        refine x_if_ne_t (pc := 17) 23 dX5_learntAt_17 (by decide) (by decide) ?_
        refine x_iload_n (pc := 23) 2 dX5_learntAt_23 rfl rfl ?_
        refine x_iload_n (pc := 24) 1 dX5_learntAt_24 rfl rfl ?_
        refine x_icmp_ne_f (pc := 25) 30 dX5_learntAt_25 (by decide) (by rw [h2]) ?_
        refine x_iload_n (pc := 28) 3 dX5_learntAt_28 rfl rfl ?_
        refine x_iret (pc := 29) dX5_learntAt_29 rfl ?_
        exact ⟨rfl, rfl⟩
      · rw [if_neg h2]
        refine x_if_ne_t (pc := 17) 23 dX5_learntAt_17 (by decide) (by decide) ?_
        refine x_iload_n (pc := 23) 2 dX5_learntAt_23 rfl rfl ?_
        refine x_iload_n (pc := 24) 1 dX5_learntAt_24 rfl rfl ?_
        refine x_icmp_ne_t (pc := 25) 30 dX5_learntAt_25 (by decide) (fun q => h2 ((nI_eq (by omega) (by omega)).mp q)) ?_
        refine x_iinc (pc := 30) (nI (b + 1)) dX5_learntAt_30 rfl (zinc _) (by decide) rfl ?_
        refine x_iinc (pc := 33) (nI (i + 1)) dX5_learntAt_33 rfl (zinc _) (by decide) rfl ?_
        refine x_goto (pc := 36) 4 dX5_learntAt_36 (by decide) ?_
        exact ih (i + 1) (b + 1) (by omega) (by omega)
theorem s_learntAt (d : Nat) (hN : κ 11 5 = nI (kN κ)) (hN4 : kN κ ≤ 400) {n : Nat} (hn : n < 1000) : zTr E (d + 2) mX5_learntAt [.ref 11, .int (nI n)] (κ, α, τ) (some (.int (zon (k_latL κ n 0 (kN κ) 0)))) (κ, α, τ) := by
  refine zM.tr (zM_of [some (.ref 11), some (.int (nI n)), none, none] (by decide) rfl (Nat.le_of_ble_eq_true rfl) ?_)
  refine x_iconst (pc := 0) (nI 0) dX5_learntAt_0 (by decide) ?_
  refine x_istore_n (pc := 1) 2 dX5_learntAt_1 rfl (by decide) rfl ?_
  refine x_iconst (pc := 2) (nI 0) dX5_learntAt_2 (by decide) ?_
  refine x_istore_n (pc := 3) 3 dX5_learntAt_3 rfl (by decide) rfl ?_
  exact l_learntAt d hN hN4 hn (kN κ) 0 0 (by omega) (Nat.le_refl _)
def k_drF (κ : Nat → Nat → Int32) (n : Nat) (c : Nat) (x : Nat × (Nat → Nat → Int32)) : Nat × (Nat → Nat → Int32) :=
  if κ 14 c = nI 1 ∧ n < kLn κ c then (x.1 + 1, zup x.2 14 c (nI 2)) else x
theorem l_drop (d : Nat) (hW : kW κ τ) {n : Nat} (hn : n ≤ 30) : ∀ m i x, i + m = kN κ → (∀ p, p ≠ 14 → x.2 p = κ p) → (∀ j, i ≤ j → x.2 14 j = κ 14 j) → zX E (d + 2) mX5_dropLongerThan 4 [some (.ref 11), some (.int (nI n)), some (.int (nI x.1)), some (.int (nI i))] [] (x.2, α, τ) (fun r ν => r = some (.int (nI (zit (k_drF κ n) i m x).1)) ∧ ν = ((zit (k_drF κ n) i m x).2, α, τ)) := by
  have h4 := hW.n400
  intro m
  induction m with
  | zero =>
    intro i x hi hp hz
    refine x_iload_n (pc := 4) 3 dX5_dropLongerThan_4 rfl rfl ?_
    refine x_aload_n (pc := 5) 0 dX5_dropLongerThan_5 rfl rfl ?_
    refine x_geti_l (pc := 6) dX5_dropLongerThan_6 fX5_28 (zat_b rfl rfl) rfl rfl ?_
    rw [hp 11 (by decide), hW.n]
    refine x_icmp_ge_t (pc := 9) 47 dX5_dropLongerThan_9 (by decide) (nI_le (by omega) (by omega)) ?_
    refine x_iload_n (pc := 47) 2 dX5_dropLongerThan_47 rfl rfl ?_
    refine x_iret (pc := 48) dX5_dropLongerThan_48 rfl ?_
    exact ⟨rfl, rfl⟩
  | succ m ih =>
    intro i x hi hp hz
    have step : zit (k_drF κ n) i (m + 1) x = zit (k_drF κ n) (i + 1) m (k_drF κ n i x) := rfl
    rw [step]
    have eS : ∀ j, kS x.2 j = kS κ j := fun j => by unfold kS; rw [hp 15 (by decide)]
    have eN : kN x.2 = kN κ := by unfold kN; rw [hp 11 (by decide)]
    have hW2 : kW x.2 τ := by
      unfold kW
      simp only [eS, eN, hp 11 (by decide), hp 15 (by decide)]
      exact hW
    have hL := hW.l30 (show i < kN κ by omega)
    refine x_iload_n (pc := 4) 3 dX5_dropLongerThan_4 rfl rfl ?_
    refine x_aload_n (pc := 5) 0 dX5_dropLongerThan_5 rfl rfl ?_
    refine x_geti_l (pc := 6) dX5_dropLongerThan_6 fX5_28 (zat_b rfl rfl) rfl rfl ?_
    rw [hp 11 (by decide), hW.n]
    refine x_icmp_ge_f (pc := 9) 47 dX5_dropLongerThan_9 (by decide) (nI_ge (by omega) (by omega)) ?_
    refine x_aload_n (pc := 12) 0 dX5_dropLongerThan_12 rfl rfl ?_
    refine x_getr (pc := 13) (14) dX5_dropLongerThan_13 fX5_18 (zat_b rfl rfl) rfl ?_
    refine x_iload_n (pc := 16) 3 dX5_dropLongerThan_16 rfl rfl ?_
    have hj17 : i < 400 := by omega
    refine x_bald_l (pc := 17) (i) dX5_dropLongerThan_17 (zar_b rfl rfl rfl) rfl (by first | rfl | simp only [pk_mul, nI_add] | simp only [zon, pk_mul, nI_add]) hj17 (Nat.lt_of_lt_of_le hj17 (by decide)) ?_
    rw [hz i (Nat.le_refl _)]
    unfold k_drF
    by_cases h : κ 14 i = nI 1
    ·
      refine x_iconst (pc := 18) (nI 1) dX5_dropLongerThan_18 (by decide) ?_
      refine x_icmp_ne_f (pc := 19) 41 dX5_dropLongerThan_19 (by decide) (h) ?_
      refine x_aload_n (pc := 22) 0 dX5_dropLongerThan_22 rfl rfl ?_
      refine x_iload_n (pc := 23) 3 dX5_dropLongerThan_23 rfl rfl ?_
      refine x_callV1i (pc := 24) dX5_dropLongerThan_24 lX5_69 (zat_b rfl rfl) rfl (s_lengthOf d hW2 (by rw [eN]; omega)) (Nat.le_of_ble_eq_true rfl) (Or.inl zgr) ?_
      rw [show kLn x.2 i = kLn κ i by unfold kLn; rw [eS, eS]]
      by_cases h2 : n < kLn κ i
      · rw [if_pos ⟨h, h2⟩]
        refine x_iload_n (pc := 27) 1 dX5_dropLongerThan_27 rfl rfl ?_
        refine x_icmp_le_f (pc := 28) 41 dX5_dropLongerThan_28 (by decide) (nI_ge h2 (by omega)) ?_
        refine x_aload_n (pc := 31) 0 dX5_dropLongerThan_31 rfl rfl ?_
        refine x_getr (pc := 32) (14) dX5_dropLongerThan_32 fX5_18 (zat_b rfl rfl) rfl ?_
        refine x_iload_n (pc := 35) 3 dX5_dropLongerThan_35 rfl rfl ?_
        refine x_iconst (pc := 36) (nI 2) dX5_dropLongerThan_36 (by decide) ?_
        have hj37 : i < 400 := by omega
        refine x_bast_l (pc := 37) (i) dX5_dropLongerThan_37 (zar_b rfl rfl rfl) rfl (by first | rfl | simp only [pk_mul, nI_add] | simp only [zon, pk_mul, nI_add]) hj37 (Nat.lt_of_lt_of_le hj37 (by decide)) (by decide) ?_
        refine x_iinc (pc := 38) (nI (x.1 + 1)) dX5_dropLongerThan_38 rfl (zinc _) (by decide) rfl ?_
        refine x_iinc (pc := 41) (nI (i + 1)) dX5_dropLongerThan_41 rfl (zinc _) (by decide) rfl ?_
        refine x_goto (pc := 44) 4 dX5_dropLongerThan_44 (by decide) ?_
        refine ih (i + 1) (x.1 + 1, zup x.2 14 i (nI 2)) (by omega) (fun p q => ?_) (fun j q => ?_)
        · funext j
          show zup x.2 14 i (nI 2) p j = _
          rw [zup_p q, hp p q]
        · show zup x.2 14 i (nI 2) 14 j = _
          rw [zup_i (by omega)]
          exact hz j (by omega)
      · rw [if_neg (fun q => h2 q.2)]
        refine x_iload_n (pc := 27) 1 dX5_dropLongerThan_27 rfl rfl ?_
        refine x_icmp_le_t (pc := 28) 41 dX5_dropLongerThan_28 (by decide) (nI_le (by omega) (by omega)) ?_
        refine x_iinc (pc := 41) (nI (i + 1)) dX5_dropLongerThan_41 rfl (zinc _) (by decide) rfl ?_
        refine x_goto (pc := 44) 4 dX5_dropLongerThan_44 (by decide) ?_
        exact ih (i + 1) x (by omega) hp (fun j q => hz j (by omega))
    · rw [if_neg (fun q => h q.1)]
      refine x_iconst (pc := 18) (nI 1) dX5_dropLongerThan_18 (by decide) ?_
      refine x_icmp_ne_t (pc := 19) 41 dX5_dropLongerThan_19 (by decide) (h) ?_
      refine x_iinc (pc := 41) (nI (i + 1)) dX5_dropLongerThan_41 rfl (zinc _) (by decide) rfl ?_
      refine x_goto (pc := 44) 4 dX5_dropLongerThan_44 (by decide) ?_
      exact ih (i + 1) x (by omega) hp (fun j q => hz j (by omega))
theorem s_drop (d : Nat) (hW : kW κ τ) {n : Nat} (hn : n ≤ 30) : zTr E (d + 2) mX5_dropLongerThan [.ref 11, .int (nI n)] (κ, α, τ) (some (.int (nI (zit (k_drF κ n) 0 (kN κ) (0, κ)).1))) ((zit (k_drF κ n) 0 (kN κ) (0, κ)).2, α, τ) := by
  refine zM.tr (zM_of [some (.ref 11), some (.int (nI n)), none, none] (by decide) rfl (Nat.le_of_ble_eq_true rfl) ?_)
  refine x_iconst (pc := 0) (nI 0) dX5_dropLongerThan_0 (by decide) ?_
  refine x_istore_n (pc := 1) 2 dX5_dropLongerThan_1 rfl (by decide) rfl ?_
  refine x_iconst (pc := 2) (nI 0) dX5_dropLongerThan_2 (by decide) ?_
  refine x_istore_n (pc := 3) 3 dX5_dropLongerThan_3 rfl (by decide) rfl ?_
  exact l_drop d hW hn (kN κ) 0 (0, κ) (by omega) (fun p _ => rfl) (fun j _ => rfl)
def k_cwB (κ : Nat → Nat → Int32) (v : Int32) (i : Nat) : Bool := decide (¬ κ 14 i = nI 2) && decide (¬ kM κ i &&& kb v = 0)
theorem l_clausesWith (d : Nat) (hN : κ 11 5 = nI (kN κ)) (hN4 : kN κ ≤ 400) (v : Int32) : ∀ m i n, i + m = kN κ → zX E (d + 2) mX5_clausesWith 4 [some (.ref 11), some (.int v), some (.int (nI n)), some (.int (nI i))] [] (κ, α, τ) (fun r ν => r = some (.int (nI (n + zcnt (k_cwB κ v) i m))) ∧ ν = (κ, α, τ)) := by
  intro m
  induction m with
  | zero =>
    intro i n hi
    refine x_iload_n (pc := 4) 3 dX5_clausesWith_4 rfl rfl ?_
    refine x_aload_n (pc := 5) 0 dX5_clausesWith_5 rfl rfl ?_
    refine x_geti_l (pc := 6) dX5_clausesWith_6 fX5_28 (zat_b rfl rfl) rfl rfl ?_
    rw [hN]
    refine x_icmp_ge_t (pc := 9) 47 dX5_clausesWith_9 (by decide) (nI_le (by omega) (by omega)) ?_
    refine x_iload_n (pc := 47) 2 dX5_clausesWith_47 rfl rfl ?_
    refine x_iret (pc := 48) dX5_clausesWith_48 rfl ?_
    exact ⟨rfl, rfl⟩
  | succ m ih =>
    intro i n hi
    refine x_iload_n (pc := 4) 3 dX5_clausesWith_4 rfl rfl ?_
    refine x_aload_n (pc := 5) 0 dX5_clausesWith_5 rfl rfl ?_
    refine x_geti_l (pc := 6) dX5_clausesWith_6 fX5_28 (zat_b rfl rfl) rfl rfl ?_
    rw [hN]
    have step : zcnt (k_cwB κ v) i (m + 1) = (bif k_cwB κ v i then 1 else 0) + zcnt (k_cwB κ v) (i + 1) m := rfl
    rw [step]
    have no : k_cwB κ v i = false → zX E (d + 2) mX5_clausesWith 38 [some (.ref 11), some (.int v), some (.int (nI n)), some (.int (nI i))] [.int (nI n)] (κ, α, τ) (fun r ν => r = some (.int (nI (n + ((bif k_cwB κ v i then 1 else 0) + zcnt (k_cwB κ v) (i + 1) m)))) ∧ ν = (κ, α, τ)) := by
      intro e
      rw [e]
      refine x_iconst (pc := 38) (nI 0) dX5_clausesWith_38 (by decide) ?_
      refine x_iadd (pc := 39) dX5_clausesWith_39 ?_
      rw [nI_add]
      refine x_istore_n (pc := 40) 2 dX5_clausesWith_40 rfl (by decide) rfl ?_
      refine x_iinc (pc := 41) (nI (i + 1)) dX5_clausesWith_41 rfl (zinc _) (by decide) rfl ?_
      refine x_goto (pc := 44) 4 dX5_clausesWith_44 (by decide) ?_
      exact zX.imp (fun r ν q => ⟨by rw [q.1]; simp only [cond_false, Nat.zero_add, Nat.add_zero], q.2⟩) (ih (i + 1) n (by omega))
    refine x_icmp_ge_f (pc := 9) 47 dX5_clausesWith_9 (by decide) (nI_ge (by omega) (by omega)) ?_
    refine x_iload_n (pc := 12) 2 dX5_clausesWith_12 rfl rfl ?_
    refine x_aload_n (pc := 13) 0 dX5_clausesWith_13 rfl rfl ?_
    refine x_iload_n (pc := 14) 3 dX5_clausesWith_14 rfl rfl ?_
    refine x_callV1i (pc := 15) dX5_clausesWith_15 lX5_72 (zat_b rfl rfl) rfl (s_isGone d (by omega)) (Nat.le_of_ble_eq_true rfl) (Or.inl zgr) ?_
    by_cases h : κ 14 i = nI 2
    · rw [decide_eq_true h]
      refine x_if_ne_t (pc := 18) 38 dX5_clausesWith_18 (by decide) (by decide) ?_
      exact no (by unfold k_cwB; rw [decide_eq_false (by simpa using h)]; rfl)
    · rw [decide_eq_false h]
      refine x_if_ne_f (pc := 18) 38 dX5_clausesWith_18 (by decide) (rfl) ?_
      refine x_aload_n (pc := 21) 0 dX5_clausesWith_21 rfl rfl ?_
      refine x_iload_n (pc := 22) 3 dX5_clausesWith_22 rfl rfl ?_
      refine x_callV1i (pc := 23) dX5_clausesWith_23 lX5_75 (zat_b rfl rfl) rfl (s_variablesOf d (by omega)) (Nat.le_of_ble_eq_true rfl) (Or.inl zgr) ?_
      refine x_iload_n (pc := 26) 1 dX5_clausesWith_26 rfl rfl ?_
      refine x_callN1i (pc := 27) dX5_clausesWith_27 lX5_49 (s_bitOf d v) (Nat.le_of_ble_eq_true rfl) (Or.inl zgr) ?_
      refine x_iand (pc := 30) dX5_clausesWith_30 ?_
      by_cases h2 : kM κ i &&& kb v = 0
      ·
        refine x_if_eq_t (pc := 31) 38 dX5_clausesWith_31 (by decide) (h2) ?_
        exact no (by unfold k_cwB; rw [decide_eq_false (p := ¬ kM κ i &&& kb v = 0) (by simpa using h2), Bool.and_false])
      · rw [show k_cwB κ v i = true by unfold k_cwB; rw [decide_eq_true h, decide_eq_true h2]; rfl]
        refine x_if_eq_f (pc := 31) 38 dX5_clausesWith_31 (by decide) (h2) ?_
        refine x_iconst (pc := 34) (nI 1) dX5_clausesWith_34 (by decide) ?_
        refine x_goto (pc := 35) 39 dX5_clausesWith_35 (by decide) ?_
        refine x_iadd (pc := 39) dX5_clausesWith_39 ?_
        rw [nI_add]
        refine x_istore_n (pc := 40) 2 dX5_clausesWith_40 rfl (by decide) rfl ?_
        refine x_iinc (pc := 41) (nI (i + 1)) dX5_clausesWith_41 rfl (zinc _) (by decide) rfl ?_
        refine x_goto (pc := 44) 4 dX5_clausesWith_44 (by decide) ?_
        exact zX.imp (fun r ν q => ⟨by rw [q.1]; simp only [cond_true, Nat.add_assoc], q.2⟩) (ih (i + 1) (n + 1) (by omega))
theorem s_clausesWith (d : Nat) (hN : κ 11 5 = nI (kN κ)) (hN4 : kN κ ≤ 400) (v : Int32) : zTr E (d + 2) mX5_clausesWith [.ref 11, .int v] (κ, α, τ) (some (.int (nI (zcnt (k_cwB κ v) 0 (kN κ))))) (κ, α, τ) := by
  refine zM.tr (zM_of [some (.ref 11), some (.int v), none, none] (by decide) rfl (Nat.le_of_ble_eq_true rfl) ?_)
  refine x_iconst (pc := 0) (nI 0) dX5_clausesWith_0 (by decide) ?_
  refine x_istore_n (pc := 1) 2 dX5_clausesWith_1 rfl (by decide) rfl ?_
  refine x_iconst (pc := 2) (nI 0) dX5_clausesWith_2 (by decide) ?_
  refine x_istore_n (pc := 3) 3 dX5_clausesWith_3 rfl (by decide) rfl ?_
  exact zX.imp (fun r ν q => ⟨by rw [q.1, Nat.zero_add], q.2⟩) (l_clausesWith d hN hN4 v (kN κ) 0 0 (by omega))
end C3
