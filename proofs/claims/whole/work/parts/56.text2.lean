/-! the class: words, tokens, literals of a text -/
def k_wB (κ : Nat → Nat → Int32) (k f j : Nat) : Bool := decide (¬ κ 77 (f + j) = (zsl k).getD j 0)
def k_isW (κ : Nat → Nat → Int32) (k f t : Nat) : Bool := decide (t - f = (zsl k).length) && (zfind (k_wB κ k f) 0 (zsl k).length).isNone
def k_tokOf (κ : Nat → Nat → Int32) (f t : Nat) : Int32 :=
  if k_dg κ f = true then (if t - f = 1 then κ 77 f - nI 48 else if t - f = 2 then nI 10 * (κ 77 f - nI 48) + κ 77 (f + 1) - nI 48 else -6)
  else if k_lt κ f = true then (if k_isW κ 0 f t = true then -3 else if k_isW κ 1 f t = true then -4 else if k_isW κ 2 f t = true then -5 else -6)
  else if κ 77 f = nI 45 then -1 else if κ 77 f = nI 59 then -2 else -6
/-- the tokens from place f on -/
def k_srF (κ : Nat → Nat → Int32) (f : Nat) : Nat → Nat → Int32 := if k_bl κ f = true then κ else k_kt κ (k_tokOf κ f (k_eot κ f)) (nI f)
def k_srL : Nat → Nat → (Nat → Nat → Int32) → (Nat → Nat → Int32)
  | 0, _, κ => κ
  | n + 1, f, κ => if f < kLen κ then k_srL n (k_eot κ f) (k_srF κ f) else κ
def k_srE (κ : Nat → Nat → Int32) : Nat → Nat → Int32 := k_tok0 (zup (k_kt κ (-7) (κ 5 5)) 5 6 (nI 0)) 0
def k_start (κ : Nat → Nat → Int32) : Nat → Nat → Int32 := k_srE (k_srL 400 0 (zup κ 5 3 (nI 0)))
theorem zspan_le {p : Nat → Bool} : ∀ m k, k ≤ zspan p m k ∧ zspan p m k ≤ k + m
  | 0, k => ⟨Nat.le_refl _, Nat.le_refl _⟩
  | m + 1, k => by
    unfold zspan
    obtain ⟨h1, h2⟩ := zspan_le (p := p) m (k + 1)
    cases p k <;> simp only [cond_true, cond_false] <;> omega
theorem k_eot_le {κ : Nat → Nat → Int32} {f : Nat} (hf : f < kLen κ) : f < k_eot κ f ∧ k_eot κ f ≤ kLen κ := by
  unfold k_eot
  split
  · have := zspan_le (p := k_dg κ) (kLen κ - (f + 1)) (f + 1); omega
  · split
    · have := zspan_le (p := k_lt κ) (kLen κ - (f + 1)) (f + 1); omega
    · omega
section T2
variable {E : zEnv} {κ α : Nat → Nat → Int32} {τ : (Nat → Nat → Int64) × (Nat → Nat)}
theorem l_isWord (d : Nat) {k f t : Nat} (hk : k < 3) (hf : f + (zsl k).length ≤ 400) : ∀ m i, i + m = (zsl k).length → zX E (d + 5) mX6_isWord 15 [some (.ref 5), some (.ref (140 + k)), some (.int (nI f)), some (.int (nI t)), some (.int (nI i))] [] (κ, α, τ) (fun r ν => r = some (.int (zbo (zfind (k_wB κ k f) i m).isNone)) ∧ ν = (κ, α, τ)) := by
  have hl : (zsl k).length < 10 := by match k, hk with | 0, _ => decide | 1, _ => decide | 2, _ => decide
  intro m
  induction m with
  | zero =>
    intro i hi
    refine x_iload (pc := 15) dX6_isWord_15 rfl ?_
    refine x_aload_n (pc := 17) 1 dX6_isWord_17 rfl rfl ?_
    refine x_strCall0 (pc := 18) hk rfl dX6_isWord_18 lX6_73 (j_length (d + 2) hk) (Nat.le_of_ble_eq_true rfl) ?_
    refine x_icmp_ge_t (pc := 21) 50 dX6_isWord_21 (by decide) (nI_le (by omega) (by omega)) ?_
    refine x_iconst (pc := 50) (nI 1) dX6_isWord_50 (by decide) ?_
    refine x_zret (pc := 51) dX6_isWord_51 rfl (by decide) ?_
    exact ⟨rfl, rfl⟩
  | succ m ih =>
    intro i hi
    have step : zfind (k_wB κ k f) i (m + 1) = bif k_wB κ k f i then some i else zfind (k_wB κ k f) (i + 1) m := rfl
    rw [step]
    refine x_iload (pc := 15) dX6_isWord_15 rfl ?_
    refine x_aload_n (pc := 17) 1 dX6_isWord_17 rfl rfl ?_
    refine x_strCall0 (pc := 18) hk rfl dX6_isWord_18 lX6_73 (j_length (d + 2) hk) (Nat.le_of_ble_eq_true rfl) ?_
    refine x_icmp_ge_f (pc := 21) 50 dX6_isWord_21 (by decide) (nI_ge (by omega) (by omega)) ?_
    refine x_aload_n (pc := 24) 0 dX6_isWord_24 rfl rfl ?_
    refine x_getr (pc := 25) (77) dX6_isWord_25 fX6_9 (zat_b rfl rfl) rfl ?_
    refine x_iload_n (pc := 28) 2 dX6_isWord_28 rfl rfl ?_
    refine x_iload (pc := 29) dX6_isWord_29 rfl ?_
    refine x_iadd (pc := 31) dX6_isWord_31 ?_
    have hj32 : f + i < 400 := by omega
    refine x_bald_l (pc := 32) (f + i) dX6_isWord_32 (zar_b rfl rfl rfl) rfl (nI_add _ _) hj32 (Nat.lt_of_lt_of_le hj32 (by decide)) ?_
    refine x_aload_n (pc := 33) 1 dX6_isWord_33 rfl rfl ?_
    refine x_iload (pc := 34) dX6_isWord_34 rfl ?_
    refine x_strCall1 (pc := 36) hk rfl dX6_isWord_36 lX6_78 (j_charAt d hk (by omega)) (Nat.le_of_ble_eq_true rfl) ?_
    by_cases h : κ 77 (f + i) = (zsl k).getD i 0
    · rw [show k_wB κ k f i = false from decide_eq_false (by simpa using h)]
      refine x_icmp_eq_t (pc := 39) 44 dX6_isWord_39 (by decide) (h) ?_
      refine x_iinc (pc := 44) (nI (i + 1)) dX6_isWord_44 rfl (zinc _) (by decide) rfl ?_
      refine x_goto (pc := 47) 15 dX6_isWord_47 (by decide) ?_
      exact ih (i + 1) (by omega)
    · rw [show k_wB κ k f i = true from decide_eq_true h]
      refine x_icmp_eq_f (pc := 39) 44 dX6_isWord_39 (by decide) (h) ?_
      refine x_iconst (pc := 42) (nI 0) dX6_isWord_42 (by decide) ?_
      refine x_zret (pc := 43) dX6_isWord_43 rfl (by decide) ?_
      exact ⟨rfl, rfl⟩
theorem s_isWord (d : Nat) {k f t : Nat} (hk : k < 3) (hft : f ≤ t) (ht : t ≤ 400) : zTr E (d + 5) mX6_isWord [.ref 5, .ref (140 + k), .int (nI f), .int (nI t)] (κ, α, τ) (some (.int (zbo (k_isW κ k f t)))) (κ, α, τ) := by
  have hl : (zsl k).length < 10 := by match k, hk with | 0, _ => decide | 1, _ => decide | 2, _ => decide
  refine zM.tr (zM_of [some (.ref 5), some (.ref (140 + k)), some (.int (nI f)), some (.int (nI t)), none] (by decide) rfl (Nat.le_of_ble_eq_true rfl) ?_)
  unfold k_isW
  refine x_iload_n (pc := 0) 3 dX6_isWord_0 rfl rfl ?_
  refine x_iload_n (pc := 1) 2 dX6_isWord_1 rfl rfl ?_
  refine x_isub (pc := 2) dX6_isWord_2 ?_
  rw [pk_sub hft]
  by_cases h : t - f = (zsl k).length
  · rw [decide_eq_true h]
    refine x_aload_n (pc := 3) 1 dX6_isWord_3 rfl rfl ?_
    refine x_strCall0 (pc := 4) hk rfl dX6_isWord_4 lX6_73 (j_length (d + 2) hk) (Nat.le_of_ble_eq_true rfl) ?_
    refine x_icmp_eq_t (pc := 7) 12 dX6_isWord_7 (by decide) (by rw [h]) ?_
    refine x_iconst (pc := 12) (nI 0) dX6_isWord_12 (by decide) ?_
    refine x_istore (pc := 13) dX6_isWord_13 (by decide) rfl ?_
    exact l_isWord d hk (by omega) (zsl k).length 0 (by omega)
  · rw [decide_eq_false h]
    refine x_aload_n (pc := 3) 1 dX6_isWord_3 rfl rfl ?_
    refine x_strCall0 (pc := 4) hk rfl dX6_isWord_4 lX6_73 (j_length (d + 2) hk) (Nat.le_of_ble_eq_true rfl) ?_
    refine x_icmp_eq_f (pc := 7) 12 dX6_isWord_7 (by decide) (fun q => h ((nI_eq (by omega) (by omega)).mp q)) ?_
    refine x_iconst (pc := 10) (nI 0) dX6_isWord_10 (by decide) ?_
    refine x_zret (pc := 11) dX6_isWord_11 rfl (by decide) ?_
    exact ⟨rfl, rfl⟩
theorem s_tokenOf (d : Nat) {f t : Nat} (hft : f < t) (ht : t ≤ 400) : zTr E (d + 6) mX6_tokenOf [.ref 5, .int (nI f), .int (nI t)] (κ, α, τ) (some (.int (k_tokOf κ f t))) (κ, α, τ) := by
  refine zM.tr (zM_of [some (.ref 5), some (.int (nI f)), some (.int (nI t)), none] (by decide) rfl (Nat.le_of_ble_eq_true rfl) ?_)
  unfold k_tokOf
  refine x_aload_n (pc := 0) 0 dX6_tokenOf_0 rfl rfl ?_
  refine x_iload_n (pc := 1) 1 dX6_tokenOf_1 rfl rfl ?_
  refine x_callV1i (pc := 2) dX6_tokenOf_2 lX6_57 (zat_b rfl rfl) rfl (s_isDg (d + 4) (by omega)) (Nat.le_of_ble_eq_true rfl) (Or.inl zgr) ?_
  cases h : k_dg κ f with
  | true =>
    rw [if_pos rfl]
    refine x_if_eq_f (pc := 5) 58 dX6_tokenOf_5 (by decide) (by decide) ?_
    refine x_aload_n (pc := 8) 0 dX6_tokenOf_8 rfl rfl ?_
    refine x_getr (pc := 9) (77) dX6_tokenOf_9 fX6_9 (zat_b rfl rfl) rfl ?_
    refine x_iload_n (pc := 12) 1 dX6_tokenOf_12 rfl rfl ?_
    have hj13 : f < 400 := by omega
    refine x_bald_l (pc := 13) (f) dX6_tokenOf_13 (zar_b rfl rfl rfl) rfl (by first | rfl | simp only [pk_mul, nI_add] | simp only [zon, pk_mul, nI_add]) hj13 (Nat.lt_of_lt_of_le hj13 (by decide)) ?_
    refine x_bipush (pc := 14) (nI 48) dX6_tokenOf_14 (by decide) ?_
    refine x_isub (pc := 16) dX6_tokenOf_16 ?_
    refine x_istore_n (pc := 17) 3 dX6_tokenOf_17 rfl (by decide) rfl ?_
    refine x_iload_n (pc := 18) 2 dX6_tokenOf_18 rfl rfl ?_
    refine x_iload_n (pc := 19) 1 dX6_tokenOf_19 rfl rfl ?_
    refine x_isub (pc := 20) dX6_tokenOf_20 ?_
    rw [pk_sub (by omega)]
    by_cases h1 : t - f = 1
    · rw [if_pos h1]
      refine x_iconst (pc := 21) (nI 1) dX6_tokenOf_21 (by decide) ?_
      refine x_icmp_ne_f (pc := 22) 29 dX6_tokenOf_22 (by decide) (by rw [h1]) ?_
      refine x_iload_n (pc := 25) 3 dX6_tokenOf_25 rfl rfl ?_
      refine x_goto (pc := 26) 57 dX6_tokenOf_26 (by decide) ?_
      refine x_iret (pc := 57) dX6_tokenOf_57 rfl ?_
      exact ⟨rfl, rfl⟩
    · rw [if_neg h1]
      refine x_iconst (pc := 21) (nI 1) dX6_tokenOf_21 (by decide) ?_
      refine x_icmp_ne_t (pc := 22) 29 dX6_tokenOf_22 (by decide) (fun q => h1 ((nI_eq (by omega) (by omega)).mp q)) ?_
      refine x_iload_n (pc := 29) 2 dX6_tokenOf_29 rfl rfl ?_
      refine x_iload_n (pc := 30) 1 dX6_tokenOf_30 rfl rfl ?_
      refine x_isub (pc := 31) dX6_tokenOf_31 ?_
      rw [pk_sub (by omega)]
      by_cases h2 : t - f = 2
      · rw [if_pos h2]
        refine x_iconst (pc := 32) (nI 2) dX6_tokenOf_32 (by decide) ?_
        refine x_icmp_ne_f (pc := 33) 55 dX6_tokenOf_33 (by decide) (by rw [h2]) ?_
        refine x_bipush (pc := 36) (nI 10) dX6_tokenOf_36 (by decide) ?_
        refine x_iload_n (pc := 38) 3 dX6_tokenOf_38 rfl rfl ?_
        refine x_imul (pc := 39) dX6_tokenOf_39 ?_
        refine x_aload_n (pc := 40) 0 dX6_tokenOf_40 rfl rfl ?_
        refine x_getr (pc := 41) (77) dX6_tokenOf_41 fX6_9 (zat_b rfl rfl) rfl ?_
        refine x_iload_n (pc := 44) 1 dX6_tokenOf_44 rfl rfl ?_
        refine x_iconst (pc := 45) (nI 1) dX6_tokenOf_45 (by decide) ?_
        refine x_iadd (pc := 46) dX6_tokenOf_46 ?_
        have hj47 : f + 1 < 400 := by omega
        refine x_bald_l (pc := 47) (f + 1) dX6_tokenOf_47 (zar_b rfl rfl rfl) rfl (nI_add _ _) hj47 (Nat.lt_of_lt_of_le hj47 (by decide)) ?_
        refine x_iadd (pc := 48) dX6_tokenOf_48 ?_
        refine x_bipush (pc := 49) (nI 48) dX6_tokenOf_49 (by decide) ?_
        refine x_isub (pc := 51) dX6_tokenOf_51 ?_
        refine x_goto (pc := 52) 57 dX6_tokenOf_52 (by decide) ?_
        refine x_iret (pc := 57) dX6_tokenOf_57 rfl ?_
        exact ⟨rfl, rfl⟩
      · rw [if_neg h2]
        refine x_iconst (pc := 32) (nI 2) dX6_tokenOf_32 (by decide) ?_
        refine x_icmp_ne_t (pc := 33) 55 dX6_tokenOf_33 (by decide) (fun q => h2 ((nI_eq (by omega) (by omega)).mp q)) ?_
        refine x_bipush (pc := 55) (-6) dX6_tokenOf_55 (by decide) ?_
        refine x_iret (pc := 57) dX6_tokenOf_57 rfl ?_
        exact ⟨rfl, rfl⟩
  | false =>
    rw [if_neg (by decide)]
    refine x_if_eq_t (pc := 5) 58 dX6_tokenOf_5 (by decide) (rfl) ?_
    refine x_aload_n (pc := 58) 0 dX6_tokenOf_58 rfl rfl ?_
    refine x_iload_n (pc := 59) 1 dX6_tokenOf_59 rfl rfl ?_
    refine x_callV1i (pc := 60) dX6_tokenOf_60 lX6_60 (zat_b rfl rfl) rfl (s_isLt (d + 4) (by omega)) (Nat.le_of_ble_eq_true rfl) (Or.inl zgr) ?_
    cases hl : k_lt κ f with
    | true =>
      rw [if_pos rfl]
      refine x_if_eq_f (pc := 63) 117 dX6_tokenOf_63 (by decide) (by decide) ?_
      refine x_aload_n (pc := 66) 0 dX6_tokenOf_66 rfl rfl ?_
      refine x_ldcS (pc := 67) 0 (by decide) rfl dX6_tokenOf_67 ?_
      refine x_iload_n (pc := 69) 1 dX6_tokenOf_69 rfl rfl ?_
      refine x_iload_n (pc := 70) 2 dX6_tokenOf_70 rfl rfl ?_
      refine x_callV3i (pc := 71) dX6_tokenOf_71 lX6_65 (zat_b rfl rfl) rfl (s_isWord (k := 0) d (by decide) (by omega) ht) (Nat.le_of_ble_eq_true rfl) (Or.inl zgr) ?_
      cases h0 : k_isW κ 0 f t with
      | true =>
        rw [if_pos rfl]
        refine x_if_eq_f (pc := 74) 82 dX6_tokenOf_74 (by decide) (by decide) ?_
        refine x_bipush (pc := 77) (-3) dX6_tokenOf_77 (by decide) ?_
        refine x_goto (pc := 79) 116 dX6_tokenOf_79 (by decide) ?_
        refine x_iret (pc := 116) dX6_tokenOf_116 rfl ?_
        exact ⟨rfl, rfl⟩
      | false =>
        rw [if_neg (by decide)]
        refine x_if_eq_t (pc := 74) 82 dX6_tokenOf_74 (by decide) (rfl) ?_
        refine x_aload_n (pc := 82) 0 dX6_tokenOf_82 rfl rfl ?_
        refine x_ldcS (pc := 83) 1 (by decide) rfl dX6_tokenOf_83 ?_
        refine x_iload_n (pc := 85) 1 dX6_tokenOf_85 rfl rfl ?_
        refine x_iload_n (pc := 86) 2 dX6_tokenOf_86 rfl rfl ?_
        refine x_callV3i (pc := 87) dX6_tokenOf_87 lX6_65 (zat_b rfl rfl) rfl (s_isWord (k := 1) d (by decide) (by omega) ht) (Nat.le_of_ble_eq_true rfl) (Or.inl zgr) ?_
        cases h1 : k_isW κ 1 f t with
        | true =>
          rw [if_pos rfl]
          refine x_if_eq_f (pc := 90) 98 dX6_tokenOf_90 (by decide) (by decide) ?_
          refine x_bipush (pc := 93) (-4) dX6_tokenOf_93 (by decide) ?_
          refine x_goto (pc := 95) 116 dX6_tokenOf_95 (by decide) ?_
          refine x_iret (pc := 116) dX6_tokenOf_116 rfl ?_
          exact ⟨rfl, rfl⟩
        | false =>
          rw [if_neg (by decide)]
          refine x_if_eq_t (pc := 90) 98 dX6_tokenOf_90 (by decide) (rfl) ?_
          refine x_aload_n (pc := 98) 0 dX6_tokenOf_98 rfl rfl ?_
          refine x_ldcS (pc := 99) 2 (by decide) rfl dX6_tokenOf_99 ?_
          refine x_iload_n (pc := 101) 1 dX6_tokenOf_101 rfl rfl ?_
          refine x_iload_n (pc := 102) 2 dX6_tokenOf_102 rfl rfl ?_
          refine x_callV3i (pc := 103) dX6_tokenOf_103 lX6_65 (zat_b rfl rfl) rfl (s_isWord (k := 2) d (by decide) (by omega) ht) (Nat.le_of_ble_eq_true rfl) (Or.inl zgr) ?_
          cases h2 : k_isW κ 2 f t with
          | true =>
            rw [if_pos rfl]
            refine x_if_eq_f (pc := 106) 114 dX6_tokenOf_106 (by decide) (by decide) ?_
            refine x_bipush (pc := 109) (-5) dX6_tokenOf_109 (by decide) ?_
            refine x_goto (pc := 111) 116 dX6_tokenOf_111 (by decide) ?_
            refine x_iret (pc := 116) dX6_tokenOf_116 rfl ?_
            exact ⟨rfl, rfl⟩
          | false =>
            rw [if_neg (by decide)]
            refine x_if_eq_t (pc := 106) 114 dX6_tokenOf_106 (by decide) (rfl) ?_
            refine x_bipush (pc := 114) (-6) dX6_tokenOf_114 (by decide) ?_
            refine x_iret (pc := 116) dX6_tokenOf_116 rfl ?_
            exact ⟨rfl, rfl⟩
    | false =>
      rw [if_neg (by decide)]
      by_cases h1 : κ 77 f = nI 45
      · rw [if_pos h1]
        refine x_if_eq_t (pc := 63) 117 dX6_tokenOf_63 (by decide) (rfl) ?_
        refine x_aload_n (pc := 117) 0 dX6_tokenOf_117 rfl rfl ?_
        refine x_getr (pc := 118) (77) dX6_tokenOf_118 fX6_9 (zat_b rfl rfl) rfl ?_
        refine x_iload_n (pc := 121) 1 dX6_tokenOf_121 rfl rfl ?_
        have hj122 : f < 400 := by omega
        refine x_bald_l (pc := 122) (f) dX6_tokenOf_122 (zar_b rfl rfl rfl) rfl (by first | rfl | simp only [pk_mul, nI_add] | simp only [zon, pk_mul, nI_add]) hj122 (Nat.lt_of_lt_of_le hj122 (by decide)) ?_
        refine x_bipush (pc := 123) (nI 45) dX6_tokenOf_123 (by decide) ?_
        refine x_icmp_ne_f (pc := 125) 132 dX6_tokenOf_125 (by decide) (h1) ?_
        refine x_iconst (pc := 128) (-1) dX6_tokenOf_128 (by decide) ?_
        refine x_goto (pc := 129) 150 dX6_tokenOf_129 (by decide) ?_
        refine x_iret (pc := 150) dX6_tokenOf_150 rfl ?_
        exact ⟨rfl, rfl⟩
      · rw [if_neg h1]
        by_cases h2 : κ 77 f = nI 59
        · rw [if_pos h2]
          refine x_if_eq_t (pc := 63) 117 dX6_tokenOf_63 (by decide) (rfl) ?_
          refine x_aload_n (pc := 117) 0 dX6_tokenOf_117 rfl rfl ?_
          refine x_getr (pc := 118) (77) dX6_tokenOf_118 fX6_9 (zat_b rfl rfl) rfl ?_
          refine x_iload_n (pc := 121) 1 dX6_tokenOf_121 rfl rfl ?_
          have hj122 : f < 400 := by omega
          refine x_bald_l (pc := 122) (f) dX6_tokenOf_122 (zar_b rfl rfl rfl) rfl (by first | rfl | simp only [pk_mul, nI_add] | simp only [zon, pk_mul, nI_add]) hj122 (Nat.lt_of_lt_of_le hj122 (by decide)) ?_
          refine x_bipush (pc := 123) (nI 45) dX6_tokenOf_123 (by decide) ?_
          refine x_icmp_ne_t (pc := 125) 132 dX6_tokenOf_125 (by decide) (h1) ?_
          refine x_aload_n (pc := 132) 0 dX6_tokenOf_132 rfl rfl ?_
          refine x_getr (pc := 133) (77) dX6_tokenOf_133 fX6_9 (zat_b rfl rfl) rfl ?_
          refine x_iload_n (pc := 136) 1 dX6_tokenOf_136 rfl rfl ?_
          have hj137 : f < 400 := by omega
          refine x_bald_l (pc := 137) (f) dX6_tokenOf_137 (zar_b rfl rfl rfl) rfl (by first | rfl | simp only [pk_mul, nI_add] | simp only [zon, pk_mul, nI_add]) hj137 (Nat.lt_of_lt_of_le hj137 (by decide)) ?_
          refine x_bipush (pc := 138) (nI 59) dX6_tokenOf_138 (by decide) ?_
          refine x_icmp_ne_f (pc := 140) 148 dX6_tokenOf_140 (by decide) (h2) ?_
          refine x_bipush (pc := 143) (-2) dX6_tokenOf_143 (by decide) ?_
          refine x_goto (pc := 145) 150 dX6_tokenOf_145 (by decide) ?_
          refine x_iret (pc := 150) dX6_tokenOf_150 rfl ?_
          exact ⟨rfl, rfl⟩
        · rw [if_neg h2]
          refine x_if_eq_t (pc := 63) 117 dX6_tokenOf_63 (by decide) (rfl) ?_
          refine x_aload_n (pc := 117) 0 dX6_tokenOf_117 rfl rfl ?_
          refine x_getr (pc := 118) (77) dX6_tokenOf_118 fX6_9 (zat_b rfl rfl) rfl ?_
          refine x_iload_n (pc := 121) 1 dX6_tokenOf_121 rfl rfl ?_
          have hj122 : f < 400 := by omega
          refine x_bald_l (pc := 122) (f) dX6_tokenOf_122 (zar_b rfl rfl rfl) rfl (by first | rfl | simp only [pk_mul, nI_add] | simp only [zon, pk_mul, nI_add]) hj122 (Nat.lt_of_lt_of_le hj122 (by decide)) ?_
          refine x_bipush (pc := 123) (nI 45) dX6_tokenOf_123 (by decide) ?_
          refine x_icmp_ne_t (pc := 125) 132 dX6_tokenOf_125 (by decide) (h1) ?_
          refine x_aload_n (pc := 132) 0 dX6_tokenOf_132 rfl rfl ?_
          refine x_getr (pc := 133) (77) dX6_tokenOf_133 fX6_9 (zat_b rfl rfl) rfl ?_
          refine x_iload_n (pc := 136) 1 dX6_tokenOf_136 rfl rfl ?_
          have hj137 : f < 400 := by omega
          refine x_bald_l (pc := 137) (f) dX6_tokenOf_137 (zar_b rfl rfl rfl) rfl (by first | rfl | simp only [pk_mul, nI_add] | simp only [zon, pk_mul, nI_add]) hj137 (Nat.lt_of_lt_of_le hj137 (by decide)) ?_
          refine x_bipush (pc := 138) (nI 59) dX6_tokenOf_138 (by decide) ?_
          refine x_icmp_ne_t (pc := 140) 148 dX6_tokenOf_140 (by decide) (h2) ?_
          refine x_bipush (pc := 148) (-6) dX6_tokenOf_148 (by decide) ?_
          refine x_iret (pc := 150) dX6_tokenOf_150 rfl ?_
          exact ⟨rfl, rfl⟩
theorem k_kt_5 {w p : Int32} {j : Nat} (h : j ≠ 3) : k_kt κ w p 5 j = κ 5 j := by unfold k_kt; rw [zup_i h, zup_p (by decide), zup_p (by decide)]
theorem k_kt_n {w p : Int32} {n : Nat} (h : κ 5 3 = nI n) : k_kt κ w p 5 3 = nI (n + 1) := by unfold k_kt; rw [zup_same, h, nI_add]
theorem k_srF_len {f : Nat} : k_srF κ f 5 5 = κ 5 5 := by unfold k_srF; split <;> first | rfl | exact k_kt_5 (by decide)
theorem l_start (d : Nat) (P : Option Value → zMem → Prop) {L : Nat} (hL4 : L ≤ 400) : ∀ m i f κ n, i + m = 400 → i ≤ f → f ≤ L → n ≤ f → κ 5 5 = nI L → κ 5 3 = nI n → (∀ n' x1 x2 x3, k_srL m f κ 5 3 = nI n' → n' ≤ 400 → zX E (d + 7) mX6_startReading 57 [some (.ref 5), x1, x2, x3] [] (k_srL m f κ, α, τ) P) → ∀ x3, zX E (d + 7) mX6_startReading 9 [some (.ref 5), some (.int (nI f)), some (.int (nI i)), x3] [] (κ, α, τ) P := by
  intro m
  induction m with
  | zero =>
    intro i f κ n hi hif hfL hn hL hs k x3
    refine x_iload_n (pc := 9) 2 dX6_startReading_9 rfl rfl ?_
    refine x_sipush (pc := 10) (nI 400) dX6_startReading_10 (by decide) ?_
    refine x_icmp_ge_t (pc := 13) 57 dX6_startReading_13 (by decide) (nI_le (b := i) (a := 400) (by omega) (by omega)) ?_
    exact k n _ _ _ hs (by omega)
  | succ m ih =>
    intro i f κ n hi hif hfL hn hL hs k x3
    have c : kLen κ = L := by unfold kLen; rw [hL]; exact nI_clamp (by omega)
    unfold k_srL at k
    by_cases h : f < L
    · obtain ⟨e1, e2⟩ := k_eot_le (κ := κ) (f := f) (by omega)
      rw [c] at k e2
      rw [if_pos h] at k
      refine x_iload_n (pc := 9) 2 dX6_startReading_9 rfl rfl ?_
      refine x_sipush (pc := 10) (nI 400) dX6_startReading_10 (by decide) ?_
      refine x_icmp_ge_f (pc := 13) 57 dX6_startReading_13 (by decide) (nI_ge (b := 400) (by omega) (by omega)) ?_
      refine x_iload_n (pc := 16) 1 dX6_startReading_16 rfl rfl ?_
      refine x_aload_n (pc := 17) 0 dX6_startReading_17 rfl rfl ?_
      refine x_geti_l (pc := 18) dX6_startReading_18 fX6_22 (zat_b rfl rfl) rfl rfl ?_
      rw [hL]
      refine x_icmp_ge_f (pc := 21) 57 dX6_startReading_21 (by decide) (nI_ge h (by omega)) ?_
      refine x_aload_n (pc := 24) 0 dX6_startReading_24 rfl rfl ?_
      refine x_iload_n (pc := 25) 1 dX6_startReading_25 rfl rfl ?_
      refine x_callV1i (pc := 26) dX6_startReading_26 lX6_29 (zat_b rfl rfl) rfl (s_endOfToken (d + 4) hL hL4 h) (Nat.le_of_ble_eq_true rfl) (Or.inl zgr) ?_
      refine x_istore_n (pc := 29) 3 dX6_startReading_29 rfl (by decide) rfl ?_
      refine x_aload_n (pc := 30) 0 dX6_startReading_30 rfl rfl ?_
      refine x_iload_n (pc := 31) 1 dX6_startReading_31 rfl rfl ?_
      refine x_callV1i (pc := 32) dX6_startReading_32 lX6_33 (zat_b rfl rfl) rfl (s_isBlank (d + 5) (by omega)) (Nat.le_of_ble_eq_true rfl) (Or.inl zgr) ?_
      cases hb : k_bl κ f with
      | true =>
        have e : k_srF κ f = κ := by unfold k_srF; rw [if_pos hb]
        rw [e] at k
        refine x_if_ne_t (pc := 35) 49 dX6_startReading_35 (by decide) (by decide) ?_
        refine x_iload_n (pc := 49) 3 dX6_startReading_49 rfl rfl ?_
        refine x_istore_n (pc := 50) 1 dX6_startReading_50 rfl (by decide) rfl ?_
        refine x_iinc (pc := 51) (nI (i + 1)) dX6_startReading_51 rfl (zinc _) (by decide) rfl ?_
        refine x_goto (pc := 54) 9 dX6_startReading_54 (by decide) ?_
        exact ih (i + 1) (k_eot κ f) κ n (by omega) (by omega) e2 (by omega) hL hs k _
      | false =>
        have e : k_srF κ f = k_kt κ (k_tokOf κ f (k_eot κ f)) (nI f) := by unfold k_srF; rw [if_neg (by rw [hb]; decide)]
        rw [e] at k
        refine x_if_ne_f (pc := 35) 49 dX6_startReading_35 (by decide) (rfl) ?_
        refine x_aload_n (pc := 38) 0 dX6_startReading_38 rfl rfl ?_
        refine x_aload_n (pc := 39) 0 dX6_startReading_39 rfl rfl ?_
        refine x_iload_n (pc := 40) 1 dX6_startReading_40 rfl rfl ?_
        refine x_iload_n (pc := 41) 3 dX6_startReading_41 rfl rfl ?_
        refine x_callV2i (pc := 42) dX6_startReading_42 lX6_37 (zat_b rfl rfl) rfl (s_tokenOf d e1 (by omega)) (Nat.le_of_ble_eq_true rfl) (Or.inl zgr) ?_
        refine x_iload_n (pc := 45) 1 dX6_startReading_45 rfl rfl ?_
        refine x_callV2v (pc := 46) dX6_startReading_46 lX6_41 (zat_b rfl rfl) rfl (s_keepToken (d + 5) _ _ hs (by omega)) (Nat.le_of_ble_eq_true rfl) (Or.inl zgr) ?_
        refine x_iload_n (pc := 49) 3 dX6_startReading_49 rfl rfl ?_
        refine x_istore_n (pc := 50) 1 dX6_startReading_50 rfl (by decide) rfl ?_
        refine x_iinc (pc := 51) (nI (i + 1)) dX6_startReading_51 rfl (zinc _) (by decide) rfl ?_
        refine x_goto (pc := 54) 9 dX6_startReading_54 (by decide) ?_
        exact ih (i + 1) (k_eot κ f) _ (n + 1) (by omega) (by omega) e2 (by omega) (by rw [k_kt_5 (by decide)]; exact hL) (k_kt_n hs) k _
    · rw [c, if_neg h] at k
      refine x_iload_n (pc := 9) 2 dX6_startReading_9 rfl rfl ?_
      refine x_sipush (pc := 10) (nI 400) dX6_startReading_10 (by decide) ?_
      refine x_icmp_ge_f (pc := 13) 57 dX6_startReading_13 (by decide) (nI_ge (b := 400) (by omega) (by omega)) ?_
      refine x_iload_n (pc := 16) 1 dX6_startReading_16 rfl rfl ?_
      refine x_aload_n (pc := 17) 0 dX6_startReading_17 rfl rfl ?_
      refine x_geti_l (pc := 18) dX6_startReading_18 fX6_22 (zat_b rfl rfl) rfl rfl ?_
      rw [hL]
      refine x_icmp_ge_t (pc := 21) 57 dX6_startReading_21 (by decide) (nI_le (by omega) (by omega)) ?_
      exact k n _ _ _ hs (by omega)
theorem s_startReading (d : Nat) {L : Nat} (hL : κ 5 5 = nI L) (hL4 : L ≤ 400) : zTr E (d + 7) mX6_startReading [.ref 5] (κ, α, τ) none (k_start κ, α, τ) := by
  refine zM.tr (zM_of [some (.ref 5), none, none, none] (by decide) rfl (Nat.le_of_ble_eq_true rfl) ?_)
  unfold k_start k_srE
  refine x_aload_n (pc := 0) 0 dX6_startReading_0 rfl rfl ?_
  refine x_iconst (pc := 1) (nI 0) dX6_startReading_1 (by decide) ?_
  refine x_puti_l (pc := 2) dX6_startReading_2 pX6_26 (zat_b rfl rfl) rfl rfl ?_
  refine x_iconst (pc := 5) (nI 0) dX6_startReading_5 (by decide) ?_
  refine x_istore_n (pc := 6) 1 dX6_startReading_6 rfl (by decide) rfl ?_
  refine x_iconst (pc := 7) (nI 0) dX6_startReading_7 (by decide) ?_
  refine x_istore_n (pc := 8) 2 dX6_startReading_8 rfl (by decide) rfl ?_
  refine l_start d _ hL4 400 0 0 _ 0 (by omega) (by omega) (by omega) (by omega) (by rw [zup_i (by decide)]; exact hL) (zup_same _ _ _ _) (fun n' x1 x2 x3 hn hn4 => ?_) _
  generalize k_srL 400 0 (zup κ 5 3 (nI 0)) = K at hn ⊢
  refine x_aload_n (pc := 57) 0 dX6_startReading_57 rfl rfl ?_
  refine x_bipush (pc := 58) (-7) dX6_startReading_58 (by decide) ?_
  refine x_aload_n (pc := 60) 0 dX6_startReading_60 rfl rfl ?_
  refine x_geti_l (pc := 61) dX6_startReading_61 fX6_22 (zat_b rfl rfl) rfl rfl ?_
  refine x_callV2v (pc := 64) dX6_startReading_64 lX6_41 (zat_b rfl rfl) rfl (s_keepToken (d + 5) _ _ hn hn4) (Nat.le_of_ble_eq_true rfl) (Or.inl zgr) ?_
  refine x_aload_n (pc := 67) 0 dX6_startReading_67 rfl rfl ?_
  refine x_iconst (pc := 68) (nI 0) dX6_startReading_68 (by decide) ?_
  refine x_puti_l (pc := 69) dX6_startReading_69 pX6_45 (zat_b rfl rfl) rfl rfl ?_
  refine x_aload_n (pc := 72) 0 dX6_startReading_72 rfl rfl ?_
  refine x_callV0v (pc := 73) dX6_startReading_73 lX6_48 (zat_b rfl rfl) rfl (s_startAgain (d + 5)) (Nat.le_of_ble_eq_true rfl) (Or.inl zgr) ?_
  refine x_vret (pc := 76) dX6_startReading_76 rfl ?_
  exact ⟨rfl, rfl⟩
theorem k_adv_tk {n a : Nat} (h : kTk κ n a) : ∃ a', kTk (k_adv κ) n a' := by
  obtain ⟨h1, h2, h3, h4, h5⟩ := h
  have c1 : (κ 5 3).toNatClampNeg = n := by rw [h1]; exact nI_clamp (by omega)
  have c2 : (κ 5 4).toNatClampNeg = a := by rw [h4]; exact nI_clamp (by omega)
  unfold k_adv
  rw [c1, c2]
  have key : ∀ b, b < n → kTk (k_tok0 κ b) n b := fun b hb => by
    unfold kTk k_tok0
    rw [zup_i (by decide), zup_i (by decide), zup_i (by decide), zup_same]
    exact ⟨h1, h2, h3, rfl, hb⟩
  split
  · exact ⟨a + 1, key _ (by omega)⟩
  · exact ⟨a, key _ h5⟩
theorem s_readLiteral (d : Nat) (V taken : Int32) (full : Bool) {n a : Nat} (h : kTk κ n a) : zTr E (d + 2) mX6_readLiteral [.ref 5, .int V, .int taken, .int (zbo full)] (κ, α, τ) (some (.int (k_rl κ V taken full).1)) ((k_rl κ V taken full).2, α, τ) := by
  refine zM.tr (zM_of [some (.ref 5), some (.int V), some (.int taken), some (.int (zbo full)), none, none] (by decide) rfl (Nat.le_of_ble_eq_true rfl) ?_)
  obtain ⟨n1, a1, hK⟩ : ∃ n1 a1, kTk (k_rl1 κ) n1 a1 := by
    unfold k_rl1
    split
    · obtain ⟨a', h'⟩ := k_adv_tk h
      exact ⟨n, a', h'⟩
    · exact ⟨n, a, h⟩
  have rest : ∀ ng : Bool, (ng = true ↔ κ 5 7 = -1) → ¬ (κ 5 7 = -1 ∧ full = true) → zX E (d + 2) mX6_readLiteral 41 [some (.ref 5), some (.int V), some (.int taken), some (.int (zbo full)), some (.int (zbo ng)), none] [] (k_rl1 κ, α, τ) (fun r ν => r = some (.int (k_rl κ V taken full).1) ∧ ν = ((k_rl κ V taken full).2, α, τ)) := by
    intro ng hng h0
    unfold k_rl
    rw [if_neg h0]
    generalize k_rl1 κ = K at hK ⊢
    obtain ⟨b1, b2, b3, b4, b5⟩ := id hK
    by_cases h1 : K 5 7 < 0
    · rw [if_pos h1]
      refine x_aload_n (pc := 41) 0 dX6_readLiteral_41 rfl rfl ?_
      refine x_geti_l (pc := 42) dX6_readLiteral_42 fX6_54 (zat_b rfl rfl) rfl rfl ?_
      refine x_istore (pc := 45) dX6_readLiteral_45 (by decide) rfl ?_
      refine x_iload (pc := 47) dX6_readLiteral_47 rfl ?_
      refine x_if_ge_f (pc := 49) 60 dX6_readLiteral_49 (by decide) (Int32.not_le.mpr h1) ?_
      refine x_aload_n (pc := 52) 0 dX6_readLiteral_52 rfl rfl ?_
      refine x_iconst (pc := 53) (nI 1) dX6_readLiteral_53 (by decide) ?_
      refine x_callV1i (pc := 54) dX6_readLiteral_54 lX6_82 (zat_b rfl rfl) rfl (s_refuse d _ b4 (by omega)) (Nat.le_of_ble_eq_true rfl) (Or.inl zgr) ?_
      refine x_pop (pc := 57) dX6_readLiteral_57 rfl ?_
      refine x_iconst (pc := 58) (nI 0) dX6_readLiteral_58 (by decide) ?_
      refine x_iret (pc := 59) dX6_readLiteral_59 rfl ?_
      exact ⟨rfl, rfl⟩
    · rw [if_neg h1]
      have bad : ∀ x, zX E (d + 2) mX6_readLiteral 82 [some (.ref 5), some (.int V), some (.int taken), some (.int (zbo full)), some (.int (zbo ng)), x] [] (K, α, τ) (fun r ν => r = some (.int (nI 0)) ∧ ν = (k_ref K (nI 2), α, τ)) := by
        intro x
        refine x_aload_n (pc := 82) 0 dX6_readLiteral_82 rfl rfl ?_
        refine x_iconst (pc := 83) (nI 2) dX6_readLiteral_83 (by decide) ?_
        refine x_callV1i (pc := 84) dX6_readLiteral_84 lX6_82 (zat_b rfl rfl) rfl (s_refuse d _ b4 (by omega)) (Nat.le_of_ble_eq_true rfl) (Or.inl zgr) ?_
        refine x_pop (pc := 87) dX6_readLiteral_87 rfl ?_
        refine x_iconst (pc := 88) (nI 0) dX6_readLiteral_88 (by decide) ?_
        refine x_iret (pc := 89) dX6_readLiteral_89 rfl ?_
        exact ⟨rfl, rfl⟩
      by_cases h2 : K 5 7 < nI 1
      · rw [if_pos (Or.inl h2)]
        refine x_aload_n (pc := 41) 0 dX6_readLiteral_41 rfl rfl ?_
        refine x_geti_l (pc := 42) dX6_readLiteral_42 fX6_54 (zat_b rfl rfl) rfl rfl ?_
        refine x_istore (pc := 45) dX6_readLiteral_45 (by decide) rfl ?_
        refine x_iload (pc := 47) dX6_readLiteral_47 rfl ?_
        refine x_if_ge_t (pc := 49) 60 dX6_readLiteral_49 (by decide) (Int32.not_lt.mp h1) ?_
        refine x_iload (pc := 60) dX6_readLiteral_60 rfl ?_
        refine x_iconst (pc := 62) (nI 1) dX6_readLiteral_62 (by decide) ?_
        refine x_icmp_lt_t (pc := 63) 82 dX6_readLiteral_63 (by decide) (h2) ?_
        exact bad _
      · by_cases h3 : V < K 5 7
        · rw [if_pos (Or.inr (Or.inl h3))]
          refine x_aload_n (pc := 41) 0 dX6_readLiteral_41 rfl rfl ?_
          refine x_geti_l (pc := 42) dX6_readLiteral_42 fX6_54 (zat_b rfl rfl) rfl rfl ?_
          refine x_istore (pc := 45) dX6_readLiteral_45 (by decide) rfl ?_
          refine x_iload (pc := 47) dX6_readLiteral_47 rfl ?_
          refine x_if_ge_t (pc := 49) 60 dX6_readLiteral_49 (by decide) (Int32.not_lt.mp h1) ?_
          refine x_iload (pc := 60) dX6_readLiteral_60 rfl ?_
          refine x_iconst (pc := 62) (nI 1) dX6_readLiteral_62 (by decide) ?_
          refine x_icmp_lt_f (pc := 63) 82 dX6_readLiteral_63 (by decide) (h2) ?_
          refine x_iload (pc := 66) dX6_readLiteral_66 rfl ?_
          refine x_iload_n (pc := 68) 1 dX6_readLiteral_68 rfl rfl ?_
          refine x_icmp_gt_t (pc := 69) 82 dX6_readLiteral_69 (by decide) (h3) ?_
          exact bad _
        · by_cases h4 : taken &&& kb (K 5 7) = 0
          · rw [if_neg (fun q => q.elim h2 (fun q => q.elim h3 (fun q => q h4)))]
            cases full with
            | true =>
              rw [if_pos rfl]
              refine x_aload_n (pc := 41) 0 dX6_readLiteral_41 rfl rfl ?_
              refine x_geti_l (pc := 42) dX6_readLiteral_42 fX6_54 (zat_b rfl rfl) rfl rfl ?_
              refine x_istore (pc := 45) dX6_readLiteral_45 (by decide) rfl ?_
              refine x_iload (pc := 47) dX6_readLiteral_47 rfl ?_
              refine x_if_ge_t (pc := 49) 60 dX6_readLiteral_49 (by decide) (Int32.not_lt.mp h1) ?_
              refine x_iload (pc := 60) dX6_readLiteral_60 rfl ?_
              refine x_iconst (pc := 62) (nI 1) dX6_readLiteral_62 (by decide) ?_
              refine x_icmp_lt_f (pc := 63) 82 dX6_readLiteral_63 (by decide) (h2) ?_
              refine x_iload (pc := 66) dX6_readLiteral_66 rfl ?_
              refine x_iload_n (pc := 68) 1 dX6_readLiteral_68 rfl rfl ?_
              refine x_icmp_gt_f (pc := 69) 82 dX6_readLiteral_69 (by decide) (h3) ?_
              refine x_iload_n (pc := 72) 2 dX6_readLiteral_72 rfl rfl ?_
              refine x_iload (pc := 73) dX6_readLiteral_73 rfl ?_
              refine x_callN1i (pc := 75) dX6_readLiteral_75 lX6_88 (s_bitOf d _) (Nat.le_of_ble_eq_true rfl) (Or.inl zgr) ?_
              refine x_iand (pc := 78) dX6_readLiteral_78 ?_
              refine x_if_eq_t (pc := 79) 90 dX6_readLiteral_79 (by decide) (h4) ?_
              refine x_iload_n (pc := 90) 3 dX6_readLiteral_90 rfl rfl ?_
              refine x_if_eq_f (pc := 91) 102 dX6_readLiteral_91 (by decide) (by decide) ?_
              refine x_aload_n (pc := 94) 0 dX6_readLiteral_94 rfl rfl ?_
              refine x_iconst (pc := 95) (nI 3) dX6_readLiteral_95 (by decide) ?_
              refine x_callV1i (pc := 96) dX6_readLiteral_96 lX6_82 (zat_b rfl rfl) rfl (s_refuse d _ b4 (by omega)) (Nat.le_of_ble_eq_true rfl) (Or.inl zgr) ?_
              refine x_pop (pc := 99) dX6_readLiteral_99 rfl ?_
              refine x_iconst (pc := 100) (nI 0) dX6_readLiteral_100 (by decide) ?_
              refine x_iret (pc := 101) dX6_readLiteral_101 rfl ?_
              exact ⟨rfl, rfl⟩
            | false =>
              rw [if_neg (by decide)]
              refine x_aload_n (pc := 41) 0 dX6_readLiteral_41 rfl rfl ?_
              refine x_geti_l (pc := 42) dX6_readLiteral_42 fX6_54 (zat_b rfl rfl) rfl rfl ?_
              refine x_istore (pc := 45) dX6_readLiteral_45 (by decide) rfl ?_
              refine x_iload (pc := 47) dX6_readLiteral_47 rfl ?_
              refine x_if_ge_t (pc := 49) 60 dX6_readLiteral_49 (by decide) (Int32.not_lt.mp h1) ?_
              refine x_iload (pc := 60) dX6_readLiteral_60 rfl ?_
              refine x_iconst (pc := 62) (nI 1) dX6_readLiteral_62 (by decide) ?_
              refine x_icmp_lt_f (pc := 63) 82 dX6_readLiteral_63 (by decide) (h2) ?_
              refine x_iload (pc := 66) dX6_readLiteral_66 rfl ?_
              refine x_iload_n (pc := 68) 1 dX6_readLiteral_68 rfl rfl ?_
              refine x_icmp_gt_f (pc := 69) 82 dX6_readLiteral_69 (by decide) (h3) ?_
              refine x_iload_n (pc := 72) 2 dX6_readLiteral_72 rfl rfl ?_
              refine x_iload (pc := 73) dX6_readLiteral_73 rfl ?_
              refine x_callN1i (pc := 75) dX6_readLiteral_75 lX6_88 (s_bitOf d _) (Nat.le_of_ble_eq_true rfl) (Or.inl zgr) ?_
              refine x_iand (pc := 78) dX6_readLiteral_78 ?_
              refine x_if_eq_t (pc := 79) 90 dX6_readLiteral_79 (by decide) (h4) ?_
              refine x_iload_n (pc := 90) 3 dX6_readLiteral_90 rfl rfl ?_
              refine x_if_eq_t (pc := 91) 102 dX6_readLiteral_91 (by decide) (rfl) ?_
              refine x_aload_n (pc := 102) 0 dX6_readLiteral_102 rfl rfl ?_
              refine x_callV0v (pc := 103) dX6_readLiteral_103 lX6_85 (zat_b rfl rfl) rfl (s_advance d hK) (Nat.le_of_ble_eq_true rfl) (Or.inl zgr) ?_
              refine x_iload (pc := 106) dX6_readLiteral_106 rfl ?_
              cases ng with
              | true =>
                rw [if_pos (hng.mp rfl)]
                refine x_if_eq_f (pc := 108) 117 dX6_readLiteral_108 (by decide) (by decide) ?_
                refine x_iload (pc := 111) dX6_readLiteral_111 rfl ?_
                refine x_ineg (pc := 113) dX6_readLiteral_113 ?_
                refine x_goto (pc := 114) 119 dX6_readLiteral_114 (by decide) ?_
                refine x_iret (pc := 119) dX6_readLiteral_119 rfl ?_
                exact ⟨rfl, rfl⟩
              | false =>
                rw [if_neg (fun q => by have := hng.mpr q; cases this)]
                refine x_if_eq_t (pc := 108) 117 dX6_readLiteral_108 (by decide) (rfl) ?_
                refine x_iload (pc := 117) dX6_readLiteral_117 rfl ?_
                refine x_iret (pc := 119) dX6_readLiteral_119 rfl ?_
                exact ⟨rfl, rfl⟩
          · rw [if_pos (Or.inr (Or.inr h4))]
            refine x_aload_n (pc := 41) 0 dX6_readLiteral_41 rfl rfl ?_
            refine x_geti_l (pc := 42) dX6_readLiteral_42 fX6_54 (zat_b rfl rfl) rfl rfl ?_
            refine x_istore (pc := 45) dX6_readLiteral_45 (by decide) rfl ?_
            refine x_iload (pc := 47) dX6_readLiteral_47 rfl ?_
            refine x_if_ge_t (pc := 49) 60 dX6_readLiteral_49 (by decide) (Int32.not_lt.mp h1) ?_
            refine x_iload (pc := 60) dX6_readLiteral_60 rfl ?_
            refine x_iconst (pc := 62) (nI 1) dX6_readLiteral_62 (by decide) ?_
            refine x_icmp_lt_f (pc := 63) 82 dX6_readLiteral_63 (by decide) (h2) ?_
            refine x_iload (pc := 66) dX6_readLiteral_66 rfl ?_
            refine x_iload_n (pc := 68) 1 dX6_readLiteral_68 rfl rfl ?_
            refine x_icmp_gt_f (pc := 69) 82 dX6_readLiteral_69 (by decide) (h3) ?_
            refine x_iload_n (pc := 72) 2 dX6_readLiteral_72 rfl rfl ?_
            refine x_iload (pc := 73) dX6_readLiteral_73 rfl ?_
            refine x_callN1i (pc := 75) dX6_readLiteral_75 lX6_88 (s_bitOf d _) (Nat.le_of_ble_eq_true rfl) (Or.inl zgr) ?_
            refine x_iand (pc := 78) dX6_readLiteral_78 ?_
            refine x_if_eq_f (pc := 79) 90 dX6_readLiteral_79 (by decide) (h4) ?_
            exact bad _
  by_cases h1 : κ 5 7 = -1
  · cases full with
    | true =>
      have e : k_rl κ V taken true = (nI 0, k_ref κ (nI 3)) := by unfold k_rl; rw [if_pos ⟨h1, rfl⟩]
      rw [e]
      refine x_aload_n (pc := 0) 0 dX6_readLiteral_0 rfl rfl ?_
      refine x_geti_l (pc := 1) dX6_readLiteral_1 fX6_54 (zat_b rfl rfl) rfl rfl ?_
      refine x_iconst (pc := 4) (-1) dX6_readLiteral_4 (by decide) ?_
      refine x_icmp_ne_f (pc := 5) 12 dX6_readLiteral_5 (by decide) (h1) ?_
      refine x_iconst (pc := 8) (nI 1) dX6_readLiteral_8 (by decide) ?_
      refine x_goto (pc := 9) 13 dX6_readLiteral_9 (by decide) ?_
      refine x_istore (pc := 13) dX6_readLiteral_13 (by decide) rfl ?_
      refine x_iload (pc := 15) dX6_readLiteral_15 rfl ?_
      refine x_if_eq_f (pc := 17) 32 dX6_readLiteral_17 (by decide) (by decide) ?_
      refine x_iload_n (pc := 20) 3 dX6_readLiteral_20 rfl rfl ?_
      refine x_if_eq_f (pc := 21) 32 dX6_readLiteral_21 (by decide) (by decide) ?_
      refine x_aload_n (pc := 24) 0 dX6_readLiteral_24 rfl rfl ?_
      refine x_iconst (pc := 25) (nI 3) dX6_readLiteral_25 (by decide) ?_
      refine x_callV1i (pc := 26) dX6_readLiteral_26 lX6_82 (zat_b rfl rfl) rfl (s_refuse d _ h.2.2.2.1 (by have := h.2.2.1; have := h.2.2.2.2; omega)) (Nat.le_of_ble_eq_true rfl) (Or.inl zgr) ?_
      refine x_pop (pc := 29) dX6_readLiteral_29 rfl ?_
      refine x_iconst (pc := 30) (nI 0) dX6_readLiteral_30 (by decide) ?_
      refine x_iret (pc := 31) dX6_readLiteral_31 rfl ?_
      exact ⟨rfl, rfl⟩
    | false =>
      have := rest true ⟨fun _ => h1, fun _ => rfl⟩ (fun q => by cases q.2)
      rw [show k_rl1 κ = k_adv κ by unfold k_rl1; rw [if_pos h1]] at this
      refine x_aload_n (pc := 0) 0 dX6_readLiteral_0 rfl rfl ?_
      refine x_geti_l (pc := 1) dX6_readLiteral_1 fX6_54 (zat_b rfl rfl) rfl rfl ?_
      refine x_iconst (pc := 4) (-1) dX6_readLiteral_4 (by decide) ?_
      refine x_icmp_ne_f (pc := 5) 12 dX6_readLiteral_5 (by decide) (h1) ?_
      refine x_iconst (pc := 8) (nI 1) dX6_readLiteral_8 (by decide) ?_
      refine x_goto (pc := 9) 13 dX6_readLiteral_9 (by decide) ?_
      refine x_istore (pc := 13) dX6_readLiteral_13 (by decide) rfl ?_
      refine x_iload (pc := 15) dX6_readLiteral_15 rfl ?_
      refine x_if_eq_f (pc := 17) 32 dX6_readLiteral_17 (by decide) (by decide) ?_
      refine x_iload_n (pc := 20) 3 dX6_readLiteral_20 rfl rfl ?_
      refine x_if_eq_t (pc := 21) 32 dX6_readLiteral_21 (by decide) (rfl) ?_
      refine x_iload (pc := 32) dX6_readLiteral_32 rfl ?_
      refine x_if_eq_f (pc := 34) 41 dX6_readLiteral_34 (by decide) (by decide) ?_
      refine x_aload_n (pc := 37) 0 dX6_readLiteral_37 rfl rfl ?_
      refine x_callV0v (pc := 38) dX6_readLiteral_38 lX6_85 (zat_b rfl rfl) rfl (s_advance d h) (Nat.le_of_ble_eq_true rfl) (Or.inl zgr) ?_
      exact this
  · have := rest false ⟨fun q => (by cases q), fun q => absurd q h1⟩ (fun q => h1 q.1)
    rw [show k_rl1 κ = κ by unfold k_rl1; rw [if_neg h1]] at this
    refine x_aload_n (pc := 0) 0 dX6_readLiteral_0 rfl rfl ?_
    refine x_geti_l (pc := 1) dX6_readLiteral_1 fX6_54 (zat_b rfl rfl) rfl rfl ?_
    refine x_iconst (pc := 4) (-1) dX6_readLiteral_4 (by decide) ?_
    refine x_icmp_ne_t (pc := 5) 12 dX6_readLiteral_5 (by decide) (h1) ?_
    refine x_iconst (pc := 12) (nI 0) dX6_readLiteral_12 (by decide) ?_
    refine x_istore (pc := 13) dX6_readLiteral_13 (by decide) rfl ?_
    refine x_iload (pc := 15) dX6_readLiteral_15 rfl ?_
    refine x_if_eq_t (pc := 17) 32 dX6_readLiteral_17 (by decide) (rfl) ?_
    refine x_iload (pc := 32) dX6_readLiteral_32 rfl ?_
    refine x_if_eq_t (pc := 34) 41 dX6_readLiteral_34 (by decide) (rfl) ?_
    exact this
end T2
