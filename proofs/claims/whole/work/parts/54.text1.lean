/-! the class: bytes and tokens -/
def kLen (κ : Nat → Nat → Int32) : Nat := (κ 5 5).toNatClampNeg
def k_bl (κ : Nat → Nat → Int32) (i : Nat) : Bool := decide (κ 77 i = nI 32) || decide (κ 77 i = nI 10)
def k_dg (κ : Nat → Nat → Int32) (i : Nat) : Bool := decide (nI 48 ≤ κ 77 i) && decide (κ 77 i ≤ nI 57)
def k_lt (κ : Nat → Nat → Int32) (i : Nat) : Bool := decide (nI 97 ≤ κ 77 i) && decide (κ 77 i ≤ nI 122)
def k_ap1 (s w : Int32) (κ : Nat → Nat → Int32) : Nat → Nat → Int32 := zup (zup κ 77 (κ 5 5).toNatClampNeg (w >>> (s &&& 31)).toInt8.toInt32) 5 5 (κ 5 5 + nI 1)
def k_apN (κ : Nat → Nat → Int32) (w : Int32) : Nat → Nat → Int32 := k_ap1 (nI 0) w (k_ap1 (nI 8) w (k_ap1 (nI 16) w (k_ap1 (nI 24) w κ)))
def k_tok0 (κ : Nat → Nat → Int32) (n : Nat) : Nat → Nat → Int32 := zup (zup κ 5 4 (nI n)) 5 7 (κ 78 n)
/-- the tokens: so many, and the one now -/
def kTk (κ : Nat → Nat → Int32) (n a : Nat) : Prop := κ 5 3 = nI n ∧ 1 ≤ n ∧ n ≤ 401 ∧ κ 5 4 = nI a ∧ a < n
def k_adv (κ : Nat → Nat → Int32) : Nat → Nat → Int32 := if (κ 5 4).toNatClampNeg + 1 < (κ 5 3).toNatClampNeg then k_tok0 κ ((κ 5 4).toNatClampNeg + 1) else k_tok0 κ (κ 5 4).toNatClampNeg
def k_ref (κ : Nat → Nat → Int32) (k : Int32) : Nat → Nat → Int32 := zup κ 5 6 (k + nI 8 * κ 79 (κ 5 4).toNatClampNeg)
def k_kt (κ : Nat → Nat → Int32) (w p : Int32) : Nat → Nat → Int32 := zup (zup (zup κ 78 (κ 5 3).toNatClampNeg w.toInt8.toInt32) 79 (κ 5 3).toNatClampNeg p.toInt16.toInt32) 5 3 (κ 5 3 + nI 1)
def k_eot (κ : Nat → Nat → Int32) (f : Nat) : Nat := if k_dg κ f = true then zspan (k_dg κ) (kLen κ - (f + 1)) (f + 1) else if k_lt κ f = true then zspan (k_lt κ) (kLen κ - (f + 1)) (f + 1) else f + 1
/-- the literal that begins at the token now; 0 at a fault -/
def k_rl1 (κ : Nat → Nat → Int32) : Nat → Nat → Int32 := if κ 5 7 = -1 then k_adv κ else κ
def k_rl (κ : Nat → Nat → Int32) (V taken : Int32) (full : Bool) : Int32 × (Nat → Nat → Int32) :=
  if κ 5 7 = -1 ∧ full = true then (nI 0, k_ref κ (nI 3))
  else if k_rl1 κ 5 7 < 0 then (nI 0, k_ref (k_rl1 κ) (nI 1))
  else if k_rl1 κ 5 7 < nI 1 ∨ V < k_rl1 κ 5 7 ∨ ¬ taken &&& kb (k_rl1 κ 5 7) = 0 then (nI 0, k_ref (k_rl1 κ) (nI 2))
  else if full = true then (nI 0, k_ref (k_rl1 κ) (nI 3))
  else (if κ 5 7 = -1 then -(k_rl1 κ 5 7) else k_rl1 κ 5 7, k_adv (k_rl1 κ))
section T1
variable {E : zEnv} {κ α : Nat → Nat → Int32} {τ : (Nat → Nat → Int64) × (Nat → Nat)}
theorem s_isBlank (d : Nat) {i : Nat} (hi : i < 400) : zTr E (d + 1) mX6_isBlank [.ref 5, .int (nI i)] (κ, α, τ) (some (.int (zbo (k_bl κ i)))) (κ, α, τ) := by
  refine zM.tr (zM_of [some (.ref 5), some (.int (nI i))] (by decide) rfl (Nat.le_of_ble_eq_true rfl) ?_)
  unfold k_bl
  by_cases h1 : κ 77 i = nI 32
  · rw [decide_eq_true h1]
    refine x_aload_n (pc := 0) 0 dX6_isBlank_0 rfl rfl ?_
    refine x_getr (pc := 1) (77) dX6_isBlank_1 fX6_9 (zat_b rfl rfl) rfl ?_
    refine x_iload_n (pc := 4) 1 dX6_isBlank_4 rfl rfl ?_
    have hj5 : i < 400 := by omega
    refine x_bald_l (pc := 5) (i) dX6_isBlank_5 (zar_b rfl rfl rfl) rfl (by first | rfl | simp only [pk_mul, nI_add] | simp only [zon, pk_mul, nI_add]) hj5 (Nat.lt_of_lt_of_le hj5 (by decide)) ?_
    refine x_bipush (pc := 6) (nI 32) dX6_isBlank_6 (by decide) ?_
    refine x_icmp_eq_t (pc := 8) 22 dX6_isBlank_8 (by decide) (h1) ?_
    refine x_iconst (pc := 22) (nI 1) dX6_isBlank_22 (by decide) ?_
    refine x_goto (pc := 23) 27 dX6_isBlank_23 (by decide) ?_
    refine x_zret (pc := 27) dX6_isBlank_27 rfl (by decide) ?_
    exact ⟨rfl, rfl⟩
  · rw [decide_eq_false h1]
    by_cases h2 : κ 77 i = nI 10
    · rw [decide_eq_true h2]
      refine x_aload_n (pc := 0) 0 dX6_isBlank_0 rfl rfl ?_
      refine x_getr (pc := 1) (77) dX6_isBlank_1 fX6_9 (zat_b rfl rfl) rfl ?_
      refine x_iload_n (pc := 4) 1 dX6_isBlank_4 rfl rfl ?_
      have hj5 : i < 400 := by omega
      refine x_bald_l (pc := 5) (i) dX6_isBlank_5 (zar_b rfl rfl rfl) rfl (by first | rfl | simp only [pk_mul, nI_add] | simp only [zon, pk_mul, nI_add]) hj5 (Nat.lt_of_lt_of_le hj5 (by decide)) ?_
      refine x_bipush (pc := 6) (nI 32) dX6_isBlank_6 (by decide) ?_
      refine x_icmp_eq_f (pc := 8) 22 dX6_isBlank_8 (by decide) (h1) ?_
      refine x_aload_n (pc := 11) 0 dX6_isBlank_11 rfl rfl ?_
      refine x_getr (pc := 12) (77) dX6_isBlank_12 fX6_9 (zat_b rfl rfl) rfl ?_
      refine x_iload_n (pc := 15) 1 dX6_isBlank_15 rfl rfl ?_
      have hj16 : i < 400 := by omega
      refine x_bald_l (pc := 16) (i) dX6_isBlank_16 (zar_b rfl rfl rfl) rfl (by first | rfl | simp only [pk_mul, nI_add] | simp only [zon, pk_mul, nI_add]) hj16 (Nat.lt_of_lt_of_le hj16 (by decide)) ?_
      refine x_bipush (pc := 17) (nI 10) dX6_isBlank_17 (by decide) ?_
      refine x_icmp_ne_f (pc := 19) 26 dX6_isBlank_19 (by decide) (h2) ?_
      refine x_iconst (pc := 22) (nI 1) dX6_isBlank_22 (by decide) ?_
      refine x_goto (pc := 23) 27 dX6_isBlank_23 (by decide) ?_
      refine x_zret (pc := 27) dX6_isBlank_27 rfl (by decide) ?_
      exact ⟨rfl, rfl⟩
    · rw [decide_eq_false h2]
      refine x_aload_n (pc := 0) 0 dX6_isBlank_0 rfl rfl ?_
      refine x_getr (pc := 1) (77) dX6_isBlank_1 fX6_9 (zat_b rfl rfl) rfl ?_
      refine x_iload_n (pc := 4) 1 dX6_isBlank_4 rfl rfl ?_
      have hj5 : i < 400 := by omega
      refine x_bald_l (pc := 5) (i) dX6_isBlank_5 (zar_b rfl rfl rfl) rfl (by first | rfl | simp only [pk_mul, nI_add] | simp only [zon, pk_mul, nI_add]) hj5 (Nat.lt_of_lt_of_le hj5 (by decide)) ?_
      refine x_bipush (pc := 6) (nI 32) dX6_isBlank_6 (by decide) ?_
      refine x_icmp_eq_f (pc := 8) 22 dX6_isBlank_8 (by decide) (h1) ?_
      refine x_aload_n (pc := 11) 0 dX6_isBlank_11 rfl rfl ?_
      refine x_getr (pc := 12) (77) dX6_isBlank_12 fX6_9 (zat_b rfl rfl) rfl ?_
      refine x_iload_n (pc := 15) 1 dX6_isBlank_15 rfl rfl ?_
      have hj16 : i < 400 := by omega
      refine x_bald_l (pc := 16) (i) dX6_isBlank_16 (zar_b rfl rfl rfl) rfl (by first | rfl | simp only [pk_mul, nI_add] | simp only [zon, pk_mul, nI_add]) hj16 (Nat.lt_of_lt_of_le hj16 (by decide)) ?_
      refine x_bipush (pc := 17) (nI 10) dX6_isBlank_17 (by decide) ?_
      refine x_icmp_ne_t (pc := 19) 26 dX6_isBlank_19 (by decide) (h2) ?_
      refine x_iconst (pc := 26) (nI 0) dX6_isBlank_26 (by decide) ?_
      refine x_zret (pc := 27) dX6_isBlank_27 rfl (by decide) ?_
      exact ⟨rfl, rfl⟩
theorem s_isDg (d : Nat) {i : Nat} (hi : i < 400) : zTr E (d + 1) mX6_isDigit [.ref 5, .int (nI i)] (κ, α, τ) (some (.int (zbo (k_dg κ i)))) (κ, α, τ) := by
  refine zM.tr (zM_of [some (.ref 5), some (.int (nI i))] (by decide) rfl (Nat.le_of_ble_eq_true rfl) ?_)
  unfold k_dg
  by_cases h1 : nI 48 ≤ κ 77 i
  · rw [decide_eq_true h1]
    by_cases h2 : κ 77 i ≤ nI 57
    · rw [decide_eq_true h2]
      refine x_aload_n (pc := 0) 0 dX6_isDigit_0 rfl rfl ?_
      refine x_getr (pc := 1) (77) dX6_isDigit_1 fX6_9 (zat_b rfl rfl) rfl ?_
      refine x_iload_n (pc := 4) 1 dX6_isDigit_4 rfl rfl ?_
      have hj5 : i < 400 := by omega
      refine x_bald_l (pc := 5) (i) dX6_isDigit_5 (zar_b rfl rfl rfl) rfl (by first | rfl | simp only [pk_mul, nI_add] | simp only [zon, pk_mul, nI_add]) hj5 (Nat.lt_of_lt_of_le hj5 (by decide)) ?_
      refine x_bipush (pc := 6) (nI 48) dX6_isDigit_6 (by decide) ?_
      refine x_icmp_lt_f (pc := 8) 26 dX6_isDigit_8 (by decide) (Int32.not_lt.mpr h1) ?_
      refine x_aload_n (pc := 11) 0 dX6_isDigit_11 rfl rfl ?_
      refine x_getr (pc := 12) (77) dX6_isDigit_12 fX6_9 (zat_b rfl rfl) rfl ?_
      refine x_iload_n (pc := 15) 1 dX6_isDigit_15 rfl rfl ?_
      have hj16 : i < 400 := by omega
      refine x_bald_l (pc := 16) (i) dX6_isDigit_16 (zar_b rfl rfl rfl) rfl (by first | rfl | simp only [pk_mul, nI_add] | simp only [zon, pk_mul, nI_add]) hj16 (Nat.lt_of_lt_of_le hj16 (by decide)) ?_
      refine x_bipush (pc := 17) (nI 57) dX6_isDigit_17 (by decide) ?_
      refine x_icmp_gt_f (pc := 19) 26 dX6_isDigit_19 (by decide) (Int32.not_lt.mpr h2) ?_
      refine x_iconst (pc := 22) (nI 1) dX6_isDigit_22 (by decide) ?_
      refine x_goto (pc := 23) 27 dX6_isDigit_23 (by decide) ?_
      refine x_zret (pc := 27) dX6_isDigit_27 rfl (by decide) ?_
      exact ⟨rfl, rfl⟩
    · rw [decide_eq_false h2]
      refine x_aload_n (pc := 0) 0 dX6_isDigit_0 rfl rfl ?_
      refine x_getr (pc := 1) (77) dX6_isDigit_1 fX6_9 (zat_b rfl rfl) rfl ?_
      refine x_iload_n (pc := 4) 1 dX6_isDigit_4 rfl rfl ?_
      have hj5 : i < 400 := by omega
      refine x_bald_l (pc := 5) (i) dX6_isDigit_5 (zar_b rfl rfl rfl) rfl (by first | rfl | simp only [pk_mul, nI_add] | simp only [zon, pk_mul, nI_add]) hj5 (Nat.lt_of_lt_of_le hj5 (by decide)) ?_
      refine x_bipush (pc := 6) (nI 48) dX6_isDigit_6 (by decide) ?_
      refine x_icmp_lt_f (pc := 8) 26 dX6_isDigit_8 (by decide) (Int32.not_lt.mpr h1) ?_
      refine x_aload_n (pc := 11) 0 dX6_isDigit_11 rfl rfl ?_
      refine x_getr (pc := 12) (77) dX6_isDigit_12 fX6_9 (zat_b rfl rfl) rfl ?_
      refine x_iload_n (pc := 15) 1 dX6_isDigit_15 rfl rfl ?_
      have hj16 : i < 400 := by omega
      refine x_bald_l (pc := 16) (i) dX6_isDigit_16 (zar_b rfl rfl rfl) rfl (by first | rfl | simp only [pk_mul, nI_add] | simp only [zon, pk_mul, nI_add]) hj16 (Nat.lt_of_lt_of_le hj16 (by decide)) ?_
      refine x_bipush (pc := 17) (nI 57) dX6_isDigit_17 (by decide) ?_
      refine x_icmp_gt_t (pc := 19) 26 dX6_isDigit_19 (by decide) (Int32.not_le.mp h2) ?_
      refine x_iconst (pc := 26) (nI 0) dX6_isDigit_26 (by decide) ?_
      refine x_zret (pc := 27) dX6_isDigit_27 rfl (by decide) ?_
      exact ⟨rfl, rfl⟩
  · rw [decide_eq_false h1]
    refine x_aload_n (pc := 0) 0 dX6_isDigit_0 rfl rfl ?_
    refine x_getr (pc := 1) (77) dX6_isDigit_1 fX6_9 (zat_b rfl rfl) rfl ?_
    refine x_iload_n (pc := 4) 1 dX6_isDigit_4 rfl rfl ?_
    have hj5 : i < 400 := by omega
    refine x_bald_l (pc := 5) (i) dX6_isDigit_5 (zar_b rfl rfl rfl) rfl (by first | rfl | simp only [pk_mul, nI_add] | simp only [zon, pk_mul, nI_add]) hj5 (Nat.lt_of_lt_of_le hj5 (by decide)) ?_
    refine x_bipush (pc := 6) (nI 48) dX6_isDigit_6 (by decide) ?_
    refine x_icmp_lt_t (pc := 8) 26 dX6_isDigit_8 (by decide) (Int32.not_le.mp h1) ?_
    refine x_iconst (pc := 26) (nI 0) dX6_isDigit_26 (by decide) ?_
    refine x_zret (pc := 27) dX6_isDigit_27 rfl (by decide) ?_
    exact ⟨rfl, rfl⟩
theorem s_isLt (d : Nat) {i : Nat} (hi : i < 400) : zTr E (d + 1) mX6_isLetter [.ref 5, .int (nI i)] (κ, α, τ) (some (.int (zbo (k_lt κ i)))) (κ, α, τ) := by
  refine zM.tr (zM_of [some (.ref 5), some (.int (nI i))] (by decide) rfl (Nat.le_of_ble_eq_true rfl) ?_)
  unfold k_lt
  by_cases h1 : nI 97 ≤ κ 77 i
  · rw [decide_eq_true h1]
    by_cases h2 : κ 77 i ≤ nI 122
    · rw [decide_eq_true h2]
      refine x_aload_n (pc := 0) 0 dX6_isLetter_0 rfl rfl ?_
      refine x_getr (pc := 1) (77) dX6_isLetter_1 fX6_9 (zat_b rfl rfl) rfl ?_
      refine x_iload_n (pc := 4) 1 dX6_isLetter_4 rfl rfl ?_
      have hj5 : i < 400 := by omega
      refine x_bald_l (pc := 5) (i) dX6_isLetter_5 (zar_b rfl rfl rfl) rfl (by first | rfl | simp only [pk_mul, nI_add] | simp only [zon, pk_mul, nI_add]) hj5 (Nat.lt_of_lt_of_le hj5 (by decide)) ?_
      refine x_bipush (pc := 6) (nI 97) dX6_isLetter_6 (by decide) ?_
      refine x_icmp_lt_f (pc := 8) 26 dX6_isLetter_8 (by decide) (Int32.not_lt.mpr h1) ?_
      refine x_aload_n (pc := 11) 0 dX6_isLetter_11 rfl rfl ?_
      refine x_getr (pc := 12) (77) dX6_isLetter_12 fX6_9 (zat_b rfl rfl) rfl ?_
      refine x_iload_n (pc := 15) 1 dX6_isLetter_15 rfl rfl ?_
      have hj16 : i < 400 := by omega
      refine x_bald_l (pc := 16) (i) dX6_isLetter_16 (zar_b rfl rfl rfl) rfl (by first | rfl | simp only [pk_mul, nI_add] | simp only [zon, pk_mul, nI_add]) hj16 (Nat.lt_of_lt_of_le hj16 (by decide)) ?_
      refine x_bipush (pc := 17) (nI 122) dX6_isLetter_17 (by decide) ?_
      refine x_icmp_gt_f (pc := 19) 26 dX6_isLetter_19 (by decide) (Int32.not_lt.mpr h2) ?_
      refine x_iconst (pc := 22) (nI 1) dX6_isLetter_22 (by decide) ?_
      refine x_goto (pc := 23) 27 dX6_isLetter_23 (by decide) ?_
      refine x_zret (pc := 27) dX6_isLetter_27 rfl (by decide) ?_
      exact ⟨rfl, rfl⟩
    · rw [decide_eq_false h2]
      refine x_aload_n (pc := 0) 0 dX6_isLetter_0 rfl rfl ?_
      refine x_getr (pc := 1) (77) dX6_isLetter_1 fX6_9 (zat_b rfl rfl) rfl ?_
      refine x_iload_n (pc := 4) 1 dX6_isLetter_4 rfl rfl ?_
      have hj5 : i < 400 := by omega
      refine x_bald_l (pc := 5) (i) dX6_isLetter_5 (zar_b rfl rfl rfl) rfl (by first | rfl | simp only [pk_mul, nI_add] | simp only [zon, pk_mul, nI_add]) hj5 (Nat.lt_of_lt_of_le hj5 (by decide)) ?_
      refine x_bipush (pc := 6) (nI 97) dX6_isLetter_6 (by decide) ?_
      refine x_icmp_lt_f (pc := 8) 26 dX6_isLetter_8 (by decide) (Int32.not_lt.mpr h1) ?_
      refine x_aload_n (pc := 11) 0 dX6_isLetter_11 rfl rfl ?_
      refine x_getr (pc := 12) (77) dX6_isLetter_12 fX6_9 (zat_b rfl rfl) rfl ?_
      refine x_iload_n (pc := 15) 1 dX6_isLetter_15 rfl rfl ?_
      have hj16 : i < 400 := by omega
      refine x_bald_l (pc := 16) (i) dX6_isLetter_16 (zar_b rfl rfl rfl) rfl (by first | rfl | simp only [pk_mul, nI_add] | simp only [zon, pk_mul, nI_add]) hj16 (Nat.lt_of_lt_of_le hj16 (by decide)) ?_
      refine x_bipush (pc := 17) (nI 122) dX6_isLetter_17 (by decide) ?_
      refine x_icmp_gt_t (pc := 19) 26 dX6_isLetter_19 (by decide) (Int32.not_le.mp h2) ?_
      refine x_iconst (pc := 26) (nI 0) dX6_isLetter_26 (by decide) ?_
      refine x_zret (pc := 27) dX6_isLetter_27 rfl (by decide) ?_
      exact ⟨rfl, rfl⟩
  · rw [decide_eq_false h1]
    refine x_aload_n (pc := 0) 0 dX6_isLetter_0 rfl rfl ?_
    refine x_getr (pc := 1) (77) dX6_isLetter_1 fX6_9 (zat_b rfl rfl) rfl ?_
    refine x_iload_n (pc := 4) 1 dX6_isLetter_4 rfl rfl ?_
    have hj5 : i < 400 := by omega
    refine x_bald_l (pc := 5) (i) dX6_isLetter_5 (zar_b rfl rfl rfl) rfl (by first | rfl | simp only [pk_mul, nI_add] | simp only [zon, pk_mul, nI_add]) hj5 (Nat.lt_of_lt_of_le hj5 (by decide)) ?_
    refine x_bipush (pc := 6) (nI 97) dX6_isLetter_6 (by decide) ?_
    refine x_icmp_lt_t (pc := 8) 26 dX6_isLetter_8 (by decide) (Int32.not_le.mp h1) ?_
    refine x_iconst (pc := 26) (nI 0) dX6_isLetter_26 (by decide) ?_
    refine x_zret (pc := 27) dX6_isLetter_27 rfl (by decide) ?_
    exact ⟨rfl, rfl⟩
theorem k_ap1_len {s w : Int32} {n : Nat} (h : κ 5 5 = nI n) : k_ap1 s w κ 5 5 = nI (n + 1) := by unfold k_ap1; rw [zup_same, h, nI_add]
theorem s_appendNumber (d : Nat) (w : Int32) {n : Nat} (hn : κ 5 5 = nI n) (h4 : n + 4 ≤ 400) : zTr E (d + 1) mX6_appendNumber [.ref 5, .int w] (κ, α, τ) none (k_apN κ w, α, τ) := by
  refine zM.tr (zM_of [some (.ref 5), some (.int w), none] (by decide) rfl (Nat.le_of_ble_eq_true rfl) ?_)
  have one : ∀ (s : Int32) (κ : Nat → Nat → Int32) (n : Nat) (P : Option Value → zMem → Prop), 0 ≤ s → κ 5 5 = nI n → n < 400 → zX E (d + 1) mX6_appendNumber 3 [some (.ref 5), some (.int w), some (.int (s + Int32.ofInt (-8)))] [] (k_ap1 s w κ, α, τ) P → zX E (d + 1) mX6_appendNumber 3 [some (.ref 5), some (.int w), some (.int s)] [] (κ, α, τ) P := by
    intro s κ n P hs hn h4 k
    have hc : (κ 5 5).toNatClampNeg = n := by rw [hn]; exact nI_clamp (by omega)
    unfold k_ap1 at k
    rw [hc, hn] at k
    refine x_iload_n (pc := 3) 2 dX6_appendNumber_3 rfl rfl ?_
    refine x_if_lt_f (pc := 4) 46 dX6_appendNumber_4 (by decide) (Int32.not_lt.mpr hs) ?_
    refine x_aload_n (pc := 7) 0 dX6_appendNumber_7 rfl rfl ?_
    refine x_geti_l (pc := 8) dX6_appendNumber_8 fX6_22 (zat_b rfl rfl) rfl rfl ?_
    rw [hn]
    refine x_sipush (pc := 11) (nI 400) dX6_appendNumber_11 (by decide) ?_
    refine x_icmp_ge_f (pc := 14) 46 dX6_appendNumber_14 (by decide) (nI_ge (b := 400) (by omega) (by omega)) ?_
    refine x_aload_n (pc := 17) 0 dX6_appendNumber_17 rfl rfl ?_
    refine x_getr (pc := 18) (77) dX6_appendNumber_18 fX6_9 (zat_b rfl rfl) rfl ?_
    refine x_aload_n (pc := 21) 0 dX6_appendNumber_21 rfl rfl ?_
    refine x_geti_l (pc := 22) dX6_appendNumber_22 fX6_22 (zat_b rfl rfl) rfl rfl ?_
    rw [hn]
    refine x_iload_n (pc := 25) 1 dX6_appendNumber_25 rfl rfl ?_
    refine x_iload_n (pc := 26) 2 dX6_appendNumber_26 rfl rfl ?_
    refine x_ishr (pc := 27) dX6_appendNumber_27 ?_
    refine x_i2b (pc := 28) dX6_appendNumber_28 ?_
    have hj29 : n < 400 := by omega
    refine x_bast_l (pc := 29) (n) dX6_appendNumber_29 (zar_b rfl rfl rfl) rfl (by first | rfl | simp only [pk_mul, nI_add] | simp only [zon, pk_mul, nI_add]) hj29 (Nat.lt_of_lt_of_le hj29 (by decide)) (pk_vb _) ?_
    refine x_aload_n (pc := 30) 0 dX6_appendNumber_30 rfl rfl ?_
    refine x_dup (pc := 31) dX6_appendNumber_31 rfl ?_
    refine x_geti_l (pc := 32) dX6_appendNumber_32 fX6_22 (zat_b rfl rfl) rfl rfl ?_
    rw [zup_p (by decide), hn]
    refine x_iconst (pc := 35) (nI 1) dX6_appendNumber_35 (by decide) ?_
    refine x_iadd (pc := 36) dX6_appendNumber_36 ?_
    refine x_puti_l (pc := 37) dX6_appendNumber_37 pX6_22 (zat_b rfl rfl) rfl rfl ?_
    refine x_iinc (pc := 40) (s + Int32.ofInt (-8)) dX6_appendNumber_40 rfl (rfl) (by decide) rfl ?_
    refine x_goto (pc := 43) 3 dX6_appendNumber_43 (by decide) ?_
    exact k
  unfold k_apN
  refine x_bipush (pc := 0) (nI 24) dX6_appendNumber_0 (by decide) ?_
  refine x_istore_n (pc := 2) 2 dX6_appendNumber_2 rfl (by decide) rfl ?_
  refine one (nI 24) κ n _ (by decide) hn (by omega) ?_
  rw [show nI 24 + Int32.ofInt (-8) = nI 16 by decide]
  refine one (nI 16) _ (n + 1) _ (by decide) (k_ap1_len hn) (by omega) ?_
  rw [show nI 16 + Int32.ofInt (-8) = nI 8 by decide]
  refine one (nI 8) _ (n + 2) _ (by decide) (k_ap1_len (k_ap1_len hn)) (by omega) ?_
  rw [show nI 8 + Int32.ofInt (-8) = nI 0 by decide]
  refine one (nI 0) _ (n + 3) _ (by decide) (k_ap1_len (k_ap1_len (k_ap1_len hn))) (by omega) ?_
  refine x_iload_n (pc := 3) 2 dX6_appendNumber_3 rfl rfl ?_
  refine x_if_lt_t (pc := 4) 46 dX6_appendNumber_4 (by decide) (by decide) ?_
  refine x_vret (pc := 46) dX6_appendNumber_46 rfl ?_
  exact ⟨rfl, rfl⟩
theorem s_startAgain (d : Nat) : zTr E (d + 1) mX6_startAgain [.ref 5] (κ, α, τ) none (k_tok0 κ 0, α, τ) := by
  refine zM.tr (zM_of [some (.ref 5)] (by decide) rfl (Nat.le_of_ble_eq_true rfl) ?_)
  unfold k_tok0
  refine x_aload_n (pc := 0) 0 dX6_startAgain_0 rfl rfl ?_
  refine x_iconst (pc := 1) (nI 0) dX6_startAgain_1 (by decide) ?_
  refine x_puti_l (pc := 2) dX6_startAgain_2 pX6_51 (zat_b rfl rfl) rfl rfl ?_
  refine x_aload_n (pc := 5) 0 dX6_startAgain_5 rfl rfl ?_
  refine x_aload_n (pc := 6) 0 dX6_startAgain_6 rfl rfl ?_
  refine x_getr (pc := 7) (78) dX6_startAgain_7 fX6_15 (zat_b rfl rfl) rfl ?_
  refine x_aload_n (pc := 10) 0 dX6_startAgain_10 rfl rfl ?_
  refine x_geti_l (pc := 11) dX6_startAgain_11 fX6_51 (zat_b rfl rfl) rfl rfl ?_
  rw [zup_same]
  have hj14 : 0 < 401 := by omega
  refine x_bald_l (pc := 14) (0) dX6_startAgain_14 (zar_b rfl rfl rfl) rfl (by first | rfl | simp only [pk_mul, nI_add] | simp only [zon, pk_mul, nI_add]) hj14 (Nat.lt_of_lt_of_le hj14 (by decide)) ?_
  rw [zup_p (by decide)]
  refine x_puti_l (pc := 15) dX6_startAgain_15 pX6_54 (zat_b rfl rfl) rfl rfl ?_
  refine x_vret (pc := 18) dX6_startAgain_18 rfl ?_
  exact ⟨rfl, rfl⟩
theorem s_advance (d : Nat) {n a : Nat} (h : kTk κ n a) : zTr E (d + 1) mX6_advance [.ref 5] (κ, α, τ) none (k_adv κ, α, τ) := by
  obtain ⟨h1, h2, h3, h4, h5⟩ := h
  have c1 : (κ 5 3).toNatClampNeg = n := by rw [h1]; exact nI_clamp (by omega)
  have c2 : (κ 5 4).toNatClampNeg = a := by rw [h4]; exact nI_clamp (by omega)
  refine zM.tr (zM_of [some (.ref 5)] (by decide) rfl (Nat.le_of_ble_eq_true rfl) ?_)
  unfold k_adv
  rw [c1, c2]
  refine x_aload_n (pc := 0) 0 dX6_advance_0 rfl rfl ?_
  refine x_geti_l (pc := 1) dX6_advance_1 fX6_51 (zat_b rfl rfl) rfl rfl ?_
  refine x_aload_n (pc := 4) 0 dX6_advance_4 rfl rfl ?_
  refine x_geti_l (pc := 5) dX6_advance_5 fX6_26 (zat_b rfl rfl) rfl rfl ?_
  refine x_iconst (pc := 8) (nI 1) dX6_advance_8 (by decide) ?_
  refine x_isub (pc := 9) dX6_advance_9 ?_
  rw [h1, h4, pk_sub h2]
  by_cases h : a + 1 < n
  · rw [if_pos h]
    unfold k_tok0
    refine x_icmp_ge_f (pc := 10) 23 dX6_advance_10 (by decide) (nI_ge (by omega) (by omega)) ?_
    refine x_aload_n (pc := 13) 0 dX6_advance_13 rfl rfl ?_
    refine x_dup (pc := 14) dX6_advance_14 rfl ?_
    refine x_geti_l (pc := 15) dX6_advance_15 fX6_51 (zat_b rfl rfl) rfl rfl ?_
    rw [h4]
    refine x_iconst (pc := 18) (nI 1) dX6_advance_18 (by decide) ?_
    refine x_iadd (pc := 19) dX6_advance_19 ?_
    rw [nI_add]
    refine x_puti_l (pc := 20) dX6_advance_20 pX6_51 (zat_b rfl rfl) rfl rfl ?_
    refine x_aload_n (pc := 23) 0 dX6_advance_23 rfl rfl ?_
    refine x_aload_n (pc := 24) 0 dX6_advance_24 rfl rfl ?_
    refine x_getr (pc := 25) (78) dX6_advance_25 fX6_15 (zat_b rfl rfl) rfl ?_
    refine x_aload_n (pc := 28) 0 dX6_advance_28 rfl rfl ?_
    refine x_geti_l (pc := 29) dX6_advance_29 fX6_51 (zat_b rfl rfl) rfl rfl ?_
    rw [zup_same]
    have hj32 : a + 1 < 401 := by omega
    refine x_bald_l (pc := 32) (a + 1) dX6_advance_32 (zar_b rfl rfl rfl) rfl (by first | rfl | simp only [pk_mul, nI_add] | simp only [zon, pk_mul, nI_add]) hj32 (Nat.lt_of_lt_of_le hj32 (by decide)) ?_
    rw [zup_p (by decide)]
    refine x_puti_l (pc := 33) dX6_advance_33 pX6_54 (zat_b rfl rfl) rfl rfl ?_
    refine x_vret (pc := 36) dX6_advance_36 rfl ?_
    exact ⟨rfl, rfl⟩
  · rw [if_neg h]
    have e : zup κ 5 4 (nI a) = κ := zup_self h4
    unfold k_tok0
    rw [e]
    refine x_icmp_ge_t (pc := 10) 23 dX6_advance_10 (by decide) (nI_le (by omega) (by omega)) ?_
    refine x_aload_n (pc := 23) 0 dX6_advance_23 rfl rfl ?_
    refine x_aload_n (pc := 24) 0 dX6_advance_24 rfl rfl ?_
    refine x_getr (pc := 25) (78) dX6_advance_25 fX6_15 (zat_b rfl rfl) rfl ?_
    refine x_aload_n (pc := 28) 0 dX6_advance_28 rfl rfl ?_
    refine x_geti_l (pc := 29) dX6_advance_29 fX6_51 (zat_b rfl rfl) rfl rfl ?_
    rw [h4]
    have hj32 : a < 401 := by omega
    refine x_bald_l (pc := 32) (a) dX6_advance_32 (zar_b rfl rfl rfl) rfl (by first | rfl | simp only [pk_mul, nI_add] | simp only [zon, pk_mul, nI_add]) hj32 (Nat.lt_of_lt_of_le hj32 (by decide)) ?_
    refine x_puti_l (pc := 33) dX6_advance_33 pX6_54 (zat_b rfl rfl) rfl rfl ?_
    refine x_vret (pc := 36) dX6_advance_36 rfl ?_
    exact ⟨rfl, rfl⟩
theorem s_refuse (d : Nat) (k : Int32) {a : Nat} (h : κ 5 4 = nI a) (ha : a < 401) : zTr E (d + 1) mX6_refuse [.ref 5, .int k] (κ, α, τ) (some (.int (nI 0))) (k_ref κ k, α, τ) := by
  have c2 : (κ 5 4).toNatClampNeg = a := by rw [h]; exact nI_clamp (by omega)
  refine zM.tr (zM_of [some (.ref 5), some (.int k)] (by decide) rfl (Nat.le_of_ble_eq_true rfl) ?_)
  unfold k_ref
  rw [c2]
  refine x_aload_n (pc := 0) 0 dX6_refuse_0 rfl rfl ?_
  refine x_iload_n (pc := 1) 1 dX6_refuse_1 rfl rfl ?_
  refine x_bipush (pc := 2) (nI 8) dX6_refuse_2 (by decide) ?_
  refine x_aload_n (pc := 4) 0 dX6_refuse_4 rfl rfl ?_
  refine x_getr (pc := 5) (79) dX6_refuse_5 fX6_18 (zat_b rfl rfl) rfl ?_
  refine x_aload_n (pc := 8) 0 dX6_refuse_8 rfl rfl ?_
  refine x_geti_l (pc := 9) dX6_refuse_9 fX6_51 (zat_b rfl rfl) rfl rfl ?_
  rw [h]
  have hj12 : a < 401 := by omega
  refine x_sald_l (pc := 12) (a) dX6_refuse_12 (zar_b rfl rfl rfl) rfl (by first | rfl | simp only [pk_mul, nI_add] | simp only [zon, pk_mul, nI_add]) hj12 (Nat.lt_of_lt_of_le hj12 (by decide)) ?_
  refine x_imul (pc := 13) dX6_refuse_13 ?_
  refine x_iadd (pc := 14) dX6_refuse_14 ?_
  refine x_puti_l (pc := 15) dX6_refuse_15 pX6_45 (zat_b rfl rfl) rfl rfl ?_
  refine x_iconst (pc := 18) (nI 0) dX6_refuse_18 (by decide) ?_
  refine x_zret (pc := 19) dX6_refuse_19 rfl (by decide) ?_
  exact ⟨rfl, rfl⟩
theorem s_keepToken (d : Nat) (w p : Int32) {n : Nat} (h : κ 5 3 = nI n) (hn : n ≤ 400) : zTr E (d + 1) mX6_keepToken [.ref 5, .int w, .int p] (κ, α, τ) none (k_kt κ w p, α, τ) := by
  have c2 : (κ 5 3).toNatClampNeg = n := by rw [h]; exact nI_clamp (by omega)
  refine zM.tr (zM_of [some (.ref 5), some (.int w), some (.int p)] (by decide) rfl (Nat.le_of_ble_eq_true rfl) ?_)
  unfold k_kt
  rw [c2]
  refine x_aload_n (pc := 0) 0 dX6_keepToken_0 rfl rfl ?_
  refine x_geti_l (pc := 1) dX6_keepToken_1 fX6_26 (zat_b rfl rfl) rfl rfl ?_
  rw [h]
  refine x_sipush (pc := 4) (nI 400) dX6_keepToken_4 (by decide) ?_
  refine x_icmp_le_t (pc := 7) 11 dX6_keepToken_7 (by decide) (nI_le (b := 400) (by omega) (by omega)) ?_
  refine x_aload_n (pc := 11) 0 dX6_keepToken_11 rfl rfl ?_
  refine x_getr (pc := 12) (78) dX6_keepToken_12 fX6_15 (zat_b rfl rfl) rfl ?_
  refine x_aload_n (pc := 15) 0 dX6_keepToken_15 rfl rfl ?_
  refine x_geti_l (pc := 16) dX6_keepToken_16 fX6_26 (zat_b rfl rfl) rfl rfl ?_
  rw [h]
  refine x_iload_n (pc := 19) 1 dX6_keepToken_19 rfl rfl ?_
  refine x_i2b (pc := 20) dX6_keepToken_20 ?_
  have hj21 : n < 401 := by omega
  refine x_bast_l (pc := 21) (n) dX6_keepToken_21 (zar_b rfl rfl rfl) rfl (by first | rfl | simp only [pk_mul, nI_add] | simp only [zon, pk_mul, nI_add]) hj21 (Nat.lt_of_lt_of_le hj21 (by decide)) (pk_vb _) ?_
  refine x_aload_n (pc := 22) 0 dX6_keepToken_22 rfl rfl ?_
  refine x_getr (pc := 23) (79) dX6_keepToken_23 fX6_18 (zat_b rfl rfl) rfl ?_
  refine x_aload_n (pc := 26) 0 dX6_keepToken_26 rfl rfl ?_
  refine x_geti_l (pc := 27) dX6_keepToken_27 fX6_26 (zat_b rfl rfl) rfl rfl ?_
  rw [zup_p (by decide), h]
  refine x_iload_n (pc := 30) 2 dX6_keepToken_30 rfl rfl ?_
  refine x_i2s (pc := 31) dX6_keepToken_31 ?_
  have hj32 : n < 401 := by omega
  refine x_sast_l (pc := 32) (n) dX6_keepToken_32 (zar_b rfl rfl rfl) rfl (by first | rfl | simp only [pk_mul, nI_add] | simp only [zon, pk_mul, nI_add]) hj32 (Nat.lt_of_lt_of_le hj32 (by decide)) (pk_vs _) ?_
  refine x_aload_n (pc := 33) 0 dX6_keepToken_33 rfl rfl ?_
  refine x_dup (pc := 34) dX6_keepToken_34 rfl ?_
  refine x_geti_l (pc := 35) dX6_keepToken_35 fX6_26 (zat_b rfl rfl) rfl rfl ?_
  rw [zup_p (by decide), zup_p (by decide), h]
  refine x_iconst (pc := 38) (nI 1) dX6_keepToken_38 (by decide) ?_
  refine x_iadd (pc := 39) dX6_keepToken_39 ?_
  refine x_puti_l (pc := 40) dX6_keepToken_40 pX6_26 (zat_b rfl rfl) rfl rfl ?_
  refine x_vret (pc := 43) dX6_keepToken_43 rfl ?_
  exact ⟨rfl, rfl⟩
theorem l_eotD (d : Nat) {f L : Nat} (hL : κ 5 5 = nI L) (hL4 : L ≤ 400) : ∀ m t, t + m = L ∨ (m = 0 ∧ L ≤ t ∧ t ≤ 401) → zX E (d + 2) mX6_endOfToken 12 [some (.ref 5), some (.int (nI f)), some (.int (nI t))] [] (κ, α, τ) (fun r ν => r = some (.int (nI (zspan (k_dg κ) m t))) ∧ ν = (κ, α, τ)) := by
  intro m
  induction m with
  | zero =>
    intro t ht
    refine x_iload_n (pc := 12) 2 dX6_endOfToken_12 rfl rfl ?_
    refine x_aload_n (pc := 13) 0 dX6_endOfToken_13 rfl rfl ?_
    refine x_geti_l (pc := 14) dX6_endOfToken_14 fX6_22 (zat_b rfl rfl) rfl rfl ?_
    rw [hL]
    refine x_icmp_ge_t (pc := 17) 64 dX6_endOfToken_17 (by decide) (nI_le (by omega) (by omega)) ?_
    refine x_iload_n (pc := 64) 2 dX6_endOfToken_64 rfl rfl ?_
    refine x_iret (pc := 65) dX6_endOfToken_65 rfl ?_
    exact ⟨rfl, rfl⟩
  | succ m ih =>
    intro t ht
    refine x_iload_n (pc := 12) 2 dX6_endOfToken_12 rfl rfl ?_
    refine x_aload_n (pc := 13) 0 dX6_endOfToken_13 rfl rfl ?_
    refine x_geti_l (pc := 14) dX6_endOfToken_14 fX6_22 (zat_b rfl rfl) rfl rfl ?_
    rw [hL]
    refine x_icmp_ge_f (pc := 17) 64 dX6_endOfToken_17 (by decide) (nI_ge (by omega) (by omega)) ?_
    refine x_aload_n (pc := 20) 0 dX6_endOfToken_20 rfl rfl ?_
    refine x_iload_n (pc := 21) 2 dX6_endOfToken_21 rfl rfl ?_
    refine x_callV1i (pc := 22) dX6_endOfToken_22 lX6_57 (zat_b rfl rfl) rfl (s_isDg d (by omega)) (Nat.le_of_ble_eq_true rfl) (Or.inl zgr) ?_
    have step : zspan (k_dg κ) (m + 1) t = bif k_dg κ t then zspan (k_dg κ) m (t + 1) else t := rfl
    rw [step]
    cases h : k_dg κ t with
    | true =>
      refine x_if_eq_f (pc := 25) 64 dX6_endOfToken_25 (by decide) (by decide) ?_
      refine x_iinc (pc := 28) (nI (t + 1)) dX6_endOfToken_28 rfl (zinc _) (by decide) rfl ?_
      refine x_goto (pc := 31) 12 dX6_endOfToken_31 (by decide) ?_
      exact ih (t + 1) (by omega)
    | false =>
      refine x_if_eq_t (pc := 25) 64 dX6_endOfToken_25 (by decide) (rfl) ?_
      refine x_iload_n (pc := 64) 2 dX6_endOfToken_64 rfl rfl ?_
      refine x_iret (pc := 65) dX6_endOfToken_65 rfl ?_
      exact ⟨rfl, rfl⟩
theorem l_eotL (d : Nat) {f L : Nat} (hL : κ 5 5 = nI L) (hL4 : L ≤ 400) : ∀ m t, t + m = L ∨ (m = 0 ∧ L ≤ t ∧ t ≤ 401) → zX E (d + 2) mX6_endOfToken 42 [some (.ref 5), some (.int (nI f)), some (.int (nI t))] [] (κ, α, τ) (fun r ν => r = some (.int (nI (zspan (k_lt κ) m t))) ∧ ν = (κ, α, τ)) := by
  intro m
  induction m with
  | zero =>
    intro t ht
    refine x_iload_n (pc := 42) 2 dX6_endOfToken_42 rfl rfl ?_
    refine x_aload_n (pc := 43) 0 dX6_endOfToken_43 rfl rfl ?_
    refine x_geti_l (pc := 44) dX6_endOfToken_44 fX6_22 (zat_b rfl rfl) rfl rfl ?_
    rw [hL]
    refine x_icmp_ge_t (pc := 47) 64 dX6_endOfToken_47 (by decide) (nI_le (by omega) (by omega)) ?_
    refine x_iload_n (pc := 64) 2 dX6_endOfToken_64 rfl rfl ?_
    refine x_iret (pc := 65) dX6_endOfToken_65 rfl ?_
    exact ⟨rfl, rfl⟩
  | succ m ih =>
    intro t ht
    refine x_iload_n (pc := 42) 2 dX6_endOfToken_42 rfl rfl ?_
    refine x_aload_n (pc := 43) 0 dX6_endOfToken_43 rfl rfl ?_
    refine x_geti_l (pc := 44) dX6_endOfToken_44 fX6_22 (zat_b rfl rfl) rfl rfl ?_
    rw [hL]
    refine x_icmp_ge_f (pc := 47) 64 dX6_endOfToken_47 (by decide) (nI_ge (by omega) (by omega)) ?_
    refine x_aload_n (pc := 50) 0 dX6_endOfToken_50 rfl rfl ?_
    refine x_iload_n (pc := 51) 2 dX6_endOfToken_51 rfl rfl ?_
    refine x_callV1i (pc := 52) dX6_endOfToken_52 lX6_60 (zat_b rfl rfl) rfl (s_isLt d (by omega)) (Nat.le_of_ble_eq_true rfl) (Or.inl zgr) ?_
    have step : zspan (k_lt κ) (m + 1) t = bif k_lt κ t then zspan (k_lt κ) m (t + 1) else t := rfl
    rw [step]
    cases h : k_lt κ t with
    | true =>
      refine x_if_eq_f (pc := 55) 64 dX6_endOfToken_55 (by decide) (by decide) ?_
      refine x_iinc (pc := 58) (nI (t + 1)) dX6_endOfToken_58 rfl (zinc _) (by decide) rfl ?_
      refine x_goto (pc := 61) 42 dX6_endOfToken_61 (by decide) ?_
      exact ih (t + 1) (by omega)
    | false =>
      refine x_if_eq_t (pc := 55) 64 dX6_endOfToken_55 (by decide) (rfl) ?_
      refine x_iload_n (pc := 64) 2 dX6_endOfToken_64 rfl rfl ?_
      refine x_iret (pc := 65) dX6_endOfToken_65 rfl ?_
      exact ⟨rfl, rfl⟩
theorem s_endOfToken (d : Nat) {f L : Nat} (hL : κ 5 5 = nI L) (hL4 : L ≤ 400) (hf : f < L) : zTr E (d + 2) mX6_endOfToken [.ref 5, .int (nI f)] (κ, α, τ) (some (.int (nI (k_eot κ f)))) (κ, α, τ) := by
  have c : kLen κ = L := by unfold kLen; rw [hL]; exact nI_clamp (by omega)
  refine zM.tr (zM_of [some (.ref 5), some (.int (nI f)), none] (by decide) rfl (Nat.le_of_ble_eq_true rfl) ?_)
  unfold k_eot
  rw [c]
  refine x_iload_n (pc := 0) 1 dX6_endOfToken_0 rfl rfl ?_
  refine x_iconst (pc := 1) (nI 1) dX6_endOfToken_1 (by decide) ?_
  refine x_iadd (pc := 2) dX6_endOfToken_2 ?_
  rw [nI_add]
  refine x_istore_n (pc := 3) 2 dX6_endOfToken_3 rfl (by decide) rfl ?_
  refine x_aload_n (pc := 4) 0 dX6_endOfToken_4 rfl rfl ?_
  refine x_iload_n (pc := 5) 1 dX6_endOfToken_5 rfl rfl ?_
  refine x_callV1i (pc := 6) dX6_endOfToken_6 lX6_57 (zat_b rfl rfl) rfl (s_isDg d (by omega)) (Nat.le_of_ble_eq_true rfl) (Or.inl zgr) ?_
  cases h : k_dg κ f with
  | true =>
    rw [if_pos rfl]
    refine x_if_eq_f (pc := 9) 34 dX6_endOfToken_9 (by decide) (by decide) ?_
    exact l_eotD d hL hL4 (L - (f + 1)) (f + 1) (by omega)
  | false =>
    rw [if_neg (by decide)]
    refine x_if_eq_t (pc := 9) 34 dX6_endOfToken_9 (by decide) (rfl) ?_
    refine x_aload_n (pc := 34) 0 dX6_endOfToken_34 rfl rfl ?_
    refine x_iload_n (pc := 35) 1 dX6_endOfToken_35 rfl rfl ?_
    refine x_callV1i (pc := 36) dX6_endOfToken_36 lX6_60 (zat_b rfl rfl) rfl (s_isLt d (by omega)) (Nat.le_of_ble_eq_true rfl) (Or.inl zgr) ?_
    cases h2 : k_lt κ f with
    | true =>
      rw [if_pos rfl]
      refine x_if_eq_f (pc := 39) 64 dX6_endOfToken_39 (by decide) (by decide) ?_
      exact l_eotL d hL hL4 (L - (f + 1)) (f + 1) (by omega)
    | false =>
      rw [if_neg (by decide)]
      refine x_if_eq_t (pc := 39) 64 dX6_endOfToken_39 (by decide) (rfl) ?_
      refine x_iload_n (pc := 64) 2 dX6_endOfToken_64 rfl rfl ?_
      refine x_iret (pc := 65) dX6_endOfToken_65 rfl ?_
      exact ⟨rfl, rfl⟩
end T1
