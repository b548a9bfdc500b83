/-! the class: bits and rows -/
section C1
variable {E : zEnv} {d : Nat} {y : zY} {pc : Nat} {ls : List (Option Value)} {st : List Value} {μ ν : zMem} {r : Option Value} {P : Option Value → zMem → Prop}
theorem x_ldcw {idx : Nat} (v : Int32) (hd : decode y.2.1 pc = .ok (.ldc_w idx, 3)) (hc : Cond.constant y.1.cls idx v ∈ zT) (k : zX E d y (pc + 3) ls (.int v :: st) μ P) : zX E d y pc ls st μ P := k.map (fun r ν k => ⟨k.1, fun p e s m args below meth c μ0 ad0 ad H locs LS C h1 h2 h3 h4 h5 h6 => lv_ldcw C.1 C.2.1 C.2.2.2.2.2.1 (C.2.2.2.2.2.2.1 _ hc) hd (k.2 p e s m args below meth c μ0 ad0 ad H locs LS C h1 h2 h3 h4 h5 h6)⟩)
end C1
/-- the bit of a literal's variable -/
def kb (l : Int32) : Int32 := nI 1 <<< ((zab l - nI 1) &&& 31)
def kbc1 (i : Int32) : Int32 := i - ((i.toUInt32 >>> (Int32.toUInt32 (nI 1) &&& Int32.toUInt32 31)).toInt32 &&& 1431655765)
def kbc2 (i : Int32) : Int32 := (i &&& 858993459) + ((i.toUInt32 >>> (Int32.toUInt32 (nI 2) &&& Int32.toUInt32 31)).toInt32 &&& 858993459)
def kbc3 (i : Int32) : Int32 := (i + (i.toUInt32 >>> (Int32.toUInt32 (nI 4) &&& Int32.toUInt32 31)).toInt32) &&& 252645135
def kbc4 (k : Nat) (i : Int32) : Int32 := i + (i.toUInt32 >>> (Int32.toUInt32 (nI k) &&& Int32.toUInt32 31)).toInt32
/-- Integer.bitCount as it is written -/
def kbc (i : Int32) : Int32 := kbc4 16 (kbc4 8 (kbc3 (kbc2 (kbc1 i)))) &&& nI 63
/-- at p there is a Row, whose literals are n -/
def kRow (τ : (Nat → Nat → Int64) × (Nat → Nat)) (p n : Nat) : Prop := (∀ κ α, zat (κ, α, τ) p 1) ∧ (∀ κ α, zar (κ, α, τ) (p + 1) 0) ∧ (∀ κ α, zln (κ, α, τ) (p + 1) = n) ∧ zrf p 0 = some (p + 1) ∧ zrf p 1 = none ∧ zrf p 2 = none ∧ Nat.ble 100 p = false ∧ Nat.ble 100 (p + 1) = false ∧ n ≤ 30
theorem kRow17 {τ : (Nat → Nat → Int64) × (Nat → Nat)} : kRow τ 17 8 := ⟨fun _ _ => zat_b rfl rfl, fun _ _ => zar_b rfl rfl rfl, fun _ _ => rfl, rfl, rfl, rfl, rfl, rfl, by decide⟩
theorem kRow19 {τ : (Nat → Nat → Int64) × (Nat → Nat)} : kRow τ 19 8 := ⟨fun _ _ => zat_b rfl rfl, fun _ _ => zar_b rfl rfl rfl, fun _ _ => rfl, rfl, rfl, rfl, rfl, rfl, by decide⟩
theorem kRow73 {τ : (Nat → Nat → Int64) × (Nat → Nat)} : kRow τ 73 30 := ⟨fun _ _ => zat_b rfl rfl, fun _ _ => zar_b rfl rfl rfl, fun _ _ => rfl, rfl, rfl, rfl, rfl, rfl, by decide⟩
theorem kRow80 {τ : (Nat → Nat → Int64) × (Nat → Nat)} : kRow τ 80 8 := ⟨fun _ _ => zat_b rfl rfl, fun _ _ => zar_b rfl rfl rfl, fun _ _ => rfl, rfl, rfl, rfl, rfl, rfl, by decide⟩
def k_put (κ : Nat → Nat → Int32) (p : Nat) (l : Int32) : Nat → Nat → Int32 := zup (zup (zup κ (p + 1) (κ p 1).toNatClampNeg l) p 1 (κ p 1 + nI 1)) p 2 (κ p 2 ||| kb l)
def k_emp (κ : Nat → Nat → Int32) (p : Nat) : Nat → Nat → Int32 := zup (zup κ p 1 (nI 0)) p 2 (nI 0)
section C2
variable {E : zEnv} {κ α : Nat → Nat → Int32} {τ : (Nat → Nat → Int64) × (Nat → Nat)}
theorem s_variableOf (d : Nat) (v : Int32) : zTr E (d + 1) mX8_variableOf [.int v] (κ, α, τ) (some (.int (zab v))) (κ, α, τ) := by
  refine zM.tr (zM_of [some (.int v)] (by decide) rfl (Nat.le_of_ble_eq_true rfl) ?_)
  by_cases h1 : 0 ≤ v
  ·
    refine x_iload_n (pc := 0) 0 dX8_variableOf_0 rfl rfl ?_
    refine x_if_ge_t (pc := 1) 9 dX8_variableOf_1 (by decide) (h1) ?_
    refine x_iload_n (pc := 9) 0 dX8_variableOf_9 rfl rfl ?_
    refine x_iret (pc := 10) dX8_variableOf_10 rfl ?_
    exact ⟨by rw [zab, if_pos h1], rfl⟩
  ·
    refine x_iload_n (pc := 0) 0 dX8_variableOf_0 rfl rfl ?_
    refine x_if_ge_f (pc := 1) 9 dX8_variableOf_1 (by decide) (h1) ?_
    refine x_iload_n (pc := 4) 0 dX8_variableOf_4 rfl rfl ?_
    refine x_ineg (pc := 5) dX8_variableOf_5 ?_
    refine x_goto (pc := 6) 10 dX8_variableOf_6 (by decide) ?_
    refine x_iret (pc := 10) dX8_variableOf_10 rfl ?_
    exact ⟨by rw [zab, if_neg h1], rfl⟩
theorem s_bitOf (d : Nat) (v : Int32) : zTr E (d + 1) mX8_bitOf [.int v] (κ, α, τ) (some (.int (kb v))) (κ, α, τ) := by
  refine zM.tr (zM_of [some (.int v)] (by decide) rfl (Nat.le_of_ble_eq_true rfl) ?_)
  unfold kb zab
  by_cases h1 : 0 ≤ v
  · rw [if_pos h1]
    refine x_iconst (pc := 0) (nI 1) dX8_bitOf_0 (by decide) ?_
    refine x_iload_n (pc := 1) 0 dX8_bitOf_1 rfl rfl ?_
    refine x_if_ge_t (pc := 2) 10 dX8_bitOf_2 (by decide) (h1) ?_
    refine x_iload_n (pc := 10) 0 dX8_bitOf_10 rfl rfl ?_
    refine x_iconst (pc := 11) (nI 1) dX8_bitOf_11 (by decide) ?_
    refine x_isub (pc := 12) dX8_bitOf_12 ?_
    refine x_ishl (pc := 13) dX8_bitOf_13 ?_
    refine x_iret (pc := 14) dX8_bitOf_14 rfl ?_
    exact ⟨rfl, rfl⟩
  · rw [if_neg h1]
    refine x_iconst (pc := 0) (nI 1) dX8_bitOf_0 (by decide) ?_
    refine x_iload_n (pc := 1) 0 dX8_bitOf_1 rfl rfl ?_
    refine x_if_ge_f (pc := 2) 10 dX8_bitOf_2 (by decide) (h1) ?_
    refine x_iload_n (pc := 5) 0 dX8_bitOf_5 rfl rfl ?_
    refine x_ineg (pc := 6) dX8_bitOf_6 ?_
    refine x_goto (pc := 7) 11 dX8_bitOf_7 (by decide) ?_
    refine x_iconst (pc := 11) (nI 1) dX8_bitOf_11 (by decide) ?_
    refine x_isub (pc := 12) dX8_bitOf_12 ?_
    refine x_ishl (pc := 13) dX8_bitOf_13 ?_
    refine x_iret (pc := 14) dX8_bitOf_14 rfl ?_
    exact ⟨rfl, rfl⟩
theorem s_bitCount (d : Nat) (v : Int32) : zTr E (d + 1) mJ6_bitCount_0f7a4 [.int v] (κ, α, τ) (some (.int (kbc v))) (κ, α, τ) := by
  refine zM.tr (zM_of [some (.int v)] (by decide) rfl (Nat.le_of_ble_eq_true rfl) ?_)
  refine x_iload_n (pc := 0) 0 dJ6_bitCount_0f7a4_0 rfl rfl ?_
  refine x_iload_n (pc := 1) 0 dJ6_bitCount_0f7a4_1 rfl rfl ?_
  refine x_iconst (pc := 2) (nI 1) dJ6_bitCount_0f7a4_2 (by decide) ?_
  refine x_iushr (pc := 3) dJ6_bitCount_0f7a4_3 ?_
  refine x_ldcw (pc := 4) (1431655765) dJ6_bitCount_0f7a4_4 (zt_of 823 (by decide +kernel) (by decide +kernel)) ?_
  refine x_iand (pc := 7) dJ6_bitCount_0f7a4_7 ?_
  refine x_isub (pc := 8) dJ6_bitCount_0f7a4_8 ?_
  refine x_istore_n (pc := 9) 0 dJ6_bitCount_0f7a4_9 rfl (by decide) rfl ?_
  refine x_iload_n (pc := 10) 0 dJ6_bitCount_0f7a4_10 rfl rfl ?_
  refine x_ldcw (pc := 11) (858993459) dJ6_bitCount_0f7a4_11 (zt_of 824 (by decide +kernel) (by decide +kernel)) ?_
  refine x_iand (pc := 14) dJ6_bitCount_0f7a4_14 ?_
  refine x_iload_n (pc := 15) 0 dJ6_bitCount_0f7a4_15 rfl rfl ?_
  refine x_iconst (pc := 16) (nI 2) dJ6_bitCount_0f7a4_16 (by decide) ?_
  refine x_iushr (pc := 17) dJ6_bitCount_0f7a4_17 ?_
  refine x_ldcw (pc := 18) (858993459) dJ6_bitCount_0f7a4_18 (zt_of 824 (by decide +kernel) (by decide +kernel)) ?_
  refine x_iand (pc := 21) dJ6_bitCount_0f7a4_21 ?_
  refine x_iadd (pc := 22) dJ6_bitCount_0f7a4_22 ?_
  refine x_istore_n (pc := 23) 0 dJ6_bitCount_0f7a4_23 rfl (by decide) rfl ?_
  refine x_iload_n (pc := 24) 0 dJ6_bitCount_0f7a4_24 rfl rfl ?_
  refine x_iload_n (pc := 25) 0 dJ6_bitCount_0f7a4_25 rfl rfl ?_
  refine x_iconst (pc := 26) (nI 4) dJ6_bitCount_0f7a4_26 (by decide) ?_
  refine x_iushr (pc := 27) dJ6_bitCount_0f7a4_27 ?_
  refine x_iadd (pc := 28) dJ6_bitCount_0f7a4_28 ?_
  refine x_ldcw (pc := 29) (252645135) dJ6_bitCount_0f7a4_29 (zt_of 825 (by decide +kernel) (by decide +kernel)) ?_
  refine x_iand (pc := 32) dJ6_bitCount_0f7a4_32 ?_
  refine x_istore_n (pc := 33) 0 dJ6_bitCount_0f7a4_33 rfl (by decide) rfl ?_
  refine x_iload_n (pc := 34) 0 dJ6_bitCount_0f7a4_34 rfl rfl ?_
  refine x_iload_n (pc := 35) 0 dJ6_bitCount_0f7a4_35 rfl rfl ?_
  refine x_bipush (pc := 36) (nI 8) dJ6_bitCount_0f7a4_36 (by decide) ?_
  refine x_iushr (pc := 38) dJ6_bitCount_0f7a4_38 ?_
  refine x_iadd (pc := 39) dJ6_bitCount_0f7a4_39 ?_
  refine x_istore_n (pc := 40) 0 dJ6_bitCount_0f7a4_40 rfl (by decide) rfl ?_
  refine x_iload_n (pc := 41) 0 dJ6_bitCount_0f7a4_41 rfl rfl ?_
  refine x_iload_n (pc := 42) 0 dJ6_bitCount_0f7a4_42 rfl rfl ?_
  refine x_bipush (pc := 43) (nI 16) dJ6_bitCount_0f7a4_43 (by decide) ?_
  refine x_iushr (pc := 45) dJ6_bitCount_0f7a4_45 ?_
  refine x_iadd (pc := 46) dJ6_bitCount_0f7a4_46 ?_
  refine x_istore_n (pc := 47) 0 dJ6_bitCount_0f7a4_47 rfl (by decide) rfl ?_
  refine x_iload_n (pc := 48) 0 dJ6_bitCount_0f7a4_48 rfl rfl ?_
  refine x_bipush (pc := 49) (nI 63) dJ6_bitCount_0f7a4_49 (by decide) ?_
  refine x_iand (pc := 51) dJ6_bitCount_0f7a4_51 ?_
  refine x_iret (pc := 52) dJ6_bitCount_0f7a4_52 rfl ?_
  exact ⟨rfl, rfl⟩
theorem s_rowIsFull (d : Nat) {p n t : Nat} (hr : kRow τ p n) (ht : κ p 1 = nI t) (ht30 : t ≤ 30) : zTr E (d + 1) mX1_isFull [.ref p] (κ, α, τ) (some (.int (zbo (decide (n ≤ t))))) (κ, α, τ) := by
  obtain ⟨zat_p, zar_p1, zln_p1, zrf_p_0, zrf_p_1, zrf_p_2, ble_p, ble_p1, hn⟩ := hr
  refine zM.tr (zM_of [some (.ref p)] (by decide) rfl (Nat.le_of_ble_eq_true rfl) ?_)
  refine x_aload_n (pc := 0) 0 dX1_isFull_0 rfl rfl ?_
  refine x_geti_l (pc := 1) dX1_isFull_1 fX1_13 (zat_p _ _) zrf_p_1 ble_p ?_
  refine x_aload_n (pc := 4) 0 dX1_isFull_4 rfl rfl ?_
  refine x_getr (pc := 5) ((p + 1)) dX1_isFull_5 fX1_7 (zat_p _ _) zrf_p_0 ?_
  refine x_alen (pc := 8) dX1_isFull_8 (zar_p1 _ _) (by decide) ?_
  rw [ht, zln_p1]
  by_cases h : n ≤ t
  · rw [decide_eq_true h]
    refine x_icmp_lt_f (pc := 9) 16 dX1_isFull_9 (by decide) (nI_nlt h (by omega)) ?_
    refine x_iconst (pc := 12) (nI 1) dX1_isFull_12 (by decide) ?_
    refine x_goto (pc := 13) 17 dX1_isFull_13 (by decide) ?_
    refine x_zret (pc := 17) dX1_isFull_17 rfl (by decide) ?_
    exact ⟨rfl, rfl⟩
  · rw [decide_eq_false h]
    refine x_icmp_lt_t (pc := 9) 16 dX1_isFull_9 (by decide) (nI_lt (by omega) (by omega)) ?_
    refine x_iconst (pc := 16) (nI 0) dX1_isFull_16 (by decide) ?_
    refine x_zret (pc := 17) dX1_isFull_17 rfl (by decide) ?_
    exact ⟨rfl, rfl⟩
theorem s_canTake (d : Nat) (l : Int32) {p n t : Nat} (hr : kRow τ p n) (ht : κ p 1 = nI t) (ht30 : t ≤ 30) : zTr E (d + 2) mX1_canTake [.ref p, .int l] (κ, α, τ) (some (.int (zbo (decide (t < n) && decide (κ p 2 &&& kb l = 0))))) (κ, α, τ) := by
  obtain ⟨zat_p, zar_p1, zln_p1, zrf_p_0, zrf_p_1, zrf_p_2, ble_p, ble_p1, hn⟩ := id hr
  refine zM.tr (zM_of [some (.ref p), some (.int l)] (by decide) rfl (Nat.le_of_ble_eq_true rfl) ?_)
  by_cases h : n ≤ t
  · rw [decide_eq_false (show ¬ t < n by omega)]
    refine x_aload_n (pc := 0) 0 dX1_canTake_0 rfl rfl ?_
    refine x_callV0i (pc := 1) dX1_canTake_1 lX1_17 (zat_p _ _) rfl (s_rowIsFull d hr ht ht30) (Nat.le_of_ble_eq_true rfl) (Or.inl zgr) ?_
    rw [decide_eq_true h]
    refine x_if_ne_t (pc := 4) 23 dX1_canTake_4 (by decide) (by decide) ?_
    refine x_iconst (pc := 23) (nI 0) dX1_canTake_23 (by decide) ?_
    refine x_zret (pc := 24) dX1_canTake_24 rfl (by decide) ?_
    exact ⟨rfl, rfl⟩
  · rw [decide_eq_true (show t < n by omega)]
    refine x_aload_n (pc := 0) 0 dX1_canTake_0 rfl rfl ?_
    refine x_callV0i (pc := 1) dX1_canTake_1 lX1_17 (zat_p _ _) rfl (s_rowIsFull d hr ht ht30) (Nat.le_of_ble_eq_true rfl) (Or.inl zgr) ?_
    rw [decide_eq_false h]
    by_cases h2 : κ p 2 &&& kb l = 0
    · rw [decide_eq_true h2]
      refine x_if_ne_f (pc := 4) 23 dX1_canTake_4 (by decide) (rfl) ?_
      refine x_aload_n (pc := 7) 0 dX1_canTake_7 rfl rfl ?_
      refine x_geti_l (pc := 8) dX1_canTake_8 fX1_21 (zat_p _ _) zrf_p_2 ble_p ?_
      refine x_iload_n (pc := 11) 1 dX1_canTake_11 rfl rfl ?_
      refine x_callN1i (pc := 12) dX1_canTake_12 lX1_24 (s_bitOf d l) (Nat.le_of_ble_eq_true rfl) (Or.inl zgr) ?_
      refine x_iand (pc := 15) dX1_canTake_15 ?_
      refine x_if_ne_f (pc := 16) 23 dX1_canTake_16 (by decide) (h2) ?_
      refine x_iconst (pc := 19) (nI 1) dX1_canTake_19 (by decide) ?_
      refine x_goto (pc := 20) 24 dX1_canTake_20 (by decide) ?_
      refine x_zret (pc := 24) dX1_canTake_24 rfl (by decide) ?_
      exact ⟨rfl, rfl⟩
    · rw [decide_eq_false h2]
      refine x_if_ne_f (pc := 4) 23 dX1_canTake_4 (by decide) (rfl) ?_
      refine x_aload_n (pc := 7) 0 dX1_canTake_7 rfl rfl ?_
      refine x_geti_l (pc := 8) dX1_canTake_8 fX1_21 (zat_p _ _) zrf_p_2 ble_p ?_
      refine x_iload_n (pc := 11) 1 dX1_canTake_11 rfl rfl ?_
      refine x_callN1i (pc := 12) dX1_canTake_12 lX1_24 (s_bitOf d l) (Nat.le_of_ble_eq_true rfl) (Or.inl zgr) ?_
      refine x_iand (pc := 15) dX1_canTake_15 ?_
      refine x_if_ne_t (pc := 16) 23 dX1_canTake_16 (by decide) (h2) ?_
      refine x_iconst (pc := 23) (nI 0) dX1_canTake_23 (by decide) ?_
      refine x_zret (pc := 24) dX1_canTake_24 rfl (by decide) ?_
      exact ⟨rfl, rfl⟩
theorem s_rowPut (d : Nat) (l : Int32) {p n t : Nat} (hr : kRow τ p n) (ht : κ p 1 = nI t) (ht30 : t ≤ 30) : zTr E (d + 2) mX1_put [.ref p, .int l] (κ, α, τ) none (if t < n then k_put κ p l else κ, α, τ) := by
  obtain ⟨zat_p, zar_p1, zln_p1, zrf_p_0, zrf_p_1, zrf_p_2, ble_p, ble_p1, hn⟩ := id hr
  have hc : (κ p 1).toNatClampNeg = t := by rw [ht]; exact nI_clamp (by omega)
  refine zM.tr (zM_of [some (.ref p), some (.int l)] (by decide) rfl (Nat.le_of_ble_eq_true rfl) ?_)
  by_cases h : n ≤ t
  · rw [if_neg (by omega)]
    refine x_aload_n (pc := 0) 0 dX1_put_0 rfl rfl ?_
    refine x_callV0i (pc := 1) dX1_put_1 lX1_17 (zat_p _ _) rfl (s_rowIsFull d hr ht ht30) (Nat.le_of_ble_eq_true rfl) (Or.inl zgr) ?_
    rw [decide_eq_true h]
    refine x_if_eq_f (pc := 4) 8 dX1_put_4 (by decide) (by decide) ?_
    refine x_vret (pc := 7) dX1_put_7 rfl ?_
    exact ⟨rfl, rfl⟩
  · rw [if_pos (by omega)]
    refine x_aload_n (pc := 0) 0 dX1_put_0 rfl rfl ?_
    refine x_callV0i (pc := 1) dX1_put_1 lX1_17 (zat_p _ _) rfl (s_rowIsFull d hr ht ht30) (Nat.le_of_ble_eq_true rfl) (Or.inl zgr) ?_
    rw [decide_eq_false h]
    unfold k_put
    rw [hc]
    refine x_if_eq_t (pc := 4) 8 dX1_put_4 (by decide) (rfl) ?_
    refine x_aload_n (pc := 8) 0 dX1_put_8 rfl rfl ?_
    refine x_getr (pc := 9) ((p + 1)) dX1_put_9 fX1_7 (zat_p _ _) zrf_p_0 ?_
    refine x_aload_n (pc := 12) 0 dX1_put_12 rfl rfl ?_
    refine x_geti_l (pc := 13) dX1_put_13 fX1_13 (zat_p _ _) zrf_p_1 ble_p ?_
    refine x_iload_n (pc := 16) 1 dX1_put_16 rfl rfl ?_
    have hj17 : t < n := by omega
    refine x_iast_l (pc := 17) (t) dX1_put_17 (zar_p1 _ _) ble_p1 (ht) (by rw [zln_p1]; exact hj17) (Nat.lt_of_lt_of_le hj17 (by omega)) ?_
    refine x_aload_n (pc := 18) 0 dX1_put_18 rfl rfl ?_
    refine x_dup (pc := 19) dX1_put_19 rfl ?_
    refine x_geti_l (pc := 20) dX1_put_20 fX1_13 (zat_p _ _) zrf_p_1 ble_p ?_
    rw [zup_p (by omega)]
    refine x_iconst (pc := 23) (nI 1) dX1_put_23 (by decide) ?_
    refine x_iadd (pc := 24) dX1_put_24 ?_
    refine x_puti_l (pc := 25) dX1_put_25 pX1_13 (zat_p _ _) zrf_p_1 ble_p ?_
    refine x_aload_n (pc := 28) 0 dX1_put_28 rfl rfl ?_
    refine x_dup (pc := 29) dX1_put_29 rfl ?_
    refine x_geti_l (pc := 30) dX1_put_30 fX1_21 (zat_p _ _) zrf_p_2 ble_p ?_
    rw [zup_i (by decide), zup_p (by omega)]
    refine x_iload_n (pc := 33) 1 dX1_put_33 rfl rfl ?_
    refine x_callN1i (pc := 34) dX1_put_34 lX1_24 (s_bitOf d l) (Nat.le_of_ble_eq_true rfl) (Or.inl zgr) ?_
    refine x_ior (pc := 37) dX1_put_37 ?_
    refine x_puti_l (pc := 38) dX1_put_38 pX1_21 (zat_p _ _) zrf_p_2 ble_p ?_
    refine x_vret (pc := 41) dX1_put_41 rfl ?_
    exact ⟨rfl, rfl⟩
theorem s_makeEmpty (d : Nat) {p n : Nat} (hr : kRow τ p n) : zTr E (d + 1) mX1_makeEmpty [.ref p] (κ, α, τ) none (k_emp κ p, α, τ) := by
  obtain ⟨zat_p, zar_p1, zln_p1, zrf_p_0, zrf_p_1, zrf_p_2, ble_p, ble_p1, hn⟩ := id hr
  refine zM.tr (zM_of [some (.ref p)] (by decide) rfl (Nat.le_of_ble_eq_true rfl) ?_)
  refine x_aload_n (pc := 0) 0 dX1_makeEmpty_0 rfl rfl ?_
  refine x_iconst (pc := 1) (nI 0) dX1_makeEmpty_1 (by decide) ?_
  refine x_puti_l (pc := 2) dX1_makeEmpty_2 pX1_13 (zat_p _ _) zrf_p_1 ble_p ?_
  refine x_aload_n (pc := 5) 0 dX1_makeEmpty_5 rfl rfl ?_
  refine x_iconst (pc := 6) (nI 0) dX1_makeEmpty_6 (by decide) ?_
  refine x_puti_l (pc := 7) dX1_makeEmpty_7 pX1_21 (zat_p _ _) zrf_p_2 ble_p ?_
  refine x_vret (pc := 10) dX1_makeEmpty_10 rfl ?_
  exact ⟨rfl, rfl⟩
end C2
