/-! the class: the state's small methods, rows copied, Math, Long.bitCount -/
def klb1 (i : Int64) : Int64 := i - ((i.toUInt64 >>> ((nI 1).toInt64.toUInt64 &&& Int64.toUInt64 63)).toInt64 &&& 6148914691236517205)
def klb2 (i : Int64) : Int64 := (i &&& 3689348814741910323) + ((i.toUInt64 >>> ((nI 2).toInt64.toUInt64 &&& Int64.toUInt64 63)).toInt64 &&& 3689348814741910323)
def klb3 (i : Int64) : Int64 := (i + (i.toUInt64 >>> ((nI 4).toInt64.toUInt64 &&& Int64.toUInt64 63)).toInt64) &&& 1085102592571150095
def klb4 (k : Nat) (i : Int64) : Int64 := i + (i.toUInt64 >>> ((nI k).toInt64.toUInt64 &&& Int64.toUInt64 63)).toInt64
/-- Long.bitCount as it is written -/
def klb (i : Int64) : Int32 := (klb4 32 (klb4 16 (klb4 8 (klb3 (klb2 (klb1 i)))))).toInt32 &&& nI 127
def k_max (a b : Int32) : Int32 := if a < b then b else a
def k_min (a b : Int32) : Int32 := if b < a then b else a
def k_hasLit (κ : Nat → Nat → Int32) (l : Int32) : Bool := decide (¬ l = 0) && (decide (l ≤ κ 10 4) && decide (-(κ 10 4) ≤ l))
def k_phaseOf (κ : Nat → Nat → Int32) (v : Int32) : Bool := decide (¬ κ 10 5 &&& kb v = 0)
def k_setPhase (κ : Nat → Nat → Int32) (l : Int32) : Nat → Nat → Int32 := zup κ 10 5 (if 0 < l then κ 10 5 ||| kb l else κ 10 5 &&& (kb l ^^^ (-1)))
def k_cpF (κ : Nat → Nat → Int32) (p q i : Nat) (a : Nat → Nat → Int32) : Nat → Nat → Int32 := k_put a p (κ (q + 1) i)
def k_cpR (κ : Nat → Nat → Int32) (p q t : Nat) : Nat → Nat → Int32 := zit (k_cpF κ p q) 0 t (k_emp κ p)
section C4
variable {E : zEnv} {κ α : Nat → Nat → Int32} {τ : (Nat → Nat → Int64) × (Nat → Nat)}
section MM
variable {d : Nat} {y : zY} {pc : Nat} {ls : List (Option Value)} {st : List Value} {μ ν : zMem} {r : Option Value} {P : Option Value → zMem → Prop}
theorem zmaxN : Lib.Math.max.name = yJ9_max_7cf53 := by decide +kernel
theorem zminN : Lib.Math.min.name = yJ9_min_7cf53 := by decide +kernel
theorem zmaxI : yJ9_max_7cf53.cls = "java/lang/Math" := by decide +kernel
theorem zminI : yJ9_min_7cf53.cls = "java/lang/Math" := by decide +kernel
theorem zmaxC : Lib.Math.max.code = cJ9_max_7cf53 := by decide +kernel
theorem zminC : Lib.Math.min.code = cJ9_min_7cf53 := by decide +kernel
theorem x_mmax {x z : Int32} {idx : Nat} (hd : decode y.2.1 pc = .ok (.invokestatic idx, 3)) (hl : zMS y.1.cls idx mJ9_max_7cf53 2) (hw : ((st.map fun v => v.category).sum) ≤ 8) (k : zX E (d + 1) y (pc + 3) ls (.int (k_max x z) :: st) μ P) : zX E (d + 1) y pc ls (.int z :: .int x :: st) μ P := k.map (fun r ν k => ⟨k.1, fun p e s m args below meth c μ0 ad0 ad H locs LS C h1 h2 h3 h4 h5 h6 => by
  have m1 := k.1.1
  have m2 := k.1.2.1
  have m3 := h1.1
  have m4 := h1.2.1
  have hcat : ((st.map (ztv ad)).map fun v => v.category).sum ≤ 8 := by
    rw [List.map_map, show (fun v : Value => v.category) ∘ ztv ad = (fun v : Value => v.category) from funext (ztv_cat ad)]
    exact hw
  exact va_mmax C.1 C.2.1 (C.2.2.1.trans h6.1.symm) C.2.2.2.2.2.1 (C.2.2.2.2.2.2.1 _ (by rw [zmaxN]; exact hl.1 _ (List.mem_append_left _ (by simp)))) (C.2.2.2.2.2.2.1 _ (by rw [zmaxN]; exact hl.1 _ (List.mem_append_left _ (by simp)))) (C.2.2.2.2.2.2.1 _ (zmaxI ▸ hl.1 (Cond.initialized yJ9_max_7cf53.cls) (List.mem_append_left _ (by simp)))) (C.2.2.2.2.2.2.1 _ (by rw [zmaxN, zmaxC]; exact hl.1 _ (List.mem_append_right _ (List.mem_cons_self ..)))) (by show 1 ≤ d + 1; omega) (by show _ ≤ 60 * (d + 1); omega) (by show _ ≤ zg ν 5 - zg μ0 5; omega) (by show _ ≤ zg ν 6 - zg μ0 6; omega) hd (k.2 p e s m args below meth c μ0 ad0 ad H locs LS C h1 h2 h3 h4 h5 h6)⟩)
theorem x_mmin {x z : Int32} {idx : Nat} (hd : decode y.2.1 pc = .ok (.invokestatic idx, 3)) (hl : zMS y.1.cls idx mJ9_min_7cf53 2) (hw : ((st.map fun v => v.category).sum) ≤ 8) (k : zX E (d + 1) y (pc + 3) ls (.int (k_min x z) :: st) μ P) : zX E (d + 1) y pc ls (.int z :: .int x :: st) μ P := k.map (fun r ν k => ⟨k.1, fun p e s m args below meth c μ0 ad0 ad H locs LS C h1 h2 h3 h4 h5 h6 => by
  have m1 := k.1.1
  have m2 := k.1.2.1
  have m3 := h1.1
  have m4 := h1.2.1
  have hcat : ((st.map (ztv ad)).map fun v => v.category).sum ≤ 8 := by
    rw [List.map_map, show (fun v : Value => v.category) ∘ ztv ad = (fun v : Value => v.category) from funext (ztv_cat ad)]
    exact hw
  exact va_mmin C.1 C.2.1 (C.2.2.1.trans h6.1.symm) C.2.2.2.2.2.1 (C.2.2.2.2.2.2.1 _ (by rw [zminN]; exact hl.1 _ (List.mem_append_left _ (by simp)))) (C.2.2.2.2.2.2.1 _ (by rw [zminN]; exact hl.1 _ (List.mem_append_left _ (by simp)))) (C.2.2.2.2.2.2.1 _ (zminI ▸ hl.1 (Cond.initialized yJ9_min_7cf53.cls) (List.mem_append_left _ (by simp)))) (C.2.2.2.2.2.2.1 _ (by rw [zminN, zminC]; exact hl.1 _ (List.mem_append_right _ (List.mem_cons_self ..)))) (by show 1 ≤ d + 1; omega) (by show _ ≤ 60 * (d + 1); omega) (by show _ ≤ zg ν 5 - zg μ0 5; omega) (by show _ ≤ zg ν 6 - zg μ0 6; omega) hd (k.2 p e s m args below meth c μ0 ad0 ad H locs LS C h1 h2 h3 h4 h5 h6)⟩)
end MM
theorem s_lbitCount (d : Nat) (v : Int64) : zTr E (d + 1) mJ13_bitCount_95d88 [.long v] (κ, α, τ) (some (.int (klb v))) (κ, α, τ) := by
  refine zM.tr (zM_of [some (.long v), none] (by decide) rfl (Nat.le_of_ble_eq_true rfl) ?_)
  refine x_lload_n (pc := 0) 0 dJ13_bitCount_95d88_0 rfl rfl ?_
  refine x_lload_n (pc := 1) 0 dJ13_bitCount_95d88_1 rfl rfl ?_
  refine x_iconst (pc := 2) (nI 1) dJ13_bitCount_95d88_2 (by decide) ?_
  refine x_lushr (pc := 3) dJ13_bitCount_95d88_3 ?_
  refine x_ldc2 (pc := 4) (6148914691236517205) dJ13_bitCount_95d88_4 (zt_of 1033 (by decide +kernel) (by decide +kernel)) ?_
  refine x_land (pc := 7) dJ13_bitCount_95d88_7 ?_
  refine x_lsub (pc := 8) dJ13_bitCount_95d88_8 ?_
  refine x_lstore_n (pc := 9) 0 dJ13_bitCount_95d88_9 rfl (by decide) rfl ?_
  refine x_lload_n (pc := 10) 0 dJ13_bitCount_95d88_10 rfl rfl ?_
  refine x_ldc2 (pc := 11) (3689348814741910323) dJ13_bitCount_95d88_11 (zt_of 1034 (by decide +kernel) (by decide +kernel)) ?_
  refine x_land (pc := 14) dJ13_bitCount_95d88_14 ?_
  refine x_lload_n (pc := 15) 0 dJ13_bitCount_95d88_15 rfl rfl ?_
  refine x_iconst (pc := 16) (nI 2) dJ13_bitCount_95d88_16 (by decide) ?_
  refine x_lushr (pc := 17) dJ13_bitCount_95d88_17 ?_
  refine x_ldc2 (pc := 18) (3689348814741910323) dJ13_bitCount_95d88_18 (zt_of 1034 (by decide +kernel) (by decide +kernel)) ?_
  refine x_land (pc := 21) dJ13_bitCount_95d88_21 ?_
  refine x_ladd (pc := 22) dJ13_bitCount_95d88_22 ?_
  refine x_lstore_n (pc := 23) 0 dJ13_bitCount_95d88_23 rfl (by decide) rfl ?_
  refine x_lload_n (pc := 24) 0 dJ13_bitCount_95d88_24 rfl rfl ?_
  refine x_lload_n (pc := 25) 0 dJ13_bitCount_95d88_25 rfl rfl ?_
  refine x_iconst (pc := 26) (nI 4) dJ13_bitCount_95d88_26 (by decide) ?_
  refine x_lushr (pc := 27) dJ13_bitCount_95d88_27 ?_
  refine x_ladd (pc := 28) dJ13_bitCount_95d88_28 ?_
  refine x_ldc2 (pc := 29) (1085102592571150095) dJ13_bitCount_95d88_29 (zt_of 1035 (by decide +kernel) (by decide +kernel)) ?_
  refine x_land (pc := 32) dJ13_bitCount_95d88_32 ?_
  refine x_lstore_n (pc := 33) 0 dJ13_bitCount_95d88_33 rfl (by decide) rfl ?_
  refine x_lload_n (pc := 34) 0 dJ13_bitCount_95d88_34 rfl rfl ?_
  refine x_lload_n (pc := 35) 0 dJ13_bitCount_95d88_35 rfl rfl ?_
  refine x_bipush (pc := 36) (nI 8) dJ13_bitCount_95d88_36 (by decide) ?_
  refine x_lushr (pc := 38) dJ13_bitCount_95d88_38 ?_
  refine x_ladd (pc := 39) dJ13_bitCount_95d88_39 ?_
  refine x_lstore_n (pc := 40) 0 dJ13_bitCount_95d88_40 rfl (by decide) rfl ?_
  refine x_lload_n (pc := 41) 0 dJ13_bitCount_95d88_41 rfl rfl ?_
  refine x_lload_n (pc := 42) 0 dJ13_bitCount_95d88_42 rfl rfl ?_
  refine x_bipush (pc := 43) (nI 16) dJ13_bitCount_95d88_43 (by decide) ?_
  refine x_lushr (pc := 45) dJ13_bitCount_95d88_45 ?_
  refine x_ladd (pc := 46) dJ13_bitCount_95d88_46 ?_
  refine x_lstore_n (pc := 47) 0 dJ13_bitCount_95d88_47 rfl (by decide) rfl ?_
  refine x_lload_n (pc := 48) 0 dJ13_bitCount_95d88_48 rfl rfl ?_
  refine x_lload_n (pc := 49) 0 dJ13_bitCount_95d88_49 rfl rfl ?_
  refine x_bipush (pc := 50) (nI 32) dJ13_bitCount_95d88_50 (by decide) ?_
  refine x_lushr (pc := 52) dJ13_bitCount_95d88_52 ?_
  refine x_ladd (pc := 53) dJ13_bitCount_95d88_53 ?_
  refine x_lstore_n (pc := 54) 0 dJ13_bitCount_95d88_54 rfl (by decide) rfl ?_
  refine x_lload_n (pc := 55) 0 dJ13_bitCount_95d88_55 rfl rfl ?_
  refine x_l2i (pc := 56) dJ13_bitCount_95d88_56 ?_
  refine x_bipush (pc := 57) (nI 127) dJ13_bitCount_95d88_57 (by decide) ?_
  refine x_iand (pc := 59) dJ13_bitCount_95d88_59 ?_
  refine x_iret (pc := 60) dJ13_bitCount_95d88_60 rfl ?_
  exact ⟨rfl, rfl⟩
theorem s_hasLiteral (d : Nat) (l : Int32) : zTr E (d + 1) mX3_hasLiteral [.ref 10, .int l] (κ, α, τ) (some (.int (zbo (k_hasLit κ l)))) (κ, α, τ) := by
  refine zM.tr (zM_of [some (.ref 10), some (.int l)] (by decide) rfl (Nat.le_of_ble_eq_true rfl) ?_)
  unfold k_hasLit
  by_cases h1 : l = 0
  · rw [decide_eq_false (p := ¬ l = 0) (by simpa using h1), Bool.false_and]
    refine x_iload_n (pc := 0) 1 dX3_hasLiteral_0 rfl rfl ?_
    refine x_if_eq_t (pc := 1) 25 dX3_hasLiteral_1 (by decide) (h1) ?_
    refine x_iconst (pc := 25) (nI 0) dX3_hasLiteral_25 (by decide) ?_
    refine x_zret (pc := 26) dX3_hasLiteral_26 rfl (by decide) ?_
    exact ⟨rfl, rfl⟩
  · rw [decide_eq_true h1, Bool.true_and]
    by_cases h2 : l ≤ κ 10 4
    · rw [decide_eq_true h2, Bool.true_and]
      by_cases h3 : -(κ 10 4) ≤ l
      · rw [decide_eq_true h3]
        refine x_iload_n (pc := 0) 1 dX3_hasLiteral_0 rfl rfl ?_
        refine x_if_eq_f (pc := 1) 25 dX3_hasLiteral_1 (by decide) (h1) ?_
        refine x_iload_n (pc := 4) 1 dX3_hasLiteral_4 rfl rfl ?_
        refine x_aload_n (pc := 5) 0 dX3_hasLiteral_5 rfl rfl ?_
        refine x_geti_l (pc := 6) dX3_hasLiteral_6 fX3_41 (zat_b rfl rfl) rfl rfl ?_
        refine x_icmp_gt_f (pc := 9) 25 dX3_hasLiteral_9 (by decide) (Int32.not_lt.mpr h2) ?_
        refine x_iload_n (pc := 12) 1 dX3_hasLiteral_12 rfl rfl ?_
        refine x_aload_n (pc := 13) 0 dX3_hasLiteral_13 rfl rfl ?_
        refine x_geti_l (pc := 14) dX3_hasLiteral_14 fX3_41 (zat_b rfl rfl) rfl rfl ?_
        refine x_ineg (pc := 17) dX3_hasLiteral_17 ?_
        refine x_icmp_lt_f (pc := 18) 25 dX3_hasLiteral_18 (by decide) (Int32.not_lt.mpr h3) ?_
        refine x_iconst (pc := 21) (nI 1) dX3_hasLiteral_21 (by decide) ?_
        refine x_goto (pc := 22) 26 dX3_hasLiteral_22 (by decide) ?_
        refine x_zret (pc := 26) dX3_hasLiteral_26 rfl (by decide) ?_
        exact ⟨rfl, rfl⟩
      · rw [decide_eq_false h3]
        refine x_iload_n (pc := 0) 1 dX3_hasLiteral_0 rfl rfl ?_
        refine x_if_eq_f (pc := 1) 25 dX3_hasLiteral_1 (by decide) (h1) ?_
        refine x_iload_n (pc := 4) 1 dX3_hasLiteral_4 rfl rfl ?_
        refine x_aload_n (pc := 5) 0 dX3_hasLiteral_5 rfl rfl ?_
        refine x_geti_l (pc := 6) dX3_hasLiteral_6 fX3_41 (zat_b rfl rfl) rfl rfl ?_
        refine x_icmp_gt_f (pc := 9) 25 dX3_hasLiteral_9 (by decide) (Int32.not_lt.mpr h2) ?_
        refine x_iload_n (pc := 12) 1 dX3_hasLiteral_12 rfl rfl ?_
        refine x_aload_n (pc := 13) 0 dX3_hasLiteral_13 rfl rfl ?_
        refine x_geti_l (pc := 14) dX3_hasLiteral_14 fX3_41 (zat_b rfl rfl) rfl rfl ?_
        refine x_ineg (pc := 17) dX3_hasLiteral_17 ?_
        refine x_icmp_lt_t (pc := 18) 25 dX3_hasLiteral_18 (by decide) (Int32.not_le.mp h3) ?_
        refine x_iconst (pc := 25) (nI 0) dX3_hasLiteral_25 (by decide) ?_
        refine x_zret (pc := 26) dX3_hasLiteral_26 rfl (by decide) ?_
        exact ⟨rfl, rfl⟩
    · rw [decide_eq_false h2, Bool.false_and]
      refine x_iload_n (pc := 0) 1 dX3_hasLiteral_0 rfl rfl ?_
      refine x_if_eq_f (pc := 1) 25 dX3_hasLiteral_1 (by decide) (h1) ?_
      refine x_iload_n (pc := 4) 1 dX3_hasLiteral_4 rfl rfl ?_
      refine x_aload_n (pc := 5) 0 dX3_hasLiteral_5 rfl rfl ?_
      refine x_geti_l (pc := 6) dX3_hasLiteral_6 fX3_41 (zat_b rfl rfl) rfl rfl ?_
      refine x_icmp_gt_t (pc := 9) 25 dX3_hasLiteral_9 (by decide) (Int32.not_le.mp h2) ?_
      refine x_iconst (pc := 25) (nI 0) dX3_hasLiteral_25 (by decide) ?_
      refine x_zret (pc := 26) dX3_hasLiteral_26 rfl (by decide) ?_
      exact ⟨rfl, rfl⟩
theorem s_phaseOf (d : Nat) (v : Int32) : zTr E (d + 2) mX3_phaseOf [.ref 10, .int v] (κ, α, τ) (some (.int (zbo (k_phaseOf κ v)))) (κ, α, τ) := by
  refine zM.tr (zM_of [some (.ref 10), some (.int v)] (by decide) rfl (Nat.le_of_ble_eq_true rfl) ?_)
  unfold k_phaseOf
  by_cases h : κ 10 5 &&& kb v = 0
  · rw [decide_eq_false (p := ¬ _) (by simpa using h)]
    refine x_aload_n (pc := 0) 0 dX3_phaseOf_0 rfl rfl ?_
    refine x_geti_l (pc := 1) dX3_phaseOf_1 fX3_44 (zat_b rfl rfl) rfl rfl ?_
    refine x_iload_n (pc := 4) 1 dX3_phaseOf_4 rfl rfl ?_
    refine x_callN1i (pc := 5) dX3_phaseOf_5 lX3_47 (s_bitOf d v) (Nat.le_of_ble_eq_true rfl) (Or.inl zgr) ?_
    refine x_iand (pc := 8) dX3_phaseOf_8 ?_
    refine x_if_eq_t (pc := 9) 16 dX3_phaseOf_9 (by decide) (h) ?_
    refine x_iconst (pc := 16) (nI 0) dX3_phaseOf_16 (by decide) ?_
    refine x_zret (pc := 17) dX3_phaseOf_17 rfl (by decide) ?_
    exact ⟨rfl, rfl⟩
  · rw [decide_eq_true h]
    refine x_aload_n (pc := 0) 0 dX3_phaseOf_0 rfl rfl ?_
    refine x_geti_l (pc := 1) dX3_phaseOf_1 fX3_44 (zat_b rfl rfl) rfl rfl ?_
    refine x_iload_n (pc := 4) 1 dX3_phaseOf_4 rfl rfl ?_
    refine x_callN1i (pc := 5) dX3_phaseOf_5 lX3_47 (s_bitOf d v) (Nat.le_of_ble_eq_true rfl) (Or.inl zgr) ?_
    refine x_iand (pc := 8) dX3_phaseOf_8 ?_
    refine x_if_eq_f (pc := 9) 16 dX3_phaseOf_9 (by decide) (h) ?_
    refine x_iconst (pc := 12) (nI 1) dX3_phaseOf_12 (by decide) ?_
    refine x_goto (pc := 13) 17 dX3_phaseOf_13 (by decide) ?_
    refine x_zret (pc := 17) dX3_phaseOf_17 rfl (by decide) ?_
    exact ⟨rfl, rfl⟩
theorem s_setPhase (d : Nat) (l : Int32) : zTr E (d + 2) mX3_setPhase [.ref 10, .int l] (κ, α, τ) none (k_setPhase κ l, α, τ) := by
  refine zM.tr (zM_of [some (.ref 10), some (.int l)] (by decide) rfl (Nat.le_of_ble_eq_true rfl) ?_)
  unfold k_setPhase
  by_cases h : 0 < l
  · rw [if_pos h]
    refine x_iload_n (pc := 0) 1 dX3_setPhase_0 rfl rfl ?_
    refine x_if_le_f (pc := 1) 20 dX3_setPhase_1 (by decide) (Int32.not_le.mpr h) ?_
    refine x_aload_n (pc := 4) 0 dX3_setPhase_4 rfl rfl ?_
    refine x_dup (pc := 5) dX3_setPhase_5 rfl ?_
    refine x_geti_l (pc := 6) dX3_setPhase_6 fX3_44 (zat_b rfl rfl) rfl rfl ?_
    refine x_iload_n (pc := 9) 1 dX3_setPhase_9 rfl rfl ?_
    refine x_callN1i (pc := 10) dX3_setPhase_10 lX3_47 (s_bitOf d l) (Nat.le_of_ble_eq_true rfl) (Or.inl zgr) ?_
    refine x_ior (pc := 13) dX3_setPhase_13 ?_
    refine x_puti_l (pc := 14) dX3_setPhase_14 pX3_44 (zat_b rfl rfl) rfl rfl ?_
    refine x_goto (pc := 17) 35 dX3_setPhase_17 (by decide) ?_
    refine x_vret (pc := 35) dX3_setPhase_35 rfl ?_
    exact ⟨rfl, rfl⟩
  · rw [if_neg h]
    refine x_iload_n (pc := 0) 1 dX3_setPhase_0 rfl rfl ?_
    refine x_if_le_t (pc := 1) 20 dX3_setPhase_1 (by decide) (Int32.not_lt.mp h) ?_
    refine x_aload_n (pc := 20) 0 dX3_setPhase_20 rfl rfl ?_
    refine x_dup (pc := 21) dX3_setPhase_21 rfl ?_
    refine x_geti_l (pc := 22) dX3_setPhase_22 fX3_44 (zat_b rfl rfl) rfl rfl ?_
    refine x_iload_n (pc := 25) 1 dX3_setPhase_25 rfl rfl ?_
    refine x_callN1i (pc := 26) dX3_setPhase_26 lX3_47 (s_bitOf d l) (Nat.le_of_ble_eq_true rfl) (Or.inl zgr) ?_
    refine x_iconst (pc := 29) (-1) dX3_setPhase_29 (by decide) ?_
    refine x_ixor (pc := 30) dX3_setPhase_30 ?_
    refine x_iand (pc := 31) dX3_setPhase_31 ?_
    refine x_puti_l (pc := 32) dX3_setPhase_32 pX3_44 (zat_b rfl rfl) rfl rfl ?_
    refine x_vret (pc := 35) dX3_setPhase_35 rfl ?_
    exact ⟨rfl, rfl⟩
theorem k_put_at {a : Nat → Nat → Int32} {p q : Nat} {l : Int32} (h : q ≠ p) (h1 : q ≠ p + 1) : k_put a p l q = a q := by
  funext j
  unfold k_put
  rw [zup_p h, zup_p h, zup_p h1]
theorem k_emp_at {a : Nat → Nat → Int32} {p q : Nat} (h : q ≠ p) : k_emp a p q = a q := by
  funext j
  unfold k_emp
  rw [zup_p h, zup_p h]
theorem k_put_len {a : Nat → Nat → Int32} {p : Nat} {l : Int32} : k_put a p l p 1 = a p 1 + nI 1 := by
  unfold k_put
  rw [zup_i (by decide), zup_same]
theorem l_rowCopy (d : Nat) {p q n n2 t : Nat} (hp : kRow τ p n) (hq : kRow τ q n2) (h1 : q ≠ p) (h2 : q ≠ p + 1) (h3 : q + 1 ≠ p) (ht : κ q 1 = nI t) (htn : t ≤ n) (htn2 : t ≤ n2) : ∀ m i a, i + m = t → a p 1 = nI i → a q = κ q → a (q + 1) = κ (q + 1) → zX E (d + 3) mX1_copyFrom 6 [some (.ref p), some (.ref q), some (.int (nI i))] [] (a, α, τ) (fun r ν => r = none ∧ ν = (zit (k_cpF κ p q) i m a, α, τ)) := by
  obtain ⟨zat_q, zar_q1, zln_q1, zrf_q_0, zrf_q_1, zrf_q_2, ble_q, ble_q1, hn2⟩ := id hq
  obtain ⟨zat_p, zar_p1, zln_p1, zrf_p_0, zrf_p_1, zrf_p_2, ble_p, ble_p1, hn⟩ := id hp
  intro m
  induction m with
  | zero =>
    intro i a hi ha hb hc
    refine x_iload_n (pc := 6) 2 dX1_copyFrom_6 rfl rfl ?_
    refine x_aload_n (pc := 7) 1 dX1_copyFrom_7 rfl rfl ?_
    refine x_geti_l (pc := 8) dX1_copyFrom_8 fX1_13 (zat_q _ _) zrf_q_1 ble_q ?_
    rw [hb, ht]
    refine x_icmp_ge_t (pc := 11) 30 dX1_copyFrom_11 (by decide) (nI_le (by omega) (by omega)) ?_
    refine x_vret (pc := 30) dX1_copyFrom_30 rfl ?_
    exact ⟨rfl, rfl⟩
  | succ m ih =>
    intro i a hi ha hb hc
    refine x_iload_n (pc := 6) 2 dX1_copyFrom_6 rfl rfl ?_
    refine x_aload_n (pc := 7) 1 dX1_copyFrom_7 rfl rfl ?_
    refine x_geti_l (pc := 8) dX1_copyFrom_8 fX1_13 (zat_q _ _) zrf_q_1 ble_q ?_
    rw [hb, ht]
    refine x_icmp_ge_f (pc := 11) 30 dX1_copyFrom_11 (by decide) (nI_ge (by omega) (by omega)) ?_
    refine x_aload_n (pc := 14) 0 dX1_copyFrom_14 rfl rfl ?_
    refine x_aload_n (pc := 15) 1 dX1_copyFrom_15 rfl rfl ?_
    refine x_getr (pc := 16) ((q + 1)) dX1_copyFrom_16 fX1_7 (zat_q _ _) zrf_q_0 ?_
    refine x_iload_n (pc := 19) 2 dX1_copyFrom_19 rfl rfl ?_
    have hj20 : i < n2 := by omega
    refine x_iald_l (pc := 20) (i) dX1_copyFrom_20 (zar_q1 _ _) ble_q1 (by first | rfl | simp only [pk_mul, nI_add] | simp only [zon, pk_mul, nI_add]) (by rw [zln_q1]; exact hj20) (Nat.lt_of_lt_of_le hj20 (by omega)) ?_
    rw [hc]
    refine x_callV1v (pc := 21) dX1_copyFrom_21 lX1_33 (zat_p _ _) rfl (s_rowPut (n := n) (t := i) d (κ (q + 1) i) hp ha (by omega)) (Nat.le_of_ble_eq_true rfl) (Or.inl zgr) ?_
    rw [if_pos (by omega)]
    refine x_iinc (pc := 24) (nI (i + 1)) dX1_copyFrom_24 rfl (zinc _) (by decide) rfl ?_
    refine x_goto (pc := 27) 6 dX1_copyFrom_27 (by decide) ?_
    refine ih (i + 1) (k_put a p (κ (q + 1) i)) (by omega) ?_ ?_ ?_
    · rw [k_put_len, ha, nI_add]
    · rw [k_put_at h1 h2]; exact hb
    · rw [k_put_at h3 (by omega)]; exact hc
theorem s_rowCopy (d : Nat) {p q n n2 t : Nat} (hp : kRow τ p n) (hq : kRow τ q n2) (h1 : q ≠ p) (h2 : q ≠ p + 1) (h3 : q + 1 ≠ p) (ht : κ q 1 = nI t) (htn : t ≤ n) (htn2 : t ≤ n2) : zTr E (d + 3) mX1_copyFrom [.ref p, .ref q] (κ, α, τ) none (k_cpR κ p q t, α, τ) := by
  obtain ⟨zat_q, zar_q1, zln_q1, zrf_q_0, zrf_q_1, zrf_q_2, ble_q, ble_q1, hn2⟩ := id hq
  obtain ⟨zat_p, zar_p1, zln_p1, zrf_p_0, zrf_p_1, zrf_p_2, ble_p, ble_p1, hn⟩ := id hp
  refine zM.tr (zM_of [some (.ref p), some (.ref q), none] (by decide) rfl (Nat.le_of_ble_eq_true rfl) ?_)
  refine x_aload_n (pc := 0) 0 dX1_copyFrom_0 rfl rfl ?_
  refine x_callV0v (pc := 1) dX1_copyFrom_1 lX1_30 (zat_p _ _) rfl (s_makeEmpty (d + 1) hp) (Nat.le_of_ble_eq_true rfl) (Or.inl zgr) ?_
  refine x_iconst (pc := 4) (nI 0) dX1_copyFrom_4 (by decide) ?_
  refine x_istore_n (pc := 5) 2 dX1_copyFrom_5 rfl (by decide) rfl ?_
  refine l_rowCopy d hp hq h1 h2 h3 ht htn htn2 t 0 (k_emp κ p) (by omega) ?_ ?_ ?_
  · unfold k_emp; rw [zup_i (by decide), zup_same]
  · rw [k_emp_at h1]
  · rw [k_emp_at h3]
end C4
