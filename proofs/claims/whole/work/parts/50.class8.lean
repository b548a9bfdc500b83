/-! the class's search: what is learnt, scores, leaps, starts anew -/
def k_imp (κ : Nat → Nat → Int32) (v : Nat) : Bool := if κ 72 v = -1 then false else decide (kM κ (κ 72 v).toNatClampNeg &&& (kb (nI v) ^^^ (-1)) &&& κ 3 14 &&& (κ 3 15 ^^^ (-1)) = 0)
def k_otB (κ : Nat → Nat → Int32) (l : Int32) (v : Nat) : Bool := decide (¬ κ 3 15 &&& kb (nI v) = 0) && (decide (κ 71 v = l) && (decide (l = κ 3 8) || !k_imp κ v))
def k_putc (a : Nat → Nat → Int32) (l : Int32) : Nat → Nat → Int32 := if (a 73 1).toNatClampNeg < 30 then k_put a 73 l else a
def k_otF (κ : Nat → Nat → Int32) (l : Int32) (v : Nat) (a : Nat → Nat → Int32) : Nat → Nat → Int32 := if k_otB κ l v = true then k_putc a (if κ 3 6 &&& kb (nI v) = 0 then nI v else -(nI v)) else a
def k_otL (κ : Nat → Nat → Int32) : Nat → (Nat → Nat → Int32) → (Nat → Nat → Int32)
  | 0, a => a
  | n + 1, a => k_otL κ n (zit (k_otF κ (nI (n + 1))) 1 (kV κ) a)
def k_order (κ : Nat → Nat → Int32) : Nat → Nat → Int32 := k_otL κ (κ 3 8).toNatClampNeg (k_emp κ 73)
def k_scF (κ : Nat → Nat → Int32) (v : Nat) (a : Nat → Nat → Int32) : Nat → Nat → Int32 := zup a 21 v (a 21 v + (if κ 3 16 &&& kb (nI v) = 0 then nI 0 else nI 16) - (a 21 v + (if κ 3 16 &&& kb (nI v) = 0 then nI 0 else nI 16)) / nI 8)
def k_raise (κ : Nat → Nat → Int32) : Nat → Nat → Int32 := zit (k_scF κ) 1 (kV κ) κ
/-- all but the row of what is learnt is as in κ -/
def kOf (κ a : Nat → Nat → Int32) : Prop := ∀ p, p ≠ 73 → p ≠ 74 → a p = κ p
def kRv (κ : Nat → Nat → Int32) : Prop := ∀ v, 1 ≤ v → v ≤ kV κ → ¬ κ 3 15 &&& kb (nI v) = 0 → ¬ κ 72 v = -1 → ∃ c, c < 400 ∧ κ 72 v = nI c
def k_pwL : Nat → Nat → Nat → Nat
  | 0, _, p => p
  | n + 1, r, p => if 2 * p - 1 ≤ r then k_pwL n r (2 * p) else p
def k_lubL : Nat → Nat → Nat
  | 0, _ => 1
  | n + 1, r => if k_pwL 30 r 1 - 1 = r then k_pwL 30 r 1 / 2 else k_lubL n (r - (k_pwL 30 r 1 - 1))
def k_lub (i : Nat) : Nat := k_lubL 32 i
section C8
variable {E : zEnv} {κ α : Nat → Nat → Int32} {τ : (Nat → Nat → Int64) × (Nat → Nat)}
theorem s_imp (d : Nat) {v : Nat} (hv : v ≤ 30) (hr : ¬ κ 72 v = -1 → ∃ c, c < 400 ∧ κ 72 v = nI c) : zTr E (d + 2) mX2_isImplied [.ref 3, .int (nI v)] (κ, α, τ) (some (.int (zbo (k_imp κ v)))) (κ, α, τ) := by
  refine zM.tr (zM_of [some (.ref 3), some (.int (nI v)), none] (by decide) rfl (Nat.le_of_ble_eq_true rfl) ?_)
  unfold k_imp
  by_cases h : κ 72 v = -1
  · rw [if_pos h]
    refine x_aload_n (pc := 0) 0 dX2_isImplied_0 rfl rfl ?_
    refine x_getr (pc := 1) (72) dX2_isImplied_1 fX2_18 (zat_b rfl rfl) rfl ?_
    refine x_iload_n (pc := 4) 1 dX2_isImplied_4 rfl rfl ?_
    have hj5 : v < 31 := by omega
    refine x_iald_l (pc := 5) (v) dX2_isImplied_5 (zar_b rfl rfl rfl) rfl (by first | rfl | simp only [pk_mul, nI_add] | simp only [zon, pk_mul, nI_add]) hj5 (Nat.lt_of_lt_of_le hj5 (by decide)) ?_
    refine x_iconst (pc := 6) (-1) dX2_isImplied_6 (by decide) ?_
    refine x_icmp_ne_f (pc := 7) 12 dX2_isImplied_7 (by decide) (h) ?_
    refine x_iconst (pc := 10) (nI 0) dX2_isImplied_10 (by decide) ?_
    refine x_zret (pc := 11) dX2_isImplied_11 rfl (by decide) ?_
    exact ⟨rfl, rfl⟩
  · rw [if_neg h]
    obtain ⟨c, c1, c2⟩ := hr h
    have hcc : (κ 72 v).toNatClampNeg = c := by rw [c2]; exact nI_clamp (by omega)
    rw [hcc]
    refine x_aload_n (pc := 0) 0 dX2_isImplied_0 rfl rfl ?_
    refine x_getr (pc := 1) (72) dX2_isImplied_1 fX2_18 (zat_b rfl rfl) rfl ?_
    refine x_iload_n (pc := 4) 1 dX2_isImplied_4 rfl rfl ?_
    have hj5 : v < 31 := by omega
    refine x_iald_l (pc := 5) (v) dX2_isImplied_5 (zar_b rfl rfl rfl) rfl (by first | rfl | simp only [pk_mul, nI_add] | simp only [zon, pk_mul, nI_add]) hj5 (Nat.lt_of_lt_of_le hj5 (by decide)) ?_
    refine x_iconst (pc := 6) (-1) dX2_isImplied_6 (by decide) ?_
    refine x_icmp_ne_t (pc := 7) 12 dX2_isImplied_7 (by decide) (h) ?_
    refine x_aload_n (pc := 12) 0 dX2_isImplied_12 rfl rfl ?_
    refine x_getr (pc := 13) (10) dX2_isImplied_13 fX2_30 (zat_b rfl rfl) rfl ?_
    refine x_getr (pc := 16) (11) dX2_isImplied_16 fX2_120 (zat_b rfl rfl) rfl ?_
    refine x_aload_n (pc := 19) 0 dX2_isImplied_19 rfl rfl ?_
    refine x_getr (pc := 20) (72) dX2_isImplied_20 fX2_18 (zat_b rfl rfl) rfl ?_
    refine x_iload_n (pc := 23) 1 dX2_isImplied_23 rfl rfl ?_
    have hj24 : v < 31 := by omega
    refine x_iald_l (pc := 24) (v) dX2_isImplied_24 (zar_b rfl rfl rfl) rfl (by first | rfl | simp only [pk_mul, nI_add] | simp only [zon, pk_mul, nI_add]) hj24 (Nat.lt_of_lt_of_le hj24 (by decide)) ?_
    rw [c2]
    refine x_callV1i (pc := 25) dX2_isImplied_25 lX2_139 (zat_b rfl rfl) rfl (s_variablesOf d c1) (Nat.le_of_ble_eq_true rfl) (Or.inl zgr) ?_
    refine x_iload_n (pc := 28) 1 dX2_isImplied_28 rfl rfl ?_
    refine x_callN1i (pc := 29) dX2_isImplied_29 lX2_150 (s_bitOf d _) (Nat.le_of_ble_eq_true rfl) (Or.inl zgr) ?_
    refine x_iconst (pc := 32) (-1) dX2_isImplied_32 (by decide) ?_
    refine x_ixor (pc := 33) dX2_isImplied_33 ?_
    refine x_iand (pc := 34) dX2_isImplied_34 ?_
    refine x_istore_n (pc := 35) 2 dX2_isImplied_35 rfl (by decide) rfl ?_
    refine x_iload_n (pc := 36) 2 dX2_isImplied_36 rfl rfl ?_
    refine x_aload_n (pc := 37) 0 dX2_isImplied_37 rfl rfl ?_
    refine x_geti_l (pc := 38) dX2_isImplied_38 fX2_212 (zat_b rfl rfl) rfl rfl ?_
    refine x_iand (pc := 41) dX2_isImplied_41 ?_
    refine x_aload_n (pc := 42) 0 dX2_isImplied_42 rfl rfl ?_
    refine x_geti_l (pc := 43) dX2_isImplied_43 fX2_215 (zat_b rfl rfl) rfl rfl ?_
    refine x_iconst (pc := 46) (-1) dX2_isImplied_46 (by decide) ?_
    refine x_ixor (pc := 47) dX2_isImplied_47 ?_
    refine x_iand (pc := 48) dX2_isImplied_48 ?_
    by_cases h2 : kM κ c &&& (kb (nI v) ^^^ (-1)) &&& κ 3 14 &&& (κ 3 15 ^^^ (-1)) = 0
    · rw [decide_eq_true h2]
      refine x_if_ne_f (pc := 49) 56 dX2_isImplied_49 (by decide) (h2) ?_
      refine x_iconst (pc := 52) (nI 1) dX2_isImplied_52 (by decide) ?_
      refine x_goto (pc := 53) 57 dX2_isImplied_53 (by decide) ?_
      refine x_zret (pc := 57) dX2_isImplied_57 rfl (by decide) ?_
      exact ⟨rfl, rfl⟩
    · rw [decide_eq_false h2]
      refine x_if_ne_t (pc := 49) 56 dX2_isImplied_49 (by decide) (h2) ?_
      refine x_iconst (pc := 56) (nI 0) dX2_isImplied_56 (by decide) ?_
      refine x_zret (pc := 57) dX2_isImplied_57 rfl (by decide) ?_
      exact ⟨rfl, rfl⟩
theorem kOf.put {a : Nat → Nat → Int32} {l : Int32} (h : kOf κ a) : kOf κ (k_putc a l) := by
  intro p h1 h2
  unfold k_putc
  split
  · rw [k_put_at h1 h2]; exact h p h1 h2
  · exact h p h1 h2
theorem k_putc_len {a : Nat → Nat → Int32} {l : Int32} (h : ∃ t, t ≤ 30 ∧ a 73 1 = nI t) : ∃ t, t ≤ 30 ∧ k_putc a l 73 1 = nI t := by
  obtain ⟨t, h1, h2⟩ := h
  unfold k_putc
  have hc : (a 73 1).toNatClampNeg = t := by rw [h2]; exact nI_clamp (by omega)
  rw [hc]
  split
  · exact ⟨t + 1, by omega, by rw [k_put_len, h2, nI_add]⟩
  · exact ⟨t, h1, h2⟩
theorem kOf.otF {a : Nat → Nat → Int32} {l : Int32} {v : Nat} (h : kOf κ a) : kOf κ (k_otF κ l v a) := by
  unfold k_otF
  split
  · exact h.put
  · exact h
theorem k_otF_len {a : Nat → Nat → Int32} {l : Int32} {v : Nat} (h : ∃ t, t ≤ 30 ∧ a 73 1 = nI t) : ∃ t, t ≤ 30 ∧ k_otF κ l v a 73 1 = nI t := by
  unfold k_otF
  split
  · exact k_putc_len h
  · exact h
theorem k_otI {l : Int32} : ∀ m v (a : Nat → Nat → Int32), kOf κ a → (∃ t, t ≤ 30 ∧ a 73 1 = nI t) → kOf κ (zit (k_otF κ l) v m a) ∧ ∃ t, t ≤ 30 ∧ zit (k_otF κ l) v m a 73 1 = nI t := by
  intro m
  induction m with
  | zero => intro v a h1 h2; exact ⟨h1, h2⟩
  | succ m ih => intro v a h1 h2; exact ih (v + 1) _ h1.otF (k_otF_len h2)
theorem kimp_of {a : Nat → Nat → Int32} {v : Nat} (h : kOf κ a) : k_imp a v = k_imp κ v := by
  unfold k_imp kM
  rw [h 72 (by decide) (by decide), h 3 (by decide) (by decide), h 12 (by decide) (by decide), h 13 (by decide) (by decide)]
theorem l_otV (d : Nat) (hV : κ 10 4 = nI (kV κ)) (hV30 : kV κ ≤ 30) (hRv : kRv κ) {n : Nat} (hn : n ≤ 30) (P : Option Value → zMem → Prop) : ∀ m v a, v + m = kV κ + 1 → 1 ≤ v → kOf κ a → (∃ t, t ≤ 30 ∧ a 73 1 = nI t) → zX E (d + 3) mX2_orderAndTrim 102 [some (.ref 3), some (.int (nI n)), none] [] (zit (k_otF κ (nI n)) v m a, α, τ) P → zX E (d + 3) mX2_orderAndTrim 19 [some (.ref 3), some (.int (nI n)), some (.int (nI v))] [] (a, α, τ) P := by
  intro m
  induction m with
  | zero =>
    intro v a hv h1 ha hl k
    refine x_iload_n (pc := 19) 2 dX2_orderAndTrim_19 rfl rfl ?_
    refine x_aload_n (pc := 20) 0 dX2_orderAndTrim_20 rfl rfl ?_
    refine x_getr (pc := 21) (10) dX2_orderAndTrim_21 fX2_30 (zat_b rfl rfl) rfl ?_
    refine x_geti_l (pc := 24) dX2_orderAndTrim_24 fX2_108 (zat_b rfl rfl) rfl rfl ?_
    rw [ha 10 (by decide) (by decide), hV]
    refine x_icmp_gt_t (pc := 27) 102 dX2_orderAndTrim_27 (by decide) (nI_lt (by omega) (by omega)) ?_
    exact zX.sub (zs1 (zs1 (zsn zse))) k
  | succ m ih =>
    intro v a hv h1 ha hl k
    have step : zit (k_otF κ (nI n)) v (m + 1) a = zit (k_otF κ (nI n)) (v + 1) m (k_otF κ (nI n) v a) := rfl
    rw [step] at k
    have e3 := ha 3 (by decide) (by decide)
    have fin : ∀ a', k_otF κ (nI n) v a = a' → zX E (d + 3) mX2_orderAndTrim 96 [some (.ref 3), some (.int (nI n)), some (.int (nI v))] [] (a', α, τ) P := by
      intro a' e
      refine x_iinc (pc := 96) (nI (v + 1)) dX2_orderAndTrim_96 rfl (zinc _) (by decide) rfl ?_
      refine x_goto (pc := 99) 19 dX2_orderAndTrim_99 (by decide) ?_
      subst e
      exact ih (v + 1) (k_otF κ (nI n) v a) (by omega) (by omega) ha.otF (k_otF_len hl) k
    refine x_iload_n (pc := 19) 2 dX2_orderAndTrim_19 rfl rfl ?_
    refine x_aload_n (pc := 20) 0 dX2_orderAndTrim_20 rfl rfl ?_
    refine x_getr (pc := 21) (10) dX2_orderAndTrim_21 fX2_30 (zat_b rfl rfl) rfl ?_
    refine x_geti_l (pc := 24) dX2_orderAndTrim_24 fX2_108 (zat_b rfl rfl) rfl rfl ?_
    rw [ha 10 (by decide) (by decide), hV]
    refine x_icmp_gt_f (pc := 27) 102 dX2_orderAndTrim_27 (by decide) (nI_nlt (by omega) (by omega)) ?_
    refine x_aload_n (pc := 30) 0 dX2_orderAndTrim_30 rfl rfl ?_
    refine x_geti_l (pc := 31) dX2_orderAndTrim_31 fX2_215 (zat_b rfl rfl) rfl rfl ?_
    rw [e3]
    refine x_iload_n (pc := 34) 2 dX2_orderAndTrim_34 rfl rfl ?_
    refine x_callN1i (pc := 35) dX2_orderAndTrim_35 lX2_150 (s_bitOf (d + 1) _) (Nat.le_of_ble_eq_true rfl) (Or.inl zgr) ?_
    refine x_iand (pc := 38) dX2_orderAndTrim_38 ?_
    by_cases h2 : κ 3 15 &&& kb (nI v) = 0
    ·
      refine x_if_eq_t (pc := 39) 96 dX2_orderAndTrim_39 (by decide) (h2) ?_
      exact fin a (by unfold k_otF k_otB; rw [decide_eq_false (p := ¬ κ 3 15 &&& kb (nI v) = 0) (by simpa using h2)]; rfl)
    ·
      refine x_if_eq_f (pc := 39) 96 dX2_orderAndTrim_39 (by decide) (h2) ?_
      refine x_aload_n (pc := 42) 0 dX2_orderAndTrim_42 rfl rfl ?_
      refine x_getr (pc := 43) (71) dX2_orderAndTrim_43 fX2_15 (zat_b rfl rfl) rfl ?_
      refine x_iload_n (pc := 46) 2 dX2_orderAndTrim_46 rfl rfl ?_
      have hj47 : v < 31 := by omega
      refine x_iald_l (pc := 47) (v) dX2_orderAndTrim_47 (zar_b rfl rfl rfl) rfl (by first | rfl | simp only [pk_mul, nI_add] | simp only [zon, pk_mul, nI_add]) hj47 (Nat.lt_of_lt_of_le hj47 (by decide)) ?_
      rw [ha 71 (by decide) (by decide)]
      by_cases h3 : κ 71 v = nI n
      ·
        refine x_iload_n (pc := 48) 1 dX2_orderAndTrim_48 rfl rfl ?_
        refine x_icmp_eq_t (pc := 49) 55 dX2_orderAndTrim_49 (by decide) (h3) ?_
        refine x_iload_n (pc := 55) 1 dX2_orderAndTrim_55 rfl rfl ?_
        refine x_aload_n (pc := 56) 0 dX2_orderAndTrim_56 rfl rfl ?_
        refine x_geti_l (pc := 57) dX2_orderAndTrim_57 fX2_83 (zat_b rfl rfl) rfl rfl ?_
        rw [e3]
        have put : k_otB κ (nI n) v = true → zX E (d + 3) mX2_orderAndTrim 71 [some (.ref 3), some (.int (nI n)), some (.int (nI v))] [] (a, α, τ) P := by
          intro hB
          have e : k_otF κ (nI n) v a = k_putc a (if κ 3 6 &&& kb (nI v) = 0 then nI v else -(nI v)) := by unfold k_otF; rw [if_pos hB]
          obtain ⟨t, t30, ht⟩ := hl
          have hc : (a 73 1).toNatClampNeg = t := by rw [ht]; exact nI_clamp (by omega)
          refine x_aload_n (pc := 71) 0 dX2_orderAndTrim_71 rfl rfl ?_
          refine x_getr (pc := 72) (73) dX2_orderAndTrim_72 fX2_26 (zat_b rfl rfl) rfl ?_
          refine x_aload_n (pc := 75) 0 dX2_orderAndTrim_75 rfl rfl ?_
          refine x_geti_l (pc := 76) dX2_orderAndTrim_76 fX2_77 (zat_b rfl rfl) rfl rfl ?_
          rw [e3]
          refine x_iload_n (pc := 79) 2 dX2_orderAndTrim_79 rfl rfl ?_
          refine x_callN1i (pc := 80) dX2_orderAndTrim_80 lX2_150 (s_bitOf (d + 1) _) (Nat.le_of_ble_eq_true rfl) (Or.inl zgr) ?_
          refine x_iand (pc := 83) dX2_orderAndTrim_83 ?_
          by_cases h6 : κ 3 6 &&& kb (nI v) = 0
          · rw [if_pos h6] at e
            refine x_if_eq_t (pc := 84) 92 dX2_orderAndTrim_84 (by decide) (h6) ?_
            refine x_iload_n (pc := 92) 2 dX2_orderAndTrim_92 rfl rfl ?_
            refine x_callV1v (pc := 93) dX2_orderAndTrim_93 lX2_227 (zat_b rfl rfl) rfl (s_rowPut (n := 30) (t := t) d _ kRow73 ht t30) (Nat.le_of_ble_eq_true rfl) (Or.inl zgr) ?_
            refine fin _ (e.trans ?_)
            unfold k_putc
            rw [hc]
          · rw [if_neg h6] at e
            refine x_if_eq_f (pc := 84) 92 dX2_orderAndTrim_84 (by decide) (h6) ?_
            refine x_iload_n (pc := 87) 2 dX2_orderAndTrim_87 rfl rfl ?_
            refine x_ineg (pc := 88) dX2_orderAndTrim_88 ?_
            refine x_goto (pc := 89) 93 dX2_orderAndTrim_89 (by decide) ?_
            refine x_callV1v (pc := 93) dX2_orderAndTrim_93 lX2_227 (zat_b rfl rfl) rfl (s_rowPut (n := 30) (t := t) d _ kRow73 ht t30) (Nat.le_of_ble_eq_true rfl) (Or.inl zgr) ?_
            refine fin _ (e.trans ?_)
            unfold k_putc
            rw [hc]
        by_cases h4 : nI n = κ 3 8
        ·
          refine x_icmp_eq_t (pc := 60) 71 dX2_orderAndTrim_60 (by decide) (h4) ?_
          exact put (by unfold k_otB; rw [decide_eq_true h2, decide_eq_true h3, decide_eq_true h4]; rfl)
        ·
          refine x_icmp_eq_f (pc := 60) 71 dX2_orderAndTrim_60 (by decide) (h4) ?_
          refine x_aload_n (pc := 63) 0 dX2_orderAndTrim_63 rfl rfl ?_
          refine x_iload_n (pc := 64) 2 dX2_orderAndTrim_64 rfl rfl ?_
          refine x_callV1i (pc := 65) dX2_orderAndTrim_65 lX2_224 (zat_b rfl rfl) rfl (s_imp d (by omega) (fun q => by rw [ha 72 (by decide) (by decide)] at q ⊢; exact hRv v h1 (by omega) h2 q)) (Nat.le_of_ble_eq_true rfl) (Or.inl zgr) ?_
          rw [kimp_of ha]
          cases h5 : k_imp κ v with
          | true =>
            refine x_if_ne_t (pc := 68) 96 dX2_orderAndTrim_68 (by decide) (by decide) ?_
            exact fin a (by unfold k_otF k_otB; rw [decide_eq_false h4, h5]; simp)
          | false =>
            refine x_if_ne_f (pc := 68) 96 dX2_orderAndTrim_68 (by decide) (rfl) ?_
            exact put (by unfold k_otB; rw [decide_eq_true h2, decide_eq_true h3, h5]; simp)
      ·
        refine x_iload_n (pc := 48) 1 dX2_orderAndTrim_48 rfl rfl ?_
        refine x_icmp_eq_f (pc := 49) 55 dX2_orderAndTrim_49 (by decide) (h3) ?_
        refine x_goto (pc := 52) 96 dX2_orderAndTrim_52 (by decide) ?_
        exact fin a (by unfold k_otF k_otB; rw [decide_eq_false h3]; simp)
theorem l_order (d : Nat) (hV : κ 10 4 = nI (kV κ)) (hV30 : kV κ ≤ 30) (hRv : kRv κ) : ∀ n a, n ≤ 30 → kOf κ a → (∃ t, t ≤ 30 ∧ a 73 1 = nI t) → zX E (d + 3) mX2_orderAndTrim 12 [some (.ref 3), some (.int (nI n)), none] [] (a, α, τ) (fun r ν => r = none ∧ ν = (k_otL κ n a, α, τ)) := by
  intro n
  induction n with
  | zero =>
    intro a hn ha hl
    refine x_iload_n (pc := 12) 1 dX2_orderAndTrim_12 rfl rfl ?_
    refine x_iconst (pc := 13) (nI 1) dX2_orderAndTrim_13 (by decide) ?_
    refine x_icmp_lt_t (pc := 14) 108 dX2_orderAndTrim_14 (by decide) (by decide) ?_
    refine x_vret (pc := 108) dX2_orderAndTrim_108 rfl ?_
    exact ⟨rfl, rfl⟩
  | succ n ih =>
    intro a hn ha hl
    refine x_iload_n (pc := 12) 1 dX2_orderAndTrim_12 rfl rfl ?_
    refine x_iconst (pc := 13) (nI 1) dX2_orderAndTrim_13 (by decide) ?_
    refine x_icmp_lt_f (pc := 14) 108 dX2_orderAndTrim_14 (by decide) (nI_nlt (by omega) (by omega)) ?_
    refine x_iconst (pc := 17) (nI 1) dX2_orderAndTrim_17 (by decide) ?_
    refine x_istore_n (pc := 18) 2 dX2_orderAndTrim_18 rfl (by decide) rfl ?_
    obtain ⟨i1, i2⟩ := k_otI (l := nI (n + 1)) (kV κ) 1 a ha hl
    refine l_otV d hV hV30 hRv (by omega) _ (kV κ) 1 a (by omega) (by omega) ha hl ?_
    refine x_iinc (pc := 102) (nI (n)) dX2_orderAndTrim_102 rfl (zdec _) (by decide) rfl ?_
    refine x_goto (pc := 105) 12 dX2_orderAndTrim_105 (by decide) ?_
    exact ih _ (by omega) i1 i2
theorem s_order (d : Nat) (hV : κ 10 4 = nI (kV κ)) (hV30 : kV κ ≤ 30) (hRv : kRv κ) {n : Nat} (hn : n ≤ 30) (hlev : κ 3 8 = nI n) : zTr E (d + 3) mX2_orderAndTrim [.ref 3] (κ, α, τ) none (k_order κ, α, τ) := by
  have hc : (κ 3 8).toNatClampNeg = n := by rw [hlev]; exact nI_clamp (by omega)
  refine zM.tr (zM_of [some (.ref 3), none, none] (by decide) rfl (Nat.le_of_ble_eq_true rfl) ?_)
  unfold k_order
  rw [hc]
  refine x_aload_n (pc := 0) 0 dX2_orderAndTrim_0 rfl rfl ?_
  refine x_getr (pc := 1) (73) dX2_orderAndTrim_1 fX2_26 (zat_b rfl rfl) rfl ?_
  refine x_callV0v (pc := 4) dX2_orderAndTrim_4 lX2_221 (zat_b rfl rfl) rfl (s_makeEmpty (n := 30) (d + 1) kRow73) (Nat.le_of_ble_eq_true rfl) (Or.inl zgr) ?_
  refine x_aload_n (pc := 7) 0 dX2_orderAndTrim_7 rfl rfl ?_
  refine x_geti_l (pc := 8) dX2_orderAndTrim_8 fX2_83 (zat_b rfl rfl) rfl rfl ?_
  rw [k_emp_at (by decide), hlev]
  refine x_istore_n (pc := 11) 1 dX2_orderAndTrim_11 rfl (by decide) rfl ?_
  exact l_order d hV hV30 hRv n (k_emp κ 73) hn (fun p h1 h2 => k_emp_at h1) ⟨0, by omega, by unfold k_emp; rw [zup_i (by decide), zup_same]⟩
theorem l_raise (d : Nat) (hV : κ 10 4 = nI (kV κ)) (hV30 : kV κ ≤ 30) : ∀ m v a, v + m = kV κ + 1 → 1 ≤ v → (∀ p, p ≠ 21 → a p = κ p) → zX E (d + 2) mX2_raiseScores 2 [some (.ref 3), some (.int (nI v)), none] [] (a, α, τ) (fun r ν => r = none ∧ ν = (zit (k_scF κ) v m a, α, τ)) := by
  intro m
  induction m with
  | zero =>
    intro v a hv h1 ha
    refine x_iload_n (pc := 2) 1 dX2_raiseScores_2 rfl rfl ?_
    refine x_aload_n (pc := 3) 0 dX2_raiseScores_3 rfl rfl ?_
    refine x_getr (pc := 4) (10) dX2_raiseScores_4 fX2_30 (zat_b rfl rfl) rfl ?_
    refine x_geti_l (pc := 7) dX2_raiseScores_7 fX2_108 (zat_b rfl rfl) rfl rfl ?_
    rw [ha 10 (by decide), hV]
    refine x_icmp_gt_t (pc := 10) 63 dX2_raiseScores_10 (by decide) (nI_lt (by omega) (by omega)) ?_
    refine x_vret (pc := 63) dX2_raiseScores_63 rfl ?_
    exact ⟨rfl, rfl⟩
  | succ m ih =>
    intro v a hv h1 ha
    have step : zit (k_scF κ) v (m + 1) a = zit (k_scF κ) (v + 1) m (k_scF κ v a) := rfl
    rw [step]
    have hk : ∀ p, p ≠ 21 → k_scF κ v a p = κ p := fun p hp => by funext j; unfold k_scF; rw [zup_p hp, ha p hp]
    refine x_iload_n (pc := 2) 1 dX2_raiseScores_2 rfl rfl ?_
    refine x_aload_n (pc := 3) 0 dX2_raiseScores_3 rfl rfl ?_
    refine x_getr (pc := 4) (10) dX2_raiseScores_4 fX2_30 (zat_b rfl rfl) rfl ?_
    refine x_geti_l (pc := 7) dX2_raiseScores_7 fX2_108 (zat_b rfl rfl) rfl rfl ?_
    rw [ha 10 (by decide), hV]
    refine x_icmp_gt_f (pc := 10) 63 dX2_raiseScores_10 (by decide) (nI_nlt (by omega) (by omega)) ?_
    refine x_aload_n (pc := 13) 0 dX2_raiseScores_13 rfl rfl ?_
    refine x_getr (pc := 14) (10) dX2_raiseScores_14 fX2_30 (zat_b rfl rfl) rfl ?_
    refine x_getr (pc := 17) (21) dX2_raiseScores_17 fX2_177 (zat_b rfl rfl) rfl ?_
    refine x_iload_n (pc := 20) 1 dX2_raiseScores_20 rfl rfl ?_
    have hj21 : v < 31 := by omega
    refine x_iald_l (pc := 21) (v) dX2_raiseScores_21 (zar_b rfl rfl rfl) rfl (by first | rfl | simp only [pk_mul, nI_add] | simp only [zon, pk_mul, nI_add]) hj21 (Nat.lt_of_lt_of_le hj21 (by decide)) ?_
    refine x_aload_n (pc := 22) 0 dX2_raiseScores_22 rfl rfl ?_
    refine x_geti_l (pc := 23) dX2_raiseScores_23 fX2_218 (zat_b rfl rfl) rfl rfl ?_
    rw [ha 3 (by decide)]
    refine x_iload_n (pc := 26) 1 dX2_raiseScores_26 rfl rfl ?_
    refine x_callN1i (pc := 27) dX2_raiseScores_27 lX2_150 (s_bitOf d _) (Nat.le_of_ble_eq_true rfl) (Or.inl zgr) ?_
    refine x_iand (pc := 30) dX2_raiseScores_30 ?_
    have fin : zX E (d + 2) mX2_raiseScores 57 [some (.ref 3), some (.int (nI v)), none] [] (k_scF κ v a, α, τ) (fun r ν => r = none ∧ ν = (zit (k_scF κ) (v + 1) m (k_scF κ v a), α, τ)) := by
      refine x_iinc (pc := 57) (nI (v + 1)) dX2_raiseScores_57 rfl (zinc _) (by decide) rfl ?_
      refine x_goto (pc := 60) 2 dX2_raiseScores_60 (by decide) ?_
      exact ih (v + 1) _ (by omega) (by omega) hk
    unfold k_scF at fin ⊢
    by_cases h : κ 3 16 &&& kb (nI v) = 0
    · rw [if_pos h] at fin ⊢
      refine x_if_eq_t (pc := 31) 39 dX2_raiseScores_31 (by decide) (h) ?_
      refine x_iconst (pc := 39) (nI 0) dX2_raiseScores_39 (by decide) ?_
      refine x_iadd (pc := 40) dX2_raiseScores_40 ?_
      refine x_istore_n (pc := 41) 2 dX2_raiseScores_41 rfl (by decide) rfl ?_
      refine x_aload_n (pc := 42) 0 dX2_raiseScores_42 rfl rfl ?_
      refine x_getr (pc := 43) (10) dX2_raiseScores_43 fX2_30 (zat_b rfl rfl) rfl ?_
      refine x_getr (pc := 46) (21) dX2_raiseScores_46 fX2_177 (zat_b rfl rfl) rfl ?_
      refine x_iload_n (pc := 49) 1 dX2_raiseScores_49 rfl rfl ?_
      refine x_iload_n (pc := 50) 2 dX2_raiseScores_50 rfl rfl ?_
      refine x_iload_n (pc := 51) 2 dX2_raiseScores_51 rfl rfl ?_
      refine x_bipush (pc := 52) (nI 8) dX2_raiseScores_52 (by decide) ?_
      refine x_idiv (pc := 54) dX2_raiseScores_54 (by decide) ?_
      refine x_isub (pc := 55) dX2_raiseScores_55 ?_
      have hj56 : v < 31 := by omega
      refine x_iast_l (pc := 56) (v) dX2_raiseScores_56 (zar_b rfl rfl rfl) rfl (by first | rfl | simp only [pk_mul, nI_add] | simp only [zon, pk_mul, nI_add]) hj56 (Nat.lt_of_lt_of_le hj56 (by decide)) ?_
      exact zX.sub (zs1 (zs1 (zsn zse))) fin
    · rw [if_neg h] at fin ⊢
      refine x_if_eq_f (pc := 31) 39 dX2_raiseScores_31 (by decide) (h) ?_
      refine x_bipush (pc := 34) (nI 16) dX2_raiseScores_34 (by decide) ?_
      refine x_goto (pc := 36) 40 dX2_raiseScores_36 (by decide) ?_
      refine x_iadd (pc := 40) dX2_raiseScores_40 ?_
      refine x_istore_n (pc := 41) 2 dX2_raiseScores_41 rfl (by decide) rfl ?_
      refine x_aload_n (pc := 42) 0 dX2_raiseScores_42 rfl rfl ?_
      refine x_getr (pc := 43) (10) dX2_raiseScores_43 fX2_30 (zat_b rfl rfl) rfl ?_
      refine x_getr (pc := 46) (21) dX2_raiseScores_46 fX2_177 (zat_b rfl rfl) rfl ?_
      refine x_iload_n (pc := 49) 1 dX2_raiseScores_49 rfl rfl ?_
      refine x_iload_n (pc := 50) 2 dX2_raiseScores_50 rfl rfl ?_
      refine x_iload_n (pc := 51) 2 dX2_raiseScores_51 rfl rfl ?_
      refine x_bipush (pc := 52) (nI 8) dX2_raiseScores_52 (by decide) ?_
      refine x_idiv (pc := 54) dX2_raiseScores_54 (by decide) ?_
      refine x_isub (pc := 55) dX2_raiseScores_55 ?_
      have hj56 : v < 31 := by omega
      refine x_iast_l (pc := 56) (v) dX2_raiseScores_56 (zar_b rfl rfl rfl) rfl (by first | rfl | simp only [pk_mul, nI_add] | simp only [zon, pk_mul, nI_add]) hj56 (Nat.lt_of_lt_of_le hj56 (by decide)) ?_
      exact zX.sub (zs1 (zs1 (zsn zse))) fin
theorem s_raise (d : Nat) (hV : κ 10 4 = nI (kV κ)) (hV30 : kV κ ≤ 30) : zTr E (d + 2) mX2_raiseScores [.ref 3] (κ, α, τ) none (k_raise κ, α, τ) := by
  refine zM.tr (zM_of [some (.ref 3), none, none] (by decide) rfl (Nat.le_of_ble_eq_true rfl) ?_)
  refine x_iconst (pc := 0) (nI 1) dX2_raiseScores_0 (by decide) ?_
  refine x_istore_n (pc := 1) 1 dX2_raiseScores_1 rfl (by decide) rfl ?_
  exact l_raise d hV hV30 (kV κ) 1 κ (by omega) (by omega) (fun p _ => rfl)
end C8
