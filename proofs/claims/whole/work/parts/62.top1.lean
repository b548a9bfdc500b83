/-! the class: its calls, first half -/
def k_feed (κ : Nat → Nat → Int32) (a b c e f : Int32) : Int32 × (Nat → Nat → Int32) := if nI 400 < κ 5 5 + nI 20 then (-1, κ) else (k_apN (k_apN (k_apN (k_apN (k_apN κ a) b) c) e) f 5 5, k_apN (k_apN (k_apN (k_apN (k_apN κ a) b) c) e) f)
def k_end (κ : Nat → Nat → Int32) (n : Int32) : Int32 × (Nat → Nat → Int32) := if n < 0 ∨ κ 5 5 < n then (nI 0, κ) else (nI 1, zup κ 5 5 n)
def k_te0 (κ : Nat → Nat → Int32) : Nat → Nat → Int32 := zup (k_start κ) 5 5 (nI 0)
def k_tell (κ : Nat → Nat → Int32) (τ : (Nat → Nat → Int64) × (Nat → Nat)) : Int32 × (Nat → Nat → Int32) × ((Nat → Nat → Int64) × (Nat → Nat)) :=
  if (k_read (k_te0 κ) τ false).1 = -1 then (-1, (k_read (k_te0 κ) τ false).2) else k_read (k_read (k_te0 κ) τ false).2.1 (k_read (k_te0 κ) τ false).2.2 true
def k_grow (κ : Nat → Nat → Int32) (n : Int32) : Int32 × (Nat → Nat → Int32) := if n < nI 1 ∨ nI 30 - κ 10 4 < n then (-1, κ) else (κ 10 4 + n, zup κ 10 4 (κ 10 4 + n))
def k_more (κ : Nat → Nat → Int32) (p : Nat) (l : Int32) : Int32 × (Nat → Nat → Int32) := if (k_hasLit κ l && (decide ((κ p 1).toNatClampNeg < 8) && decide (κ p 2 &&& kb l = 0))) = true then (κ p 1 + nI 1, k_put κ p l) else (-1, κ)
def k_close (κ : Nat → Nat → Int32) (τ : (Nat → Nat → Int64) × (Nat → Nat)) : Int32 × (Nat → Nat → Int32) × ((Nat → Nat → Int64) × (Nat → Nat)) :=
  if κ 17 1 = 0 ∨ (decide (nI 80 ≤ κ 11 6) || decide (400 ≤ kN κ)) = true then (-1, κ, τ) else (nI (kN κ), k_emp (k_app (k_rmK κ τ (kS κ (kN κ) + (κ 17 1).toNatClampNeg)) 17 (kN κ) (κ 17 1).toNatClampNeg false) 17, k_rmT τ (kS κ (kN κ) + (κ 17 1).toNatClampNeg))
def k_phase (κ : Nat → Nat → Int32) (l : Int32) : Int32 × (Nat → Nat → Int32) := if k_hasLit κ l = true ∧ ¬ k_phaseOf κ (zab l) = decide (0 < l) then (nI 1, k_setPhase κ l) else (nI 0, κ)
def k_unit (κ : Nat → Nat → Int32) (n : Int32) : Int32 × (Nat → Nat → Int32) := if n < 0 ∨ nI 50 < n ∨ n = κ 10 6 then (nI 0, κ) else (nI 1, zup κ 10 6 n)
def k_forget (κ : Nat → Nat → Int32) (n : Int32) : Int32 × (Nat → Nat → Int32) := if (decide (nI 1 ≤ n) && decide (n ≤ nI 30)) = true then (nI (zit (k_drF κ n.toNatClampNeg) 0 (kN κ) (0, κ)).1, (zit (k_drF κ n.toNatClampNeg) 0 (kN κ) (0, κ)).2) else (-1, κ)
def k_solve (n : Nat) (κ : Nat → Nat → Int32) (τ : (Nat → Nat → Int64) × (Nat → Nat)) (b : Int32) : Int32 × (Nat → Nat → Int32) × ((Nat → Nat → Int64) × (Nat → Nat)) := if (decide (nI 1 ≤ b) && decide (b ≤ nI 200)) = true then k_run n κ τ b else (-1, κ, τ)
section O1
variable {E : zEnv} {κ α : Nat → Nat → Int32} {τ : (Nat → Nat → Int64) × (Nat → Nat)}
theorem k_apN_len {w : Int32} {n : Nat} (h : κ 5 5 = nI n) : k_apN κ w 5 5 = nI (n + 4) := by
  unfold k_apN
  exact k_ap1_len (k_ap1_len (k_ap1_len (k_ap1_len h)))
theorem s_feed (d : Nat) (a b c e f : Int32) {t : Nat} (ht : κ 5 5 = nI t) (ht4 : t ≤ 400) : zTr E (d + 2) mX8_feed [.ref 0, .int a, .int b, .int c, .int e, .int f] (κ, α, τ) (some (.int (k_feed κ a b c e f).1)) ((k_feed κ a b c e f).2, α, τ) := by
  refine zM.tr (zM_of [some (.ref 0), some (.int a), some (.int b), some (.int c), some (.int e), some (.int f)] (by decide) rfl (Nat.le_of_ble_eq_true rfl) ?_)
  unfold k_feed
  by_cases h : nI 400 < κ 5 5 + nI 20
  · rw [if_pos h]
    refine x_aload_n (pc := 0) 0 dX8_feed_0 rfl rfl ?_
    refine x_getr (pc := 1) (5) dX8_feed_1 fX8_39 (zat_b rfl rfl) rfl ?_
    refine x_geti_l (pc := 4) dX8_feed_4 fX8_59 (zat_b rfl rfl) rfl rfl ?_
    refine x_bipush (pc := 7) (nI 20) dX8_feed_7 (by decide) ?_
    refine x_iadd (pc := 9) dX8_feed_9 ?_
    refine x_sipush (pc := 10) (nI 400) dX8_feed_10 (by decide) ?_
    refine x_icmp_le_f (pc := 13) 18 dX8_feed_13 (by decide) (Int32.not_le.mpr h) ?_
    refine x_iconst (pc := 16) (-1) dX8_feed_16 (by decide) ?_
    refine x_iret (pc := 17) dX8_feed_17 rfl ?_
    exact ⟨rfl, rfl⟩
  · rw [if_neg h]
    have h2 : t + 20 ≤ 400 := by
      rw [ht, nI_add] at h
      rcases Nat.lt_or_ge 400 (t + 20) with q | q
      · exact absurd (nI_lt q (by omega)) h
      · exact q
    have e1 := k_apN_len (w := a) ht
    have e2 := k_apN_len (w := b) e1
    have e3 := k_apN_len (w := c) e2
    have e4 := k_apN_len (w := e) e3
    refine x_aload_n (pc := 0) 0 dX8_feed_0 rfl rfl ?_
    refine x_getr (pc := 1) (5) dX8_feed_1 fX8_39 (zat_b rfl rfl) rfl ?_
    refine x_geti_l (pc := 4) dX8_feed_4 fX8_59 (zat_b rfl rfl) rfl rfl ?_
    refine x_bipush (pc := 7) (nI 20) dX8_feed_7 (by decide) ?_
    refine x_iadd (pc := 9) dX8_feed_9 ?_
    refine x_sipush (pc := 10) (nI 400) dX8_feed_10 (by decide) ?_
    refine x_icmp_le_t (pc := 13) 18 dX8_feed_13 (by decide) (Int32.not_lt.mp h) ?_
    refine x_aload_n (pc := 18) 0 dX8_feed_18 rfl rfl ?_
    refine x_getr (pc := 19) (5) dX8_feed_19 fX8_39 (zat_b rfl rfl) rfl ?_
    refine x_iload_n (pc := 22) 1 dX8_feed_22 rfl rfl ?_
    refine x_callV1v (pc := 23) dX8_feed_23 lX8_63 (zat_b rfl rfl) rfl (s_appendNumber d a ht (by omega)) (Nat.le_of_ble_eq_true rfl) (Or.inl zgr) ?_
    refine x_aload_n (pc := 26) 0 dX8_feed_26 rfl rfl ?_
    refine x_getr (pc := 27) (5) dX8_feed_27 fX8_39 (zat_b rfl rfl) rfl ?_
    refine x_iload_n (pc := 30) 2 dX8_feed_30 rfl rfl ?_
    refine x_callV1v (pc := 31) dX8_feed_31 lX8_63 (zat_b rfl rfl) rfl (s_appendNumber d b e1 (by omega)) (Nat.le_of_ble_eq_true rfl) (Or.inl zgr) ?_
    refine x_aload_n (pc := 34) 0 dX8_feed_34 rfl rfl ?_
    refine x_getr (pc := 35) (5) dX8_feed_35 fX8_39 (zat_b rfl rfl) rfl ?_
    refine x_iload_n (pc := 38) 3 dX8_feed_38 rfl rfl ?_
    refine x_callV1v (pc := 39) dX8_feed_39 lX8_63 (zat_b rfl rfl) rfl (s_appendNumber d c e2 (by omega)) (Nat.le_of_ble_eq_true rfl) (Or.inl zgr) ?_
    refine x_aload_n (pc := 42) 0 dX8_feed_42 rfl rfl ?_
    refine x_getr (pc := 43) (5) dX8_feed_43 fX8_39 (zat_b rfl rfl) rfl ?_
    refine x_iload (pc := 46) dX8_feed_46 rfl ?_
    refine x_callV1v (pc := 48) dX8_feed_48 lX8_63 (zat_b rfl rfl) rfl (s_appendNumber d e e3 (by omega)) (Nat.le_of_ble_eq_true rfl) (Or.inl zgr) ?_
    refine x_aload_n (pc := 51) 0 dX8_feed_51 rfl rfl ?_
    refine x_getr (pc := 52) (5) dX8_feed_52 fX8_39 (zat_b rfl rfl) rfl ?_
    refine x_iload (pc := 55) dX8_feed_55 rfl ?_
    refine x_callV1v (pc := 57) dX8_feed_57 lX8_63 (zat_b rfl rfl) rfl (s_appendNumber d f e4 (by omega)) (Nat.le_of_ble_eq_true rfl) (Or.inl zgr) ?_
    refine x_aload_n (pc := 60) 0 dX8_feed_60 rfl rfl ?_
    refine x_getr (pc := 61) (5) dX8_feed_61 fX8_39 (zat_b rfl rfl) rfl ?_
    refine x_geti_l (pc := 64) dX8_feed_64 fX8_59 (zat_b rfl rfl) rfl rfl ?_
    refine x_iret (pc := 67) dX8_feed_67 rfl ?_
    exact ⟨rfl, rfl⟩
theorem s_end (d : Nat) (n : Int32) : zTr E (d + 1) mX8_end [.ref 0, .int n] (κ, α, τ) (some (.int (k_end κ n).1)) ((k_end κ n).2, α, τ) := by
  refine zM.tr (zM_of [some (.ref 0), some (.int n)] (by decide) rfl (Nat.le_of_ble_eq_true rfl) ?_)
  unfold k_end
  by_cases h : n < 0
  · rw [if_pos (Or.inl h)]
    refine x_iload_n (pc := 0) 1 dX8_end_0 rfl rfl ?_
    refine x_if_lt_t (pc := 1) 15 dX8_end_1 (by decide) (h) ?_
    refine x_iconst (pc := 15) (nI 0) dX8_end_15 (by decide) ?_
    refine x_zret (pc := 16) dX8_end_16 rfl (by decide) ?_
    exact ⟨rfl, rfl⟩
  · by_cases h2 : κ 5 5 < n
    · rw [if_pos (Or.inr h2)]
      refine x_iload_n (pc := 0) 1 dX8_end_0 rfl rfl ?_
      refine x_if_lt_f (pc := 1) 15 dX8_end_1 (by decide) (h) ?_
      refine x_iload_n (pc := 4) 1 dX8_end_4 rfl rfl ?_
      refine x_aload_n (pc := 5) 0 dX8_end_5 rfl rfl ?_
      refine x_getr (pc := 6) (5) dX8_end_6 fX8_39 (zat_b rfl rfl) rfl ?_
      refine x_geti_l (pc := 9) dX8_end_9 fX8_59 (zat_b rfl rfl) rfl rfl ?_
      refine x_icmp_le_f (pc := 12) 17 dX8_end_12 (by decide) (Int32.not_le.mpr h2) ?_
      refine x_iconst (pc := 15) (nI 0) dX8_end_15 (by decide) ?_
      refine x_zret (pc := 16) dX8_end_16 rfl (by decide) ?_
      exact ⟨rfl, rfl⟩
    · rw [if_neg (fun q => q.elim h h2)]
      refine x_iload_n (pc := 0) 1 dX8_end_0 rfl rfl ?_
      refine x_if_lt_f (pc := 1) 15 dX8_end_1 (by decide) (h) ?_
      refine x_iload_n (pc := 4) 1 dX8_end_4 rfl rfl ?_
      refine x_aload_n (pc := 5) 0 dX8_end_5 rfl rfl ?_
      refine x_getr (pc := 6) (5) dX8_end_6 fX8_39 (zat_b rfl rfl) rfl ?_
      refine x_geti_l (pc := 9) dX8_end_9 fX8_59 (zat_b rfl rfl) rfl rfl ?_
      refine x_icmp_le_t (pc := 12) 17 dX8_end_12 (by decide) (Int32.not_lt.mp h2) ?_
      refine x_aload_n (pc := 17) 0 dX8_end_17 rfl rfl ?_
      refine x_getr (pc := 18) (5) dX8_end_18 fX8_39 (zat_b rfl rfl) rfl ?_
      refine x_iload_n (pc := 21) 1 dX8_end_21 rfl rfl ?_
      refine x_puti_l (pc := 22) dX8_end_22 pX8_59 (zat_b rfl rfl) rfl rfl ?_
      refine x_iconst (pc := 25) (nI 1) dX8_end_25 (by decide) ?_
      refine x_zret (pc := 26) dX8_end_26 rfl (by decide) ?_
      exact ⟨rfl, rfl⟩
theorem k_rdL_ok {N : Nat} {b : Bool} : ∀ n c κ (τ : (Nat → Nat → Int64) × (Nat → Nat)), kX κ τ N b → ¬ (k_rdL n c κ τ).1 = -1 → kX (k_rdL n c κ τ).2.1 (k_rdL n c κ τ).2.2 N b
  | 0, c, κ, τ, h, _ => h
  | n + 1, c, κ, τ, h, hb => by
    unfold k_rdL at hb ⊢
    split at hb
    · rename_i g1
      rw [if_pos g1]
      exact h
    · rename_i g1
      rw [if_neg g1]
      split at hb
      · rename_i g2
        rw [if_pos g2]
        exact k_rdL_ok n (c + 1) _ _ ((h.stm g2).adv) hb
      · exact absurd rfl hb
theorem s_tell (d : Nat) {L : Nat} (hW : kW κ τ) (hL : κ 5 5 = nI L) (hL4 : L ≤ 400) : zTr E (d + 8) mX8_tell [.ref 0] (κ, α, τ) (some (.int (k_tell κ τ).1)) ((k_tell κ τ).2.1, α, (k_tell κ τ).2.2) := by
  obtain ⟨N, hs⟩ := k_start_tk hL hL4
  have ht0 : kTk (k_te0 κ) N 0 := by
    unfold kTk k_te0 at *
    rw [zup_i (by decide), zup_i (by decide)]
    exact hs
  have zs : ∀ p, p ≠ 5 → p ≠ 78 → p ≠ 79 → k_te0 κ p = κ p := fun p h1 h2 h3 => by
    unfold k_te0
    refine Eq.trans ?_ (k_start_p (κ := κ) h1 h2 h3)
    funext j
    rw [zup_p h1]
  have hW0 : kW (k_te0 κ) τ := hW.of (zs 11 (by decide) (by decide) (by decide)) (zs 15 (by decide) (by decide) (by decide))
  refine zM.tr (zM_of [some (.ref 0)] (by decide) rfl (Nat.le_of_ble_eq_true rfl) ?_)
  unfold k_tell
  refine x_aload_n (pc := 0) 0 dX8_tell_0 rfl rfl ?_
  refine x_getr (pc := 1) (5) dX8_tell_1 fX8_39 (zat_b rfl rfl) rfl ?_
  refine x_callV0v (pc := 4) dX8_tell_4 lX8_67 (zat_b rfl rfl) rfl (s_startReading d hL hL4) (Nat.le_of_ble_eq_true rfl) (Or.inl zgr) ?_
  refine x_aload_n (pc := 7) 0 dX8_tell_7 rfl rfl ?_
  refine x_getr (pc := 8) (5) dX8_tell_8 fX8_39 (zat_b rfl rfl) rfl ?_
  refine x_iconst (pc := 11) (nI 0) dX8_tell_11 (by decide) ?_
  refine x_puti_l (pc := 12) dX8_tell_12 pX8_59 (zat_b rfl rfl) rfl rfl ?_
  refine x_aload_n (pc := 15) 0 dX8_tell_15 rfl rfl ?_
  refine x_getr (pc := 16) (6) dX8_tell_16 fX8_48 (zat_b rfl rfl) rfl ?_
  refine x_iconst (pc := 19) (nI 0) dX8_tell_19 (by decide) ?_
  show zX E (d + 8) mX8_tell 20 [some (.ref 0)] [.int (zbo false), .ref 6] (k_te0 κ, α, τ) _
  refine x_callV1i (pc := 20) dX8_tell_20 lX8_70 (zat_b rfl rfl) rfl (s_read (d + 1) false ht0 hW0) (Nat.le_of_ble_eq_true rfl) (Or.inr (zfr_ok rfl)) ?_
  by_cases h : (k_read (k_te0 κ) τ false).1 = -1
  · rw [if_pos h]
    refine x_iconst (pc := 23) (-1) dX8_tell_23 (by decide) ?_
    refine x_icmp_ne_f (pc := 24) 31 dX8_tell_24 (by decide) (h) ?_
    refine x_iconst (pc := 27) (-1) dX8_tell_27 (by decide) ?_
    refine x_goto (pc := 28) 39 dX8_tell_28 (by decide) ?_
    refine x_iret (pc := 39) dX8_tell_39 rfl ?_
    exact ⟨rfl, rfl⟩
  · rw [if_neg h]
    obtain ⟨⟨a2, hk⟩, -, hW2⟩ := k_rdL_ok 401 0 _ _ (k_rd0_ok (τ := τ) false ht0 hW0) h
    refine x_iconst (pc := 23) (-1) dX8_tell_23 (by decide) ?_
    refine x_icmp_ne_t (pc := 24) 31 dX8_tell_24 (by decide) (h) ?_
    refine x_aload_n (pc := 31) 0 dX8_tell_31 rfl rfl ?_
    refine x_getr (pc := 32) (6) dX8_tell_32 fX8_48 (zat_b rfl rfl) rfl ?_
    refine x_iconst (pc := 35) (nI 1) dX8_tell_35 (by decide) ?_
    show zX E (d + 8) mX8_tell 36 [some (.ref 0)] [.int (zbo true), .ref 6] ((k_read (k_te0 κ) τ false).2.1, α, (k_read (k_te0 κ) τ false).2.2) _
    refine x_callV1i (pc := 36) dX8_tell_36 lX8_70 (zat_b rfl rfl) rfl (s_read (d + 1) true hk hW2) (Nat.le_of_ble_eq_true rfl) (Or.inr (zfr_ok rfl)) ?_
    refine x_iret (pc := 39) dX8_tell_39 rfl ?_
    exact ⟨rfl, rfl⟩
theorem s_fault (d : Nat) : zTr E (d + 1) mX8_fault [.ref 0] (κ, α, τ) (some (.int (κ 5 6))) (κ, α, τ) := by
  refine zM.tr (zM_of [some (.ref 0)] (by decide) rfl (Nat.le_of_ble_eq_true rfl) ?_)
  refine x_aload_n (pc := 0) 0 dX8_fault_0 rfl rfl ?_
  refine x_getr (pc := 1) (5) dX8_fault_1 fX8_39 (zat_b rfl rfl) rfl ?_
  refine x_geti_l (pc := 4) dX8_fault_4 fX8_74 (zat_b rfl rfl) rfl rfl ?_
  refine x_iret (pc := 7) dX8_fault_7 rfl ?_
  exact ⟨rfl, rfl⟩
theorem s_grow (d : Nat) (n : Int32) : zTr E (d + 1) mX8_grow [.ref 0, .int n] (κ, α, τ) (some (.int (k_grow κ n).1)) ((k_grow κ n).2, α, τ) := by
  refine zM.tr (zM_of [some (.ref 0), some (.int n)] (by decide) rfl (Nat.le_of_ble_eq_true rfl) ?_)
  unfold k_grow
  by_cases h : n < nI 1
  · rw [if_pos (Or.inl h)]
    refine x_iload_n (pc := 0) 1 dX8_grow_0 rfl rfl ?_
    refine x_iconst (pc := 1) (nI 1) dX8_grow_1 (by decide) ?_
    refine x_icmp_lt_t (pc := 2) 19 dX8_grow_2 (by decide) (h) ?_
    refine x_iconst (pc := 19) (-1) dX8_grow_19 (by decide) ?_
    refine x_iret (pc := 20) dX8_grow_20 rfl ?_
    exact ⟨rfl, rfl⟩
  · by_cases h2 : nI 30 - κ 10 4 < n
    · rw [if_pos (Or.inr h2)]
      refine x_iload_n (pc := 0) 1 dX8_grow_0 rfl rfl ?_
      refine x_iconst (pc := 1) (nI 1) dX8_grow_1 (by decide) ?_
      refine x_icmp_lt_f (pc := 2) 19 dX8_grow_2 (by decide) (h) ?_
      refine x_iload_n (pc := 5) 1 dX8_grow_5 rfl rfl ?_
      refine x_bipush (pc := 6) (nI 30) dX8_grow_6 (by decide) ?_
      refine x_aload_n (pc := 8) 0 dX8_grow_8 rfl rfl ?_
      refine x_getr (pc := 9) (10) dX8_grow_9 fX8_10 (zat_b rfl rfl) rfl ?_
      refine x_geti_l (pc := 12) dX8_grow_12 fX8_77 (zat_b rfl rfl) rfl rfl ?_
      refine x_isub (pc := 15) dX8_grow_15 ?_
      refine x_icmp_le_f (pc := 16) 21 dX8_grow_16 (by decide) (Int32.not_le.mpr h2) ?_
      refine x_iconst (pc := 19) (-1) dX8_grow_19 (by decide) ?_
      refine x_iret (pc := 20) dX8_grow_20 rfl ?_
      exact ⟨rfl, rfl⟩
    · rw [if_neg (fun q => q.elim h h2)]
      refine x_iload_n (pc := 0) 1 dX8_grow_0 rfl rfl ?_
      refine x_iconst (pc := 1) (nI 1) dX8_grow_1 (by decide) ?_
      refine x_icmp_lt_f (pc := 2) 19 dX8_grow_2 (by decide) (h) ?_
      refine x_iload_n (pc := 5) 1 dX8_grow_5 rfl rfl ?_
      refine x_bipush (pc := 6) (nI 30) dX8_grow_6 (by decide) ?_
      refine x_aload_n (pc := 8) 0 dX8_grow_8 rfl rfl ?_
      refine x_getr (pc := 9) (10) dX8_grow_9 fX8_10 (zat_b rfl rfl) rfl ?_
      refine x_geti_l (pc := 12) dX8_grow_12 fX8_77 (zat_b rfl rfl) rfl rfl ?_
      refine x_isub (pc := 15) dX8_grow_15 ?_
      refine x_icmp_le_t (pc := 16) 21 dX8_grow_16 (by decide) (Int32.not_lt.mp h2) ?_
      refine x_aload_n (pc := 21) 0 dX8_grow_21 rfl rfl ?_
      refine x_getr (pc := 22) (10) dX8_grow_22 fX8_10 (zat_b rfl rfl) rfl ?_
      refine x_dup (pc := 25) dX8_grow_25 rfl ?_
      refine x_geti_l (pc := 26) dX8_grow_26 fX8_77 (zat_b rfl rfl) rfl rfl ?_
      refine x_iload_n (pc := 29) 1 dX8_grow_29 rfl rfl ?_
      refine x_iadd (pc := 30) dX8_grow_30 ?_
      refine x_puti_l (pc := 31) dX8_grow_31 pX8_77 (zat_b rfl rfl) rfl rfl ?_
      refine x_aload_n (pc := 34) 0 dX8_grow_34 rfl rfl ?_
      refine x_getr (pc := 35) (10) dX8_grow_35 fX8_10 (zat_b rfl rfl) rfl ?_
      refine x_geti_l (pc := 38) dX8_grow_38 fX8_77 (zat_b rfl rfl) rfl rfl ?_
      rw [zup_same]
      refine x_iret (pc := 41) dX8_grow_41 rfl ?_
      exact ⟨rfl, rfl⟩
theorem s_more (d : Nat) (l : Int32) {p t : Nat} (hr : kRow τ p 8) (ht : κ p 1 = nI t) (ht8 : t ≤ 8) : zTr E (d + 3) mX8_takeMore [.ref 0, .ref p, .int l] (κ, α, τ) (some (.int (k_more κ p l).1)) ((k_more κ p l).2, α, τ) := by
  obtain ⟨zat_p, zar_p1, zln_p1, zrf_p_0, zrf_p_1, zrf_p_2, ble_p, ble_p1, hn⟩ := id hr
  have c : (κ p 1).toNatClampNeg = t := by rw [ht]; exact nI_clamp (by omega)
  refine zM.tr (zM_of [some (.ref 0), some (.ref p), some (.int l)] (by decide) rfl (Nat.le_of_ble_eq_true rfl) ?_)
  unfold k_more
  rw [c]
  refine x_aload_n (pc := 0) 0 dX8_takeMore_0 rfl rfl ?_
  refine x_getr (pc := 1) (10) dX8_takeMore_1 fX8_10 (zat_b rfl rfl) rfl ?_
  refine x_iload_n (pc := 4) 2 dX8_takeMore_4 rfl rfl ?_
  refine x_callV1i (pc := 5) dX8_takeMore_5 lX8_111 (zat_b rfl rfl) rfl (s_hasLiteral (d + 1) l) (Nat.le_of_ble_eq_true rfl) (Or.inl zgr) ?_
  cases h1 : k_hasLit κ l with
  | false =>
    rw [Bool.false_and, if_neg (by decide)]
    refine x_if_eq_t (pc := 8) 19 dX8_takeMore_8 (by decide) (rfl) ?_
    refine x_iconst (pc := 19) (-1) dX8_takeMore_19 (by decide) ?_
    refine x_iret (pc := 20) dX8_takeMore_20 rfl ?_
    exact ⟨rfl, rfl⟩
  | true =>
    rw [Bool.true_and]
    refine x_if_eq_f (pc := 8) 19 dX8_takeMore_8 (by decide) (by decide) ?_
    refine x_aload_n (pc := 11) 1 dX8_takeMore_11 rfl rfl ?_
    refine x_iload_n (pc := 12) 2 dX8_takeMore_12 rfl rfl ?_
    refine x_callV1i (pc := 13) dX8_takeMore_13 lX8_243 (zat_p _ _) rfl (s_canTake d l hr ht (by omega)) (Nat.le_of_ble_eq_true rfl) (Or.inl zgr) ?_
    cases h2 : (decide (t < 8) && decide (κ p 2 &&& kb l = 0)) with
    | false =>
      rw [if_neg (by decide)]
      refine x_if_ne_f (pc := 16) 21 dX8_takeMore_16 (by decide) (rfl) ?_
      refine x_iconst (pc := 19) (-1) dX8_takeMore_19 (by decide) ?_
      refine x_iret (pc := 20) dX8_takeMore_20 rfl ?_
      exact ⟨rfl, rfl⟩
    | true =>
      rw [if_pos rfl]
      have h3 : t < 8 := by
        rw [Bool.and_eq_true] at h2
        exact of_decide_eq_true h2.1
      refine x_if_ne_t (pc := 16) 21 dX8_takeMore_16 (by decide) (by decide) ?_
      refine x_aload_n (pc := 21) 1 dX8_takeMore_21 rfl rfl ?_
      refine x_iload_n (pc := 22) 2 dX8_takeMore_22 rfl rfl ?_
      refine x_callV1v (pc := 23) dX8_takeMore_23 lX8_246 (zat_p _ _) rfl (s_rowPut d l hr ht (by omega)) (Nat.le_of_ble_eq_true rfl) (Or.inl zgr) ?_
      rw [if_pos h3]
      refine x_aload_n (pc := 26) 1 dX8_takeMore_26 rfl rfl ?_
      refine x_geti_l (pc := 27) dX8_takeMore_27 fX8_88 (zat_p _ _) zrf_p_1 ble_p ?_
      refine x_iret (pc := 30) dX8_takeMore_30 rfl ?_
      exact ⟨by rw [k_put_len], rfl⟩
theorem s_add (d : Nat) (l : Int32) {t : Nat} (ht : κ 17 1 = nI t) (ht8 : t ≤ 8) : zTr E (d + 4) mX8_add [.ref 0, .int l] (κ, α, τ) (some (.int (k_more κ 17 l).1)) ((k_more κ 17 l).2, α, τ) := by
  refine zM.tr (zM_of [some (.ref 0), some (.int l)] (by decide) rfl (Nat.le_of_ble_eq_true rfl) ?_)
  refine x_aload_n (pc := 0) 0 dX8_add_0 rfl rfl ?_
  refine x_aload_n (pc := 1) 0 dX8_add_1 rfl rfl ?_
  refine x_getr (pc := 2) (10) dX8_add_2 fX8_10 (zat_b rfl rfl) rfl ?_
  refine x_getr (pc := 5) (17) dX8_add_5 fX8_80 (zat_b rfl rfl) rfl ?_
  refine x_iload_n (pc := 8) 1 dX8_add_8 rfl rfl ?_
  refine x_callV2i (pc := 9) dX8_add_9 lX8_84 (zat_b rfl rfl) rfl (s_more d l kRow17 ht ht8) (Nat.le_of_ble_eq_true rfl) (Or.inl zgr) ?_
  refine x_iret (pc := 12) dX8_add_12 rfl ?_
  exact ⟨rfl, rfl⟩
theorem s_assume (d : Nat) (l : Int32) {t : Nat} (ht : κ 19 1 = nI t) (ht8 : t ≤ 8) : zTr E (d + 4) mX8_assume [.ref 0, .int l] (κ, α, τ) (some (.int (k_more κ 19 l).1)) ((k_more κ 19 l).2, α, τ) := by
  refine zM.tr (zM_of [some (.ref 0), some (.int l)] (by decide) rfl (Nat.le_of_ble_eq_true rfl) ?_)
  refine x_aload_n (pc := 0) 0 dX8_assume_0 rfl rfl ?_
  refine x_aload_n (pc := 1) 0 dX8_assume_1 rfl rfl ?_
  refine x_getr (pc := 2) (10) dX8_assume_2 fX8_10 (zat_b rfl rfl) rfl ?_
  refine x_getr (pc := 5) (19) dX8_assume_5 fX8_108 (zat_b rfl rfl) rfl ?_
  refine x_iload_n (pc := 8) 1 dX8_assume_8 rfl rfl ?_
  refine x_callV2i (pc := 9) dX8_assume_9 lX8_84 (zat_b rfl rfl) rfl (s_more d l kRow19 ht ht8) (Nat.le_of_ble_eq_true rfl) (Or.inl zgr) ?_
  refine x_iret (pc := 12) dX8_assume_12 rfl ?_
  exact ⟨rfl, rfl⟩
theorem s_close (d : Nat) {t : Nat} (hW : kW κ τ) (ht : κ 17 1 = nI t) (ht8 : t ≤ 8) : zTr E (d + 4) mX8_close [.ref 0] (κ, α, τ) (some (.int (k_close κ τ).1)) ((k_close κ τ).2.1, α, (k_close κ τ).2.2) := by
  have c : (κ 17 1).toNatClampNeg = t := by rw [ht]; exact nI_clamp (by omega)
  refine zM.tr (zM_of [some (.ref 0), none] (by decide) rfl (Nat.le_of_ble_eq_true rfl) ?_)
  unfold k_close
  rw [c]
  by_cases h : κ 17 1 = 0
  · rw [if_pos (Or.inl h)]
    refine x_aload_n (pc := 0) 0 dX8_close_0 rfl rfl ?_
    refine x_getr (pc := 1) (10) dX8_close_1 fX8_10 (zat_b rfl rfl) rfl ?_
    refine x_getr (pc := 4) (17) dX8_close_4 fX8_80 (zat_b rfl rfl) rfl ?_
    refine x_geti_l (pc := 7) dX8_close_7 fX8_88 (zat_b rfl rfl) rfl rfl ?_
    refine x_if_eq_t (pc := 10) 26 dX8_close_10 (by decide) (h) ?_
    refine x_iconst (pc := 26) (-1) dX8_close_26 (by decide) ?_
    refine x_iret (pc := 27) dX8_close_27 rfl ?_
    exact ⟨rfl, rfl⟩
  ·
    refine x_aload_n (pc := 0) 0 dX8_close_0 rfl rfl ?_
    refine x_getr (pc := 1) (10) dX8_close_1 fX8_10 (zat_b rfl rfl) rfl ?_
    refine x_getr (pc := 4) (17) dX8_close_4 fX8_80 (zat_b rfl rfl) rfl ?_
    refine x_geti_l (pc := 7) dX8_close_7 fX8_88 (zat_b rfl rfl) rfl rfl ?_
    refine x_if_eq_f (pc := 10) 26 dX8_close_10 (by decide) (h) ?_
    refine x_aload_n (pc := 13) 0 dX8_close_13 rfl rfl ?_
    refine x_getr (pc := 14) (10) dX8_close_14 fX8_10 (zat_b rfl rfl) rfl ?_
    refine x_getr (pc := 17) (11) dX8_close_17 fX8_91 (zat_b rfl rfl) rfl ?_
    refine x_callV0i (pc := 20) dX8_close_20 lX8_95 (zat_b rfl rfl) rfl (s_fullTold (d + 1) hW.n hW.n400) (Nat.le_of_ble_eq_true rfl) (Or.inl zgr) ?_
    cases h2 : (decide (nI 80 ≤ κ 11 6) || decide (400 ≤ kN κ)) with
    | true =>
      rw [if_pos (Or.inr rfl)]
      refine x_if_eq_f (pc := 23) 28 dX8_close_23 (by decide) (by decide) ?_
      refine x_iconst (pc := 26) (-1) dX8_close_26 (by decide) ?_
      refine x_iret (pc := 27) dX8_close_27 rfl ?_
      exact ⟨rfl, rfl⟩
    | false =>
      rw [if_neg (fun q => q.elim h (fun q => by cases q))]
      have h3 : kN κ < 400 := by
        rw [Bool.or_eq_false_iff] at h2
        have := of_decide_eq_false h2.2
        omega
      refine x_if_eq_t (pc := 23) 28 dX8_close_23 (by decide) (rfl) ?_
      refine x_aload_n (pc := 28) 0 dX8_close_28 rfl rfl ?_
      refine x_getr (pc := 29) (10) dX8_close_29 fX8_10 (zat_b rfl rfl) rfl ?_
      refine x_getr (pc := 32) (11) dX8_close_32 fX8_91 (zat_b rfl rfl) rfl ?_
      refine x_aload_n (pc := 35) 0 dX8_close_35 rfl rfl ?_
      refine x_getr (pc := 36) (10) dX8_close_36 fX8_10 (zat_b rfl rfl) rfl ?_
      refine x_getr (pc := 39) (17) dX8_close_39 fX8_80 (zat_b rfl rfl) rfl ?_
      refine x_iconst (pc := 42) (nI 0) dX8_close_42 (by decide) ?_
      refine x_callV2i (pc := 43) dX8_close_43 lX8_101 (zat_b rfl rfl) rfl (s_append (p := 17) (t := t) (L := 8) d false hW (fun τ => kRow17) rfl rfl (by decide) (by decide) (by decide) (by decide) (by decide) (by decide) (by decide) ht ht8) (Nat.le_of_ble_eq_true rfl) (Or.inr (zfr_ok rfl)) ?_
      rw [if_pos h3, if_pos h3]
      refine x_istore_n (pc := 46) 1 dX8_close_46 rfl (by decide) rfl ?_
      refine x_aload_n (pc := 47) 0 dX8_close_47 rfl rfl ?_
      refine x_getr (pc := 48) (10) dX8_close_48 fX8_10 (zat_b rfl rfl) rfl ?_
      refine x_getr (pc := 51) (17) dX8_close_51 fX8_80 (zat_b rfl rfl) rfl ?_
      refine x_callV0v (pc := 54) dX8_close_54 lX8_105 (zat_b rfl rfl) rfl (s_makeEmpty (n := 8) (d + 2) kRow17) (Nat.le_of_ble_eq_true rfl) (Or.inl zgr) ?_
      refine x_iload_n (pc := 57) 1 dX8_close_57 rfl rfl ?_
      refine x_iret (pc := 58) dX8_close_58 rfl ?_
      exact ⟨rfl, rfl⟩
theorem s_free (d : Nat) : zTr E (d + 2) mX8_free [.ref 0] (κ, α, τ) (some (.int (κ 19 1))) (k_emp κ 19, α, τ) := by
  refine zM.tr (zM_of [some (.ref 0), none] (by decide) rfl (Nat.le_of_ble_eq_true rfl) ?_)
  refine x_aload_n (pc := 0) 0 dX8_free_0 rfl rfl ?_
  refine x_getr (pc := 1) (10) dX8_free_1 fX8_10 (zat_b rfl rfl) rfl ?_
  refine x_getr (pc := 4) (19) dX8_free_4 fX8_108 (zat_b rfl rfl) rfl ?_
  refine x_geti_l (pc := 7) dX8_free_7 fX8_88 (zat_b rfl rfl) rfl rfl ?_
  refine x_istore_n (pc := 10) 1 dX8_free_10 rfl (by decide) rfl ?_
  refine x_aload_n (pc := 11) 0 dX8_free_11 rfl rfl ?_
  refine x_getr (pc := 12) (10) dX8_free_12 fX8_10 (zat_b rfl rfl) rfl ?_
  refine x_getr (pc := 15) (19) dX8_free_15 fX8_108 (zat_b rfl rfl) rfl ?_
  refine x_callV0v (pc := 18) dX8_free_18 lX8_105 (zat_b rfl rfl) rfl (s_makeEmpty (n := 8) d kRow19) (Nat.le_of_ble_eq_true rfl) (Or.inl zgr) ?_
  refine x_iload_n (pc := 21) 1 dX8_free_21 rfl rfl ?_
  refine x_iret (pc := 22) dX8_free_22 rfl ?_
  exact ⟨rfl, rfl⟩
theorem s_phase (d : Nat) (l : Int32) : zTr E (d + 3) mX8_phase [.ref 0, .int l] (κ, α, τ) (some (.int (k_phase κ l).1)) ((k_phase κ l).2, α, τ) := by
  refine zM.tr (zM_of [some (.ref 0), some (.int l)] (by decide) rfl (Nat.le_of_ble_eq_true rfl) ?_)
  unfold k_phase
  refine x_aload_n (pc := 0) 0 dX8_phase_0 rfl rfl ?_
  refine x_getr (pc := 1) (10) dX8_phase_1 fX8_10 (zat_b rfl rfl) rfl ?_
  refine x_iload_n (pc := 4) 1 dX8_phase_4 rfl rfl ?_
  refine x_callV1i (pc := 5) dX8_phase_5 lX8_111 (zat_b rfl rfl) rfl (s_hasLiteral (d + 1) l) (Nat.le_of_ble_eq_true rfl) (Or.inl zgr) ?_
  cases h1 : k_hasLit κ l with
  | false =>
    rw [if_neg (fun q => by cases q.1)]
    refine x_if_eq_t (pc := 8) 34 dX8_phase_8 (by decide) (rfl) ?_
    refine x_iconst (pc := 34) (nI 0) dX8_phase_34 (by decide) ?_
    refine x_zret (pc := 35) dX8_phase_35 rfl (by decide) ?_
    exact ⟨rfl, rfl⟩
  | true =>
    have inj : ∀ a b : Bool, zbo a = zbo b ↔ a = b := by decide
    have fin : zX E (d + 3) mX8_phase 31 [some (.ref 0), some (.int l)] [.int (zbo (decide (0 < l))), .int (zbo (k_phaseOf κ (zab l)))] (κ, α, τ) (fun r ν => r = some (.int (if true = true ∧ ¬ k_phaseOf κ (zab l) = decide (0 < l) then (nI 1, k_setPhase κ l) else (nI 0, κ)).1) ∧ ν = ((if true = true ∧ ¬ k_phaseOf κ (zab l) = decide (0 < l) then (nI 1, k_setPhase κ l) else (nI 0, κ)).2, α, τ)) := by
      by_cases g : k_phaseOf κ (zab l) = decide (0 < l)
      · rw [if_neg (fun q => q.2 g)]
        refine x_icmp_ne_f (pc := 31) 36 dX8_phase_31 (by decide) (by rw [g]) ?_
        refine x_iconst (pc := 34) (nI 0) dX8_phase_34 (by decide) ?_
        refine x_zret (pc := 35) dX8_phase_35 rfl (by decide) ?_
        exact ⟨rfl, rfl⟩
      · rw [if_pos ⟨rfl, g⟩]
        refine x_icmp_ne_t (pc := 31) 36 dX8_phase_31 (by decide) (fun q => g ((inj _ _).mp q)) ?_
        refine x_aload_n (pc := 36) 0 dX8_phase_36 rfl rfl ?_
        refine x_getr (pc := 37) (10) dX8_phase_37 fX8_10 (zat_b rfl rfl) rfl ?_
        refine x_iload_n (pc := 40) 1 dX8_phase_40 rfl rfl ?_
        refine x_callV1v (pc := 41) dX8_phase_41 lX8_122 (zat_b rfl rfl) rfl (s_setPhase (d + 0) l) (Nat.le_of_ble_eq_true rfl) (Or.inl zgr) ?_
        refine x_iconst (pc := 44) (nI 1) dX8_phase_44 (by decide) ?_
        refine x_zret (pc := 45) dX8_phase_45 rfl (by decide) ?_
        exact ⟨rfl, rfl⟩
    by_cases h2 : 0 < l
    · rw [decide_eq_true h2] at fin ⊢
      refine x_if_eq_f (pc := 8) 34 dX8_phase_8 (by decide) (by decide) ?_
      refine x_aload_n (pc := 11) 0 dX8_phase_11 rfl rfl ?_
      refine x_getr (pc := 12) (10) dX8_phase_12 fX8_10 (zat_b rfl rfl) rfl ?_
      refine x_iload_n (pc := 15) 1 dX8_phase_15 rfl rfl ?_
      refine x_callS1i (pc := 16) dX8_phase_16 lX8_115 (s_variableOf (d + 1) l) (Nat.le_of_ble_eq_true rfl) (Or.inl zgr) ?_
      refine x_callV1i (pc := 19) dX8_phase_19 lX8_119 (zat_b rfl rfl) rfl (s_phaseOf (d + 0) _) (Nat.le_of_ble_eq_true rfl) (Or.inl zgr) ?_
      refine x_iload_n (pc := 22) 1 dX8_phase_22 rfl rfl ?_
      refine x_if_le_f (pc := 23) 30 dX8_phase_23 (by decide) (Int32.not_le.mpr h2) ?_
      refine x_iconst (pc := 26) (nI 1) dX8_phase_26 (by decide) ?_
      refine x_goto (pc := 27) 31 dX8_phase_27 (by decide) ?_
      exact fin
    · rw [decide_eq_false h2] at fin ⊢
      refine x_if_eq_f (pc := 8) 34 dX8_phase_8 (by decide) (by decide) ?_
      refine x_aload_n (pc := 11) 0 dX8_phase_11 rfl rfl ?_
      refine x_getr (pc := 12) (10) dX8_phase_12 fX8_10 (zat_b rfl rfl) rfl ?_
      refine x_iload_n (pc := 15) 1 dX8_phase_15 rfl rfl ?_
      refine x_callS1i (pc := 16) dX8_phase_16 lX8_115 (s_variableOf (d + 1) l) (Nat.le_of_ble_eq_true rfl) (Or.inl zgr) ?_
      refine x_callV1i (pc := 19) dX8_phase_19 lX8_119 (zat_b rfl rfl) rfl (s_phaseOf (d + 0) _) (Nat.le_of_ble_eq_true rfl) (Or.inl zgr) ?_
      refine x_iload_n (pc := 22) 1 dX8_phase_22 rfl rfl ?_
      refine x_if_le_t (pc := 23) 30 dX8_phase_23 (by decide) (Int32.not_lt.mp h2) ?_
      refine x_iconst (pc := 30) (nI 0) dX8_phase_30 (by decide) ?_
      exact fin
theorem s_unit (d : Nat) (n : Int32) : zTr E (d + 1) mX8_unit [.ref 0, .int n] (κ, α, τ) (some (.int (k_unit κ n).1)) ((k_unit κ n).2, α, τ) := by
  refine zM.tr (zM_of [some (.ref 0), some (.int n)] (by decide) rfl (Nat.le_of_ble_eq_true rfl) ?_)
  unfold k_unit
  by_cases h : n < 0
  · rw [if_pos (Or.inl h)]
    refine x_iload_n (pc := 0) 1 dX8_unit_0 rfl rfl ?_
    refine x_if_lt_t (pc := 1) 21 dX8_unit_1 (by decide) (h) ?_
    refine x_iconst (pc := 21) (nI 0) dX8_unit_21 (by decide) ?_
    refine x_zret (pc := 22) dX8_unit_22 rfl (by decide) ?_
    exact ⟨rfl, rfl⟩
  · by_cases h2 : nI 50 < n
    · rw [if_pos (Or.inr (Or.inl h2))]
      refine x_iload_n (pc := 0) 1 dX8_unit_0 rfl rfl ?_
      refine x_if_lt_f (pc := 1) 21 dX8_unit_1 (by decide) (h) ?_
      refine x_iload_n (pc := 4) 1 dX8_unit_4 rfl rfl ?_
      refine x_bipush (pc := 5) (nI 50) dX8_unit_5 (by decide) ?_
      refine x_icmp_gt_t (pc := 7) 21 dX8_unit_7 (by decide) (h2) ?_
      refine x_iconst (pc := 21) (nI 0) dX8_unit_21 (by decide) ?_
      refine x_zret (pc := 22) dX8_unit_22 rfl (by decide) ?_
      exact ⟨rfl, rfl⟩
    · by_cases h3 : n = κ 10 6
      · rw [if_pos (Or.inr (Or.inr h3))]
        refine x_iload_n (pc := 0) 1 dX8_unit_0 rfl rfl ?_
        refine x_if_lt_f (pc := 1) 21 dX8_unit_1 (by decide) (h) ?_
        refine x_iload_n (pc := 4) 1 dX8_unit_4 rfl rfl ?_
        refine x_bipush (pc := 5) (nI 50) dX8_unit_5 (by decide) ?_
        refine x_icmp_gt_f (pc := 7) 21 dX8_unit_7 (by decide) (h2) ?_
        refine x_iload_n (pc := 10) 1 dX8_unit_10 rfl rfl ?_
        refine x_aload_n (pc := 11) 0 dX8_unit_11 rfl rfl ?_
        refine x_getr (pc := 12) (10) dX8_unit_12 fX8_10 (zat_b rfl rfl) rfl ?_
        refine x_geti_l (pc := 15) dX8_unit_15 fX8_125 (zat_b rfl rfl) rfl rfl ?_
        refine x_icmp_ne_f (pc := 18) 23 dX8_unit_18 (by decide) (h3) ?_
        refine x_iconst (pc := 21) (nI 0) dX8_unit_21 (by decide) ?_
        refine x_zret (pc := 22) dX8_unit_22 rfl (by decide) ?_
        exact ⟨rfl, rfl⟩
      · rw [if_neg (fun q => q.elim h (fun q => q.elim h2 h3))]
        refine x_iload_n (pc := 0) 1 dX8_unit_0 rfl rfl ?_
        refine x_if_lt_f (pc := 1) 21 dX8_unit_1 (by decide) (h) ?_
        refine x_iload_n (pc := 4) 1 dX8_unit_4 rfl rfl ?_
        refine x_bipush (pc := 5) (nI 50) dX8_unit_5 (by decide) ?_
        refine x_icmp_gt_f (pc := 7) 21 dX8_unit_7 (by decide) (h2) ?_
        refine x_iload_n (pc := 10) 1 dX8_unit_10 rfl rfl ?_
        refine x_aload_n (pc := 11) 0 dX8_unit_11 rfl rfl ?_
        refine x_getr (pc := 12) (10) dX8_unit_12 fX8_10 (zat_b rfl rfl) rfl ?_
        refine x_geti_l (pc := 15) dX8_unit_15 fX8_125 (zat_b rfl rfl) rfl rfl ?_
        refine x_icmp_ne_t (pc := 18) 23 dX8_unit_18 (by decide) (h3) ?_
        refine x_aload_n (pc := 23) 0 dX8_unit_23 rfl rfl ?_
        refine x_getr (pc := 24) (10) dX8_unit_24 fX8_10 (zat_b rfl rfl) rfl ?_
        refine x_iload_n (pc := 27) 1 dX8_unit_27 rfl rfl ?_
        refine x_puti_l (pc := 28) dX8_unit_28 pX8_125 (zat_b rfl rfl) rfl rfl ?_
        refine x_iconst (pc := 31) (nI 1) dX8_unit_31 (by decide) ?_
        refine x_zret (pc := 32) dX8_unit_32 rfl (by decide) ?_
        exact ⟨rfl, rfl⟩
theorem s_forget (d : Nat) (n : Int32) (hW : kW κ τ) : zTr E (d + 3) mX8_forget [.ref 0, .int n] (κ, α, τ) (some (.int (k_forget κ n).1)) ((k_forget κ n).2, α, τ) := by
  refine zM.tr (zM_of [some (.ref 0), some (.int n)] (by decide) rfl (Nat.le_of_ble_eq_true rfl) ?_)
  unfold k_forget
  by_cases h : (decide (nI 1 ≤ n) && decide (n ≤ nI 30)) = true
  · rw [if_pos h]
    obtain ⟨j, j1, j2, rfl⟩ := (zidx1 (v := n) (N := 30) (by decide)).mp h
    rw [nI_clamp (by omega)]
    rw [Bool.and_eq_true] at h
    refine x_iload_n (pc := 0) 1 dX8_forget_0 rfl rfl ?_
    refine x_iconst (pc := 1) (nI 1) dX8_forget_1 (by decide) ?_
    refine x_icmp_lt_f (pc := 2) 11 dX8_forget_2 (by decide) (Int32.not_lt.mpr (of_decide_eq_true h.1)) ?_
    refine x_iload_n (pc := 5) 1 dX8_forget_5 rfl rfl ?_
    refine x_bipush (pc := 6) (nI 30) dX8_forget_6 (by decide) ?_
    refine x_icmp_le_t (pc := 8) 13 dX8_forget_8 (by decide) (of_decide_eq_true h.2) ?_
    refine x_aload_n (pc := 13) 0 dX8_forget_13 rfl rfl ?_
    refine x_getr (pc := 14) (10) dX8_forget_14 fX8_10 (zat_b rfl rfl) rfl ?_
    refine x_getr (pc := 17) (11) dX8_forget_17 fX8_91 (zat_b rfl rfl) rfl ?_
    refine x_iload_n (pc := 20) 1 dX8_forget_20 rfl rfl ?_
    refine x_callV1i (pc := 21) dX8_forget_21 lX8_128 (zat_b rfl rfl) rfl (s_drop d hW j2) (Nat.le_of_ble_eq_true rfl) (Or.inl zgr) ?_
    refine x_iret (pc := 24) dX8_forget_24 rfl ?_
    exact ⟨rfl, rfl⟩
  · rw [if_neg h]
    by_cases h1 : n < nI 1
    ·
      refine x_iload_n (pc := 0) 1 dX8_forget_0 rfl rfl ?_
      refine x_iconst (pc := 1) (nI 1) dX8_forget_1 (by decide) ?_
      refine x_icmp_lt_t (pc := 2) 11 dX8_forget_2 (by decide) (h1) ?_
      refine x_iconst (pc := 11) (-1) dX8_forget_11 (by decide) ?_
      refine x_iret (pc := 12) dX8_forget_12 rfl ?_
      exact ⟨rfl, rfl⟩
    · have h2 : ¬ n ≤ nI 30 := fun q => h (by rw [decide_eq_true (Int32.not_lt.mp h1), decide_eq_true q]; rfl)
      refine x_iload_n (pc := 0) 1 dX8_forget_0 rfl rfl ?_
      refine x_iconst (pc := 1) (nI 1) dX8_forget_1 (by decide) ?_
      refine x_icmp_lt_f (pc := 2) 11 dX8_forget_2 (by decide) (h1) ?_
      refine x_iload_n (pc := 5) 1 dX8_forget_5 rfl rfl ?_
      refine x_bipush (pc := 6) (nI 30) dX8_forget_6 (by decide) ?_
      refine x_icmp_le_f (pc := 8) 13 dX8_forget_8 (by decide) (h2) ?_
      refine x_iconst (pc := 11) (-1) dX8_forget_11 (by decide) ?_
      refine x_iret (pc := 12) dX8_forget_12 rfl ?_
      exact ⟨rfl, rfl⟩
theorem s_solve (d : Nat) (b : Int32) {n : Nat} (hn : n ≤ 1000000) (h : κ 10 7 = 0 → nI 1 ≤ b → b ≤ nI 200 → krOK b n (k_run0 κ) τ) : zTr E (d + 8) mX8_solve [.ref 0, .int b] (κ, α, τ) (some (.int (k_solve n κ τ b).1)) ((k_solve n κ τ b).2.1, α, (k_solve n κ τ b).2.2) := by
  refine zM.tr (zM_of [some (.ref 0), some (.int b)] (by decide) rfl (Nat.le_of_ble_eq_true rfl) ?_)
  unfold k_solve
  by_cases g : (decide (nI 1 ≤ b) && decide (b ≤ nI 200)) = true
  · rw [if_pos g]
    rw [Bool.and_eq_true] at g
    have g1 := of_decide_eq_true g.1
    have g2 := of_decide_eq_true g.2
    refine x_iload_n (pc := 0) 1 dX8_solve_0 rfl rfl ?_
    refine x_iconst (pc := 1) (nI 1) dX8_solve_1 (by decide) ?_
    refine x_icmp_lt_f (pc := 2) 12 dX8_solve_2 (by decide) (Int32.not_lt.mpr g1) ?_
    refine x_iload_n (pc := 5) 1 dX8_solve_5 rfl rfl ?_
    refine x_sipush (pc := 6) (nI 200) dX8_solve_6 (by decide) ?_
    refine x_icmp_le_t (pc := 9) 14 dX8_solve_9 (by decide) (g2) ?_
    refine x_aload_n (pc := 14) 0 dX8_solve_14 rfl rfl ?_
    refine x_getr (pc := 15) (3) dX8_solve_15 fX8_25 (zat_b rfl rfl) rfl ?_
    refine x_iload_n (pc := 18) 1 dX8_solve_18 rfl rfl ?_
    refine x_callV1i (pc := 19) dX8_solve_19 lX8_134 (zat_b rfl rfl) rfl (s_run d b hn (fun h0 => h h0 g1 g2)) (Nat.le_of_ble_eq_true rfl) (Or.inr (zfr_ok rfl)) ?_
    refine x_iret (pc := 22) dX8_solve_22 rfl ?_
    exact ⟨rfl, rfl⟩
  · rw [if_neg g]
    by_cases h1 : b < nI 1
    ·
      refine x_iload_n (pc := 0) 1 dX8_solve_0 rfl rfl ?_
      refine x_iconst (pc := 1) (nI 1) dX8_solve_1 (by decide) ?_
      refine x_icmp_lt_t (pc := 2) 12 dX8_solve_2 (by decide) (h1) ?_
      refine x_iconst (pc := 12) (-1) dX8_solve_12 (by decide) ?_
      refine x_iret (pc := 13) dX8_solve_13 rfl ?_
      exact ⟨rfl, rfl⟩
    · have h2 : ¬ b ≤ nI 200 := fun q => g (by rw [decide_eq_true (Int32.not_lt.mp h1), decide_eq_true q]; rfl)
      refine x_iload_n (pc := 0) 1 dX8_solve_0 rfl rfl ?_
      refine x_iconst (pc := 1) (nI 1) dX8_solve_1 (by decide) ?_
      refine x_icmp_lt_f (pc := 2) 12 dX8_solve_2 (by decide) (h1) ?_
      refine x_iload_n (pc := 5) 1 dX8_solve_5 rfl rfl ?_
      refine x_sipush (pc := 6) (nI 200) dX8_solve_6 (by decide) ?_
      refine x_icmp_le_f (pc := 9) 14 dX8_solve_9 (by decide) (h2) ?_
      refine x_iconst (pc := 12) (-1) dX8_solve_12 (by decide) ?_
      refine x_iret (pc := 13) dX8_solve_13 rfl ?_
      exact ⟨rfl, rfl⟩
end O1
