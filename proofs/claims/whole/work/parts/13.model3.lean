/-! the reference: the search's parts -/
theorem zopn_le (t : Nat → Int32) : ∀ (m k n : Nat), n + m ≤ 31 → zopn t k m n ≤ 31
  | 0, k, n, h => h
  | m + 1, k, n, h => by
    unfold zopn
    split
    · exact Nat.le_refl _
    · exact zopn_le t m (k + 1) _ (by split <;> omega)
theorem a_open_le {α : Nat → Nat → Int32} {c : Nat} (hW : aW α) (hc : c < aN α) : a_open α c ≤ 31 := zopn_le _ _ _ _ (by have := hW.s30 hc; omega)
/-- only these rows have changed -/
def zoff (L : List Nat) (α β : Nat → Nat → Int32) : Prop := ∀ p, p ∉ L → β p = α p
theorem zoff.rf {L : List Nat} {α : Nat → Nat → Int32} : zoff L α α := fun _ _ => rfl
theorem zoff.tr {L : List Nat} {α β γ : Nat → Nat → Int32} (h : zoff L α β) (k : zoff L β γ) : zoff L α γ := fun p hp => (k p hp).trans (h p hp)
theorem zoff.up {L : List Nat} {α β : Nat → Nat → Int32} {p i : Nat} {v : Int32} (h : zoff L α β) (hp : p ∈ L) : zoff L α (zup β p i v) := fun q hq => by
  rw [← h q hq]
  funext j
  exact zup_p (fun e => hq (by rw [e]; exact hp))
theorem zoff.at {L : List Nat} {α β : Nat → Nat → Int32} (h : zoff L α β) {p : Nat} (hp : p ∉ L) (i : Nat) : β p i = α p i := congrFun (h p hp) i
theorem zoff.mono {L M : List Nat} {α β : Nat → Nat → Int32} (h : zoff L α β) (hs : ∀ p ∈ L, p ∈ M) : zoff M α β := fun p hp => h p (fun z => hp (hs p z))
section M4
variable {E : zEnv} {κ α : Nat → Nat → Int32} {τ : (Nat → Nat → Int64) × (Nat → Nat)}
theorem l_firstOf (d : Nat) {b : Nat} (hb : b < 2 ^ 31) (hW : aW α) : ∀ m c, c + m = aN α → zX E (d + 3) mX9_firstOf 2 [some (.ref 100), some (.int (nI b)), some (.int (nI c))] [] (κ, α, τ) (fun r ν => r = some (.int (zon (zfind (fun c => !a_gone α c && Nat.beq (a_open α c) b) c m))) ∧ ν = (κ, α, τ)) := by
  have hn := hW.n400
  have hN := hW.n
  intro m
  induction m with
  | zero =>
    intro c hc
    refine x_iload_n (pc := 2) 2 dX9_firstOf_2 rfl rfl ?_
    refine x_aload_n (pc := 3) 0 dX9_firstOf_3 rfl rfl ?_
    refine x_getr (pc := 4) (101) dX9_firstOf_4 fX9_7 (zat_b rfl rfl) rfl ?_
    refine x_iconst (pc := 7) (nI 1) dX9_firstOf_7 (by decide) ?_
    have hj8 : 1 < 13326 := by omega
    refine x_iald_h (pc := 8) (1) dX9_firstOf_8 (zar_b rfl rfl rfl) rfl (by first | rfl | simp only [pk_mul, nI_add] | simp only [zon, pk_mul, nI_add]) hj8 (Nat.lt_of_lt_of_le hj8 (by decide)) ?_
    rw [hN]
    refine x_icmp_ge_t (pc := 9) 37 dX9_firstOf_9 (by decide) (nI_le (by omega) (by omega)) ?_
    refine x_iconst (pc := 37) (-1) dX9_firstOf_37 (by decide) ?_
    refine x_iret (pc := 38) dX9_firstOf_38 rfl ?_
    exact ⟨rfl, rfl⟩
  | succ m ih =>
    intro c hc
    have hc' : c < aN α := by omega
    refine x_iload_n (pc := 2) 2 dX9_firstOf_2 rfl rfl ?_
    refine x_aload_n (pc := 3) 0 dX9_firstOf_3 rfl rfl ?_
    refine x_getr (pc := 4) (101) dX9_firstOf_4 fX9_7 (zat_b rfl rfl) rfl ?_
    refine x_iconst (pc := 7) (nI 1) dX9_firstOf_7 (by decide) ?_
    have hj8 : 1 < 13326 := by omega
    refine x_iald_h (pc := 8) (1) dX9_firstOf_8 (zar_b rfl rfl rfl) rfl (by first | rfl | simp only [pk_mul, nI_add] | simp only [zon, pk_mul, nI_add]) hj8 (Nat.lt_of_lt_of_le hj8 (by decide)) ?_
    rw [hN]
    refine x_icmp_ge_f (pc := 9) 37 dX9_firstOf_9 (by decide) (nI_ge (by omega) (by omega)) ?_
    refine x_aload_n (pc := 12) 0 dX9_firstOf_12 rfl rfl ?_
    refine x_iload_n (pc := 13) 2 dX9_firstOf_13 rfl rfl ?_
    refine x_callV1i (pc := 14) dX9_firstOf_14 lX9_96 (zat_b rfl rfl) rfl (t_isGone (d + 1) c (by omega)) (Nat.le_of_ble_eq_true rfl) (Or.inl zgr) ?_
    have step : zfind (fun c => !a_gone α c && Nat.beq (a_open α c) b) c (m + 1) = bif (!a_gone α c && Nat.beq (a_open α c) b) then some c else zfind (fun c => !a_gone α c && Nat.beq (a_open α c) b) (c + 1) m := rfl
    rw [step]
    cases hg : a_gone α c with
    | true =>
      refine x_if_ne_t (pc := 17) 31 dX9_firstOf_17 (by decide) (by decide) ?_
      refine x_iinc (pc := 31) (nI (c + 1)) dX9_firstOf_31 rfl (zinc _) (by decide) rfl ?_
      refine x_goto (pc := 34) 2 dX9_firstOf_34 (by decide) ?_
      exact ih (c + 1) (by omega)
    | false =>
      refine x_if_ne_f (pc := 17) 31 dX9_firstOf_17 (by decide) (by decide) ?_
      refine x_aload_n (pc := 20) 0 dX9_firstOf_20 rfl rfl ?_
      refine x_iload_n (pc := 21) 2 dX9_firstOf_21 rfl rfl ?_
      refine x_callV1i (pc := 22) dX9_firstOf_22 lX9_114 (zat_b rfl rfl) rfl (t_open d hW hc') (Nat.le_of_ble_eq_true rfl) (Or.inl zgr) ?_
      refine x_iload_n (pc := 25) 1 dX9_firstOf_25 rfl rfl ?_
      have ho := a_open_le hW hc'
      cases he : Nat.beq (a_open α c) b with
      | true =>
        have he' := Nat.eq_of_beq_eq_true he
        refine x_icmp_ne_f (pc := 26) 31 dX9_firstOf_26 (by decide) (by rw [he']) ?_
        refine x_iload_n (pc := 29) 2 dX9_firstOf_29 rfl rfl ?_
        refine x_iret (pc := 30) dX9_firstOf_30 rfl ?_
        exact ⟨rfl, rfl⟩
      | false =>
        have he' : ¬ a_open α c = b := fun q => by rw [q, Nat.beq_refl] at he; cases he
        refine x_icmp_ne_t (pc := 26) 31 dX9_firstOf_26 (by decide) (fun q => he' ((nI_eq (by omega) hb).mp q)) ?_
        refine x_iinc (pc := 31) (nI (c + 1)) dX9_firstOf_31 rfl (zinc _) (by decide) rfl ?_
        refine x_goto (pc := 34) 2 dX9_firstOf_34 (by decide) ?_
        exact ih (c + 1) (by omega)
theorem t_firstOf (d : Nat) {b : Nat} (hb : b < 2 ^ 31) (hW : aW α) : zTr E (d + 3) mX9_firstOf [.ref 100, .int (nI b)] (κ, α, τ) (some (.int (zon (a_first α b)))) (κ, α, τ) := by
  refine zM.tr (zM_of [some (.ref 100), some (.int (nI b)), none] (by decide) rfl (Nat.le_of_ble_eq_true rfl) ?_)
  refine x_iconst (pc := 0) (nI 0) dX9_firstOf_0 (by decide) ?_
  refine x_istore_n (pc := 1) 2 dX9_firstOf_1 rfl (by decide) rfl ?_
  exact l_firstOf d hb hW (aN α) 0 (by omega)
theorem l_openOne (d : Nat) {c : Nat} (hW : aW α) (hc : c < aN α) : ∀ m k, k + m = aS α c → zX E (d + 2) mX9_openOne 2 [some (.ref 100), some (.int (nI c)), some (.int (nI k))] [] (κ, α, τ) (fun r ν => r = some (.int (match zfind (fun k => decide (a_tr α (aL α c k) = 0)) k m with
  | some k => aL α c k
  | none => 0)) ∧ ν = (κ, α, τ)) := by
  have hs := hW.s30 hc
  intro m
  induction m with
  | zero =>
    intro k hk
    refine x_iload_n (pc := 2) 2 dX9_openOne_2 rfl rfl ?_
    refine x_aload_n (pc := 3) 0 dX9_openOne_3 rfl rfl ?_
    refine x_iload_n (pc := 4) 1 dX9_openOne_4 rfl rfl ?_
    refine x_callV1i (pc := 5) dX9_openOne_5 lX9_99 (zat_b rfl rfl) rfl (t_sizeOfW d hW hc) (Nat.le_of_ble_eq_true rfl) (Or.inl zgr) ?_
    refine x_icmp_ge_t (pc := 8) 37 dX9_openOne_8 (by decide) (nI_le (by omega) (by omega)) ?_
    refine x_iconst (pc := 37) (nI 0) dX9_openOne_37 (by decide) ?_
    refine x_iret (pc := 38) dX9_openOne_38 rfl ?_
    exact ⟨rfl, rfl⟩
  | succ m ih =>
    intro k hk
    refine x_iload_n (pc := 2) 2 dX9_openOne_2 rfl rfl ?_
    refine x_aload_n (pc := 3) 0 dX9_openOne_3 rfl rfl ?_
    refine x_iload_n (pc := 4) 1 dX9_openOne_4 rfl rfl ?_
    refine x_callV1i (pc := 5) dX9_openOne_5 lX9_99 (zat_b rfl rfl) rfl (t_sizeOfW d hW hc) (Nat.le_of_ble_eq_true rfl) (Or.inl zgr) ?_
    refine x_icmp_ge_f (pc := 8) 37 dX9_openOne_8 (by decide) (nI_ge (by omega) (by omega)) ?_
    refine x_aload_n (pc := 11) 0 dX9_openOne_11 rfl rfl ?_
    refine x_aload_n (pc := 12) 0 dX9_openOne_12 rfl rfl ?_
    refine x_iload_n (pc := 13) 1 dX9_openOne_13 rfl rfl ?_
    refine x_iload_n (pc := 14) 2 dX9_openOne_14 rfl rfl ?_
    refine x_callV2i (pc := 15) dX9_openOne_15 lX9_108 (zat_b rfl rfl) rfl (t_literalW d hW hc (by omega)) (Nat.le_of_ble_eq_true rfl) (Or.inl zgr) ?_
    refine x_callV1i (pc := 18) dX9_openOne_18 lX9_111 (zat_b rfl rfl) rfl (t_truth d (hW.l hc (by omega))) (Nat.le_of_ble_eq_true rfl) (Or.inl zgr) ?_
    have step : zfind (fun k => decide (a_tr α (aL α c k) = 0)) k (m + 1) = bif decide (a_tr α (aL α c k) = 0) then some k else zfind (fun k => decide (a_tr α (aL α c k) = 0)) (k + 1) m := rfl
    rw [step]
    by_cases h1 : a_tr α (aL α c k) = 0
    · rw [decide_eq_true h1]
      refine x_if_ne_f (pc := 21) 31 dX9_openOne_21 (by decide) (h1) ?_
      refine x_aload_n (pc := 24) 0 dX9_openOne_24 rfl rfl ?_
      refine x_iload_n (pc := 25) 1 dX9_openOne_25 rfl rfl ?_
      refine x_iload_n (pc := 26) 2 dX9_openOne_26 rfl rfl ?_
      refine x_callV2i (pc := 27) dX9_openOne_27 lX9_108 (zat_b rfl rfl) rfl (t_literalW d hW hc (by omega)) (Nat.le_of_ble_eq_true rfl) (Or.inl zgr) ?_
      refine x_iret (pc := 30) dX9_openOne_30 rfl ?_
      exact ⟨rfl, rfl⟩
    · rw [decide_eq_false h1]
      refine x_if_ne_t (pc := 21) 31 dX9_openOne_21 (by decide) (h1) ?_
      refine x_iinc (pc := 31) (nI (k + 1)) dX9_openOne_31 rfl (zinc _) (by decide) rfl ?_
      refine x_goto (pc := 34) 2 dX9_openOne_34 (by decide) ?_
      exact ih (k + 1) (by omega)
theorem t_openOne (d : Nat) {c : Nat} (hW : aW α) (hc : c < aN α) : zTr E (d + 2) mX9_openOne [.ref 100, .int (nI c)] (κ, α, τ) (some (.int (a_openOne α c))) (κ, α, τ) := by
  refine zM.tr (zM_of [some (.ref 100), some (.int (nI c)), none] (by decide) rfl (Nat.le_of_ble_eq_true rfl) ?_)
  refine x_iconst (pc := 0) (nI 0) dX9_openOne_0 (by decide) ?_
  refine x_istore_n (pc := 1) 2 dX9_openOne_1 rfl (by decide) rfl ?_
  exact l_openOne d hW hc (aS α c) 0 (by omega)
def a_empL : Nat → Nat → (Nat → Nat → Int32) → (Nat → Nat → Int32) := zit (fun v a => zup a 105 v (nI 0))
def a_emp (α : Nat → Nat → Int32) : Nat → Nat → Int32 := a_empL 0 31 (zup (zup α 100 10 (nI 0)) 100 11 (nI 0))
theorem l_empties (d : Nat) : ∀ m v α, v + m = 31 → zX E (d + 1) mX9_empties 12 [some (.ref 100), some (.int (nI v))] [] (κ, α, τ) (fun r ν => r = none ∧ ν = (κ, a_empL v m α, τ)) := by
  intro m
  induction m with
  | zero =>
    intro v α hv
    refine x_iload_n (pc := 12) 1 dX9_empties_12 rfl rfl ?_
    refine x_bipush (pc := 13) (nI 30) dX9_empties_13 (by decide) ?_
    refine x_icmp_gt_t (pc := 15) 31 dX9_empties_15 (by decide) (nI_lt (by omega) (by omega)) ?_
    refine x_vret (pc := 31) dX9_empties_31 rfl ?_
    exact ⟨rfl, rfl⟩
  | succ m ih =>
    intro v α hv
    refine x_iload_n (pc := 12) 1 dX9_empties_12 rfl rfl ?_
    refine x_bipush (pc := 13) (nI 30) dX9_empties_13 (by decide) ?_
    refine x_icmp_gt_f (pc := 15) 31 dX9_empties_15 (by decide) (nI_nlt (by omega) (by omega)) ?_
    refine x_aload_n (pc := 18) 0 dX9_empties_18 rfl rfl ?_
    refine x_getr (pc := 19) (105) dX9_empties_19 fX9_23 (zat_b rfl rfl) rfl ?_
    refine x_iload_n (pc := 22) 1 dX9_empties_22 rfl rfl ?_
    refine x_iconst (pc := 23) (nI 0) dX9_empties_23 (by decide) ?_
    have hj24 : v < 31 := by omega
    refine x_iast_h (pc := 24) (v) dX9_empties_24 (zar_b rfl rfl rfl) rfl (by first | rfl | simp only [pk_mul, nI_add] | simp only [zon, pk_mul, nI_add]) hj24 (Nat.lt_of_lt_of_le hj24 (by decide)) ?_
    refine x_iinc (pc := 25) (nI (v + 1)) dX9_empties_25 rfl (zinc _) (by decide) rfl ?_
    refine x_goto (pc := 28) 12 dX9_empties_28 (by decide) ?_
    exact ih (v + 1) _ (by omega)
theorem t_empties (d : Nat) : zTr E (d + 1) mX9_empties [.ref 100] (κ, α, τ) none (κ, a_emp α, τ) := by
  refine zM.tr (zM_of [some (.ref 100), none] (by decide) rfl (Nat.le_of_ble_eq_true rfl) ?_)
  refine x_aload_n (pc := 0) 0 dX9_empties_0 rfl rfl ?_
  refine x_iconst (pc := 1) (nI 0) dX9_empties_1 (by decide) ?_
  refine x_puti_h (pc := 2) dX9_empties_2 pX9_102 (zat_b rfl rfl) rfl rfl ?_
  refine x_aload_n (pc := 5) 0 dX9_empties_5 rfl rfl ?_
  refine x_iconst (pc := 6) (nI 0) dX9_empties_6 (by decide) ?_
  refine x_puti_h (pc := 7) dX9_empties_7 pX9_105 (zat_b rfl rfl) rfl rfl ?_
  refine x_iconst (pc := 10) (nI 0) dX9_empties_10 (by decide) ?_
  refine x_istore_n (pc := 11) 1 dX9_empties_11 rfl (by decide) rfl ?_
  exact l_empties d 31 0 _ (by omega)
/-- a literal comes -/
def a_comes (α : Nat → Nat → Int32) (l w : Int32) : Nat → Nat → Int32 :=
  zup (zup (zup (zup (zup (zup α 105 (zv l) (if 0 < l then nI 1 else -1)) 106 (zv l) (α 100 11)) 107 (zv l) w) 108 (zv l) (α 100 10)) 109 (α 100 10).toNatClampNeg l) 100 10 (α 100 10 + nI 1)
theorem t_comes (d : Nat) {l w : Int32} {t : Nat} (hl : lok 30 l) (ht : α 100 10 = nI t) (ht30 : t < 30) : zTr E (d + 2) mX9_comes [.ref 100, .int l, .int w] (κ, α, τ) none (κ, a_comes α l w, τ) := by
  obtain ⟨g1, g2, g3, g4, g5⟩ := hl.is (Nat.le_refl _)
  have hc : (α 100 10).toNatClampNeg = t := by rw [ht]; exact nI_clamp (by omega)
  refine zM.tr (zM_of [some (.ref 100), some (.int l), some (.int w)] (by decide) rfl (Nat.le_of_ble_eq_true rfl) ?_)
  refine x_aload_n (pc := 0) 0 dX9_comes_0 rfl rfl ?_
  refine x_getr (pc := 1) (105) dX9_comes_1 fX9_23 (zat_b rfl rfl) rfl ?_
  refine x_iload_n (pc := 4) 1 dX9_comes_4 rfl rfl ?_
  refine x_callS1i (pc := 5) dX9_comes_5 lX9_71 (t_size d l) (Nat.le_of_ble_eq_true rfl) (Or.inl zgr) ?_
  refine x_iload_n (pc := 8) 1 dX9_comes_8 rfl rfl ?_
  have J : zX E (d + 2) mX9_comes 17 [some (.ref 100), some (.int l), some (.int w)] [.int (if 0 < l then nI 1 else -1), .int (zab l), .ref 105] (κ, α, τ) (fun a m => a = none ∧ m = (κ, a_comes α l w, τ)) := by
    rw [a_comes, hc]
    have hj17 : zv l < 31 := by omega
    refine x_iast_h (pc := 17) (zv l) dX9_comes_17 (zar_b rfl rfl rfl) rfl (g3) hj17 (Nat.lt_of_lt_of_le hj17 (by decide)) ?_
    refine x_aload_n (pc := 18) 0 dX9_comes_18 rfl rfl ?_
    refine x_getr (pc := 19) (106) dX9_comes_19 fX9_26 (zat_b rfl rfl) rfl ?_
    refine x_iload_n (pc := 22) 1 dX9_comes_22 rfl rfl ?_
    refine x_callS1i (pc := 23) dX9_comes_23 lX9_71 (t_size d l) (Nat.le_of_ble_eq_true rfl) (Or.inl zgr) ?_
    refine x_aload_n (pc := 26) 0 dX9_comes_26 rfl rfl ?_
    refine x_geti_h (pc := 27) dX9_comes_27 fX9_105 (zat_b rfl rfl) rfl rfl ?_
    have hj30 : zv l < 31 := by omega
    refine x_iast_h (pc := 30) (zv l) dX9_comes_30 (zar_b rfl rfl rfl) rfl (g3) hj30 (Nat.lt_of_lt_of_le hj30 (by decide)) ?_
    refine x_aload_n (pc := 31) 0 dX9_comes_31 rfl rfl ?_
    refine x_getr (pc := 32) (107) dX9_comes_32 fX9_29 (zat_b rfl rfl) rfl ?_
    refine x_iload_n (pc := 35) 1 dX9_comes_35 rfl rfl ?_
    refine x_callS1i (pc := 36) dX9_comes_36 lX9_71 (t_size d l) (Nat.le_of_ble_eq_true rfl) (Or.inl zgr) ?_
    refine x_iload_n (pc := 39) 2 dX9_comes_39 rfl rfl ?_
    have hj40 : zv l < 31 := by omega
    refine x_iast_h (pc := 40) (zv l) dX9_comes_40 (zar_b rfl rfl rfl) rfl (g3) hj40 (Nat.lt_of_lt_of_le hj40 (by decide)) ?_
    refine x_aload_n (pc := 41) 0 dX9_comes_41 rfl rfl ?_
    refine x_getr (pc := 42) (108) dX9_comes_42 fX9_32 (zat_b rfl rfl) rfl ?_
    refine x_iload_n (pc := 45) 1 dX9_comes_45 rfl rfl ?_
    refine x_callS1i (pc := 46) dX9_comes_46 lX9_71 (t_size d l) (Nat.le_of_ble_eq_true rfl) (Or.inl zgr) ?_
    refine x_aload_n (pc := 49) 0 dX9_comes_49 rfl rfl ?_
    refine x_geti_h (pc := 50) dX9_comes_50 fX9_102 (zat_b rfl rfl) rfl rfl ?_
    have hj53 : zv l < 31 := by omega
    refine x_iast_h (pc := 53) (zv l) dX9_comes_53 (zar_b rfl rfl rfl) rfl (g3) hj53 (Nat.lt_of_lt_of_le hj53 (by decide)) ?_
    refine x_aload_n (pc := 54) 0 dX9_comes_54 rfl rfl ?_
    refine x_getr (pc := 55) (109) dX9_comes_55 fX9_35 (zat_b rfl rfl) rfl ?_
    refine x_aload_n (pc := 58) 0 dX9_comes_58 rfl rfl ?_
    refine x_geti_h (pc := 59) dX9_comes_59 fX9_102 (zat_b rfl rfl) rfl rfl ?_
    refine x_iload_n (pc := 62) 1 dX9_comes_62 rfl rfl ?_
    have hj63 : t < 30 := by omega
    refine x_iast_h (pc := 63) (t) dX9_comes_63 (zar_b rfl rfl rfl) rfl (ht) hj63 (Nat.lt_of_lt_of_le hj63 (by decide)) ?_
    refine x_aload_n (pc := 64) 0 dX9_comes_64 rfl rfl ?_
    refine x_dup (pc := 65) dX9_comes_65 rfl ?_
    refine x_geti_h (pc := 66) dX9_comes_66 fX9_102 (zat_b rfl rfl) rfl rfl ?_
    refine x_iconst (pc := 69) (nI 1) dX9_comes_69 (by decide) ?_
    refine x_iadd (pc := 70) dX9_comes_70 ?_
    refine x_puti_h (pc := 71) dX9_comes_71 pX9_102 (zat_b rfl rfl) rfl rfl ?_
    refine x_vret (pc := 74) dX9_comes_74 rfl ?_
    exact ⟨rfl, rfl⟩
  by_cases h : 0 < l
  · rw [if_pos h] at J
    refine x_if_le_f (pc := 9) 16 dX9_comes_9 (by decide) (Int32.not_le.mpr h) ?_
    refine x_iconst (pc := 12) (nI 1) dX9_comes_12 (by decide) ?_
    refine x_goto (pc := 13) 17 dX9_comes_13 (by decide) ?_
    exact J
  · rw [if_neg h] at J
    refine x_if_le_t (pc := 9) 16 dX9_comes_9 (by decide) (Int32.not_lt.mp h) ?_
    refine x_iconst (pc := 16) (-1) dX9_comes_16 (by decide) ?_
    exact J
/-- all above a level leaves -/
def a_leaveL (b : Int32) : Nat → (Nat → Nat → Int32) → (Nat → Nat → Int32)
  | 0, α => α
  | n + 1, α => if b < α 106 (zv (α 109 n)) then a_leaveL b n (zup (zup (zup α 100 10 (nI n)) 101 (32 + zv (α 109 n)) (if 0 < α 109 n then nI 1 else nI 0)) 105 (zv (α 109 n)) (nI 0)) else α
def a_leaves (α : Nat → Nat → Int32) (b : Int32) : Nat → Nat → Int32 := zup (a_leaveL b (α 100 10).toNatClampNeg α) 100 11 (if 0 ≤ b then b else nI 0)
/-- the trail is in order -/
def aQ (α : Nat → Nat → Int32) (t : Nat) : Prop := α 100 10 = nI t ∧ t ≤ 30 ∧ ∀ i, i < t → lok 30 (α 109 i)
theorem l_leaves (d : Nat) (b : Int32) : ∀ t α, aQ α t → zX E (d + 2) mX9_leaves 0 [some (.ref 100), some (.int b), none] [] (κ, α, τ) (fun r ν => r = none ∧ ν = (κ, zup (a_leaveL b t α) 100 11 (if 0 ≤ b then b else nI 0), τ)) := by
  have fin : ∀ β, zX E (d + 2) mX9_leaves 84 [some (.ref 100), some (.int b), none] [] (κ, β, τ) (fun r ν => r = none ∧ ν = (κ, zup β 100 11 (if 0 ≤ b then b else nI 0), τ)) := by
    intro β
    by_cases h : 0 ≤ b
    ·
      refine x_aload_n (pc := 84) 0 dX9_leaves_84 rfl rfl ?_
      refine x_iload_n (pc := 85) 1 dX9_leaves_85 rfl rfl ?_
      refine x_if_ge_t (pc := 86) 93 dX9_leaves_86 (by decide) (h) ?_
      refine x_iload_n (pc := 93) 1 dX9_leaves_93 rfl rfl ?_
      refine x_puti_h (pc := 94) dX9_leaves_94 pX9_105 (zat_b rfl rfl) rfl rfl ?_
      refine x_vret (pc := 97) dX9_leaves_97 rfl ?_
      exact ⟨rfl, by rw [if_pos h]⟩
    ·
      refine x_aload_n (pc := 84) 0 dX9_leaves_84 rfl rfl ?_
      refine x_iload_n (pc := 85) 1 dX9_leaves_85 rfl rfl ?_
      refine x_if_ge_f (pc := 86) 93 dX9_leaves_86 (by decide) (h) ?_
      refine x_iconst (pc := 89) (nI 0) dX9_leaves_89 (by decide) ?_
      refine x_goto (pc := 90) 94 dX9_leaves_90 (by decide) ?_
      refine x_puti_h (pc := 94) dX9_leaves_94 pX9_105 (zat_b rfl rfl) rfl rfl ?_
      refine x_vret (pc := 97) dX9_leaves_97 rfl ?_
      exact ⟨rfl, by rw [if_neg h]⟩
  intro t
  induction t with
  | zero =>
    intro α hQ
    obtain ⟨q1, q2, q3⟩ := hQ
    refine x_aload_n (pc := 0) 0 dX9_leaves_0 rfl rfl ?_
    refine x_geti_h (pc := 1) dX9_leaves_1 fX9_102 (zat_b rfl rfl) rfl rfl ?_
    rw [q1]
    refine x_if_le_t (pc := 4) 84 dX9_leaves_4 (by decide) (by decide) ?_
    exact fin α
  | succ t ih =>
    intro α hQ
    obtain ⟨q1, q2, q3⟩ := hQ
    have hl := q3 t (by omega)
    obtain ⟨g1, g2, g3, g4, g5⟩ := hl.is (Nat.le_refl _)
    have e1 : α 100 10 - nI 1 = nI t := by rw [q1]; exact nI_pred t
    refine x_aload_n (pc := 0) 0 dX9_leaves_0 rfl rfl ?_
    refine x_geti_h (pc := 1) dX9_leaves_1 fX9_102 (zat_b rfl rfl) rfl rfl ?_
    rw [q1]
    refine x_if_le_f (pc := 4) 84 dX9_leaves_4 (by decide) (nI_nle (by omega) (by omega)) ?_
    refine x_aload_n (pc := 7) 0 dX9_leaves_7 rfl rfl ?_
    refine x_getr (pc := 8) (106) dX9_leaves_8 fX9_26 (zat_b rfl rfl) rfl ?_
    refine x_aload_n (pc := 11) 0 dX9_leaves_11 rfl rfl ?_
    refine x_getr (pc := 12) (109) dX9_leaves_12 fX9_35 (zat_b rfl rfl) rfl ?_
    refine x_aload_n (pc := 15) 0 dX9_leaves_15 rfl rfl ?_
    refine x_geti_h (pc := 16) dX9_leaves_16 fX9_102 (zat_b rfl rfl) rfl rfl ?_
    refine x_iconst (pc := 19) (nI 1) dX9_leaves_19 (by decide) ?_
    refine x_isub (pc := 20) dX9_leaves_20 ?_
    have hj21 : t < 30 := by omega
    refine x_iald_h (pc := 21) (t) dX9_leaves_21 (zar_b rfl rfl rfl) rfl (e1) hj21 (Nat.lt_of_lt_of_le hj21 (by decide)) ?_
    refine x_callS1i (pc := 22) dX9_leaves_22 lX9_71 (t_size d _) (Nat.le_of_ble_eq_true rfl) (Or.inl zgr) ?_
    have hj25 : zv (α 109 t) < 31 := by omega
    refine x_iald_h (pc := 25) (zv (α 109 t)) dX9_leaves_25 (zar_b rfl rfl rfl) rfl (g3) hj25 (Nat.lt_of_lt_of_le hj25 (by decide)) ?_
    refine x_iload_n (pc := 26) 1 dX9_leaves_26 rfl rfl ?_
    by_cases h : b < α 106 (zv (α 109 t))
    ·
      refine x_icmp_le_f (pc := 27) 84 dX9_leaves_27 (by decide) (Int32.not_le.mpr h) ?_
      refine x_aload_n (pc := 30) 0 dX9_leaves_30 rfl rfl ?_
      refine x_dup (pc := 31) dX9_leaves_31 rfl ?_
      refine x_geti_h (pc := 32) dX9_leaves_32 fX9_102 (zat_b rfl rfl) rfl rfl ?_
      refine x_iconst (pc := 35) (nI 1) dX9_leaves_35 (by decide) ?_
      refine x_isub (pc := 36) dX9_leaves_36 ?_
      refine x_puti_h (pc := 37) dX9_leaves_37 pX9_102 (zat_b rfl rfl) rfl rfl ?_
      rw [e1]
      refine x_aload_n (pc := 40) 0 dX9_leaves_40 rfl rfl ?_
      refine x_getr (pc := 41) (109) dX9_leaves_41 fX9_35 (zat_b rfl rfl) rfl ?_
      refine x_aload_n (pc := 44) 0 dX9_leaves_44 rfl rfl ?_
      refine x_geti_h (pc := 45) dX9_leaves_45 fX9_102 (zat_b rfl rfl) rfl rfl ?_
      have hj48 : t < 30 := by omega
      refine x_iald_h (pc := 48) (t) dX9_leaves_48 (zar_b rfl rfl rfl) rfl (zup_same _ _ _ _) hj48 (Nat.lt_of_lt_of_le hj48 (by decide)) ?_
      have e2 : zup α 100 10 (nI t) 109 t = α 109 t := zup_p (by decide)
      rw [e2]
      have J : zX E (d + 2) mX9_leaves 70 [some (.ref 100), some (.int b), some (.int (α 109 t))] [.int (if 0 < α 109 t then nI 1 else nI 0), .int (nI 32 + zab (α 109 t)), .ref 101] (κ, zup α 100 10 (nI t), τ) (fun r ν => r = none ∧ ν = (κ, zup (a_leaveL b (t + 1) α) 100 11 (if 0 ≤ b then b else nI 0), τ)) := by
        have hj70 : 32 + zv (α 109 t) < 13326 := by omega
        refine x_iast_h (pc := 70) (32 + zv (α 109 t)) dX9_leaves_70 (zar_b rfl rfl rfl) rfl (by rw [g3, nI_add]) hj70 (Nat.lt_of_lt_of_le hj70 (by decide)) ?_
        refine x_aload_n (pc := 71) 0 dX9_leaves_71 rfl rfl ?_
        refine x_getr (pc := 72) (105) dX9_leaves_72 fX9_23 (zat_b rfl rfl) rfl ?_
        refine x_iload_n (pc := 75) 2 dX9_leaves_75 rfl rfl ?_
        refine x_callS1i (pc := 76) dX9_leaves_76 lX9_71 (t_size d _) (Nat.le_of_ble_eq_true rfl) (Or.inl zgr) ?_
        refine x_iconst (pc := 79) (nI 0) dX9_leaves_79 (by decide) ?_
        have hj80 : zv (α 109 t) < 31 := by omega
        refine x_iast_h (pc := 80) (zv (α 109 t)) dX9_leaves_80 (zar_b rfl rfl rfl) rfl (g3) hj80 (Nat.lt_of_lt_of_le hj80 (by decide)) ?_
        refine x_goto (pc := 81) 0 dX9_leaves_81 (by decide) ?_
        refine zX.sub (zs1 (zs1 (zsn zse))) ?_
        rw [a_leaveL, if_pos h]
        refine ih _ ⟨?_, by omega, fun i hi => ?_⟩
        · rw [zup_p (by decide), zup_p (by decide), zup_same]
        · rw [zup_p (by decide), zup_p (by decide), zup_p (by decide)]
          exact q3 i (by omega)
      by_cases h2 : 0 < α 109 t
      · rw [if_pos h2] at J
        refine x_istore_n (pc := 49) 2 dX9_leaves_49 rfl (by decide) rfl ?_
        refine x_aload_n (pc := 50) 0 dX9_leaves_50 rfl rfl ?_
        refine x_getr (pc := 51) (101) dX9_leaves_51 fX9_7 (zat_b rfl rfl) rfl ?_
        refine x_bipush (pc := 54) (nI 32) dX9_leaves_54 (by decide) ?_
        refine x_iload_n (pc := 56) 2 dX9_leaves_56 rfl rfl ?_
        refine x_callS1i (pc := 57) dX9_leaves_57 lX9_71 (t_size d _) (Nat.le_of_ble_eq_true rfl) (Or.inl zgr) ?_
        refine x_iadd (pc := 60) dX9_leaves_60 ?_
        refine x_iload_n (pc := 61) 2 dX9_leaves_61 rfl rfl ?_
        refine x_if_le_f (pc := 62) 69 dX9_leaves_62 (by decide) (Int32.not_le.mpr h2) ?_
        refine x_iconst (pc := 65) (nI 1) dX9_leaves_65 (by decide) ?_
        refine x_goto (pc := 66) 70 dX9_leaves_66 (by decide) ?_
        exact J
      · rw [if_neg h2] at J
        refine x_istore_n (pc := 49) 2 dX9_leaves_49 rfl (by decide) rfl ?_
        refine x_aload_n (pc := 50) 0 dX9_leaves_50 rfl rfl ?_
        refine x_getr (pc := 51) (101) dX9_leaves_51 fX9_7 (zat_b rfl rfl) rfl ?_
        refine x_bipush (pc := 54) (nI 32) dX9_leaves_54 (by decide) ?_
        refine x_iload_n (pc := 56) 2 dX9_leaves_56 rfl rfl ?_
        refine x_callS1i (pc := 57) dX9_leaves_57 lX9_71 (t_size d _) (Nat.le_of_ble_eq_true rfl) (Or.inl zgr) ?_
        refine x_iadd (pc := 60) dX9_leaves_60 ?_
        refine x_iload_n (pc := 61) 2 dX9_leaves_61 rfl rfl ?_
        refine x_if_le_t (pc := 62) 69 dX9_leaves_62 (by decide) (Int32.not_lt.mp h2) ?_
        refine x_iconst (pc := 69) (nI 0) dX9_leaves_69 (by decide) ?_
        exact J
    ·
      refine x_icmp_le_t (pc := 27) 84 dX9_leaves_27 (by decide) (Int32.not_lt.mp h) ?_
      rw [a_leaveL, if_neg h]
      exact fin α
theorem t_leaves (d : Nat) (b : Int32) {t : Nat} (hQ : aQ α t) : zTr E (d + 2) mX9_leaves [.ref 100, .int b] (κ, α, τ) none (κ, a_leaves α b, τ) := by
  refine zM.tr (zM_of [some (.ref 100), some (.int b), none] (by decide) rfl (Nat.le_of_ble_eq_true rfl) ?_)
  have hc : (α 100 10).toNatClampNeg = t := by rw [hQ.1]; exact nI_clamp (by have := hQ.2.1; omega)
  rw [a_leaves, hc]
  exact l_leaves d b t α hQ
end M4
