/-! the reference: a step, and solve -/
theorem nI_nem1 {c : Nat} (h : c < 2 ^ 31) : ¬ nI c = -1 := fun q => by have := congrArg Int32.toInt q; rw [nI_toInt h] at this; simp at this
theorem zopn_z {t : Nat → Int32} : ∀ {m k n : Nat}, (∀ j, k ≤ j → j < k + m → ¬ t j = 0) → zopn t k m n = n ∨ zopn t k m n = 31
  | 0, k, n, h => Or.inl rfl
  | m + 1, k, n, h => by
    unfold zopn
    split
    · exact Or.inr rfl
    · rw [if_neg (h k (Nat.le_refl _) (by omega))]
      exact zopn_z (fun j a b => h j (by omega) (by omega))
theorem a_openOne_lok {α : Nat → Nat → Int32} {c : Nat} (hW : aW α) (hc : c < aN α) (ho : a_open α c = 1) : lok 30 (a_openOne α c) := by
  unfold a_openOne
  cases h : zfind (fun k => decide (a_tr α (aL α c k) = 0)) 0 (aS α c) with
  | none =>
    have := zopn_z (t := fun k => a_tr α (aL α c k)) (m := aS α c) (k := 0) (n := 0) (fun j a b => by simpa using zfind_none h j a b)
    unfold a_open at ho
    omega
  | some k =>
    obtain ⟨h1, h2, h3, h4⟩ := zfind_some h
    exact hW.l hc (by omega)
theorem a_first_some {α : Nat → Nat → Int32} {m c : Nat} (h : a_first α m = some c) : c < aN α ∧ a_gone α c = false ∧ a_open α c = m ∧ ∀ j, j < c → a_gone α j = true ∨ ¬ a_open α j = m := by
  obtain ⟨h1, h2, h3, h4⟩ := zfind_some h
  simp only [Bool.and_eq_true, Bool.not_eq_true'] at h3
  refine ⟨by omega, h3.1, Nat.eq_of_beq_eq_true h3.2, fun j hj => ?_⟩
  have := h4 j (by omega) hj
  simp only [Bool.and_eq_false_iff, Bool.not_eq_false'] at this
  rcases this with q | q
  · exact Or.inl q
  · exact Or.inr (fun e => by rw [e, Nat.beq_refl] at q; cases q)
theorem a_comes_Q {α : Nat → Nat → Int32} {t : Nat} {l w : Int32} (hQ : aQ α t) (h : t < 30) (hl : lok 30 l) : aQ (a_comes α l w) (t + 1) := by
  obtain ⟨q1, q2, q3⟩ := hQ
  have hc : (α 100 10).toNatClampNeg = t := by rw [q1]; exact nI_clamp (by omega)
  unfold a_comes
  rw [hc]
  refine ⟨by rw [zup_same, q1, nI_add], by omega, fun i hi => ?_⟩
  rw [zup_p (by decide)]
  by_cases e : i = t
  · rw [e, zup_same]; exact hl
  · rw [zup_i e, zup_p (by decide), zup_p (by decide), zup_p (by decide), zup_p (by decide)]
    exact q3 i (by omega)
theorem a_leaveL_Q {b : Int32} : ∀ t α, aQ α t → ∃ t', t' ≤ t ∧ aQ (a_leaveL b t α) t'
  | 0, α, h => ⟨0, Nat.le_refl _, h⟩
  | t + 1, α, h => by
    unfold a_leaveL
    split
    · obtain ⟨q1, q2, q3⟩ := h
      obtain ⟨t', h1, h2⟩ := a_leaveL_Q (b := b) t (zup (zup (zup α 100 10 (nI t)) 101 (32 + zv (α 109 t)) (if 0 < α 109 t then nI 1 else nI 0)) 105 (zv (α 109 t)) (nI 0)) ⟨by rw [zup_p (by decide), zup_p (by decide), zup_same], by omega, fun i hi => by rw [zup_p (by decide), zup_p (by decide), zup_p (by decide)]; exact q3 i (by omega)⟩
      exact ⟨t', by omega, h2⟩
    · exact ⟨t + 1, Nat.le_refl _, h⟩
theorem a_leaves_Q {α : Nat → Nat → Int32} {b : Int32} {t : Nat} (h : aQ α t) : ∃ t', t' ≤ t ∧ aQ (a_leaves α b) t' := by
  have hc : (α 100 10).toNatClampNeg = t := by rw [h.1]; exact nI_clamp (by have := h.2.1; omega)
  obtain ⟨t', h1, h2⟩ := a_leaveL_Q (b := b) t α h
  refine ⟨t', h1, ?_⟩
  unfold a_leaves
  rw [hc]
  exact h2.up (by decide) (by decide)
/-- leaving changes the trail's length, phases, truths, the level -/
theorem a_leaveL_at {b : Int32} {p i : Nat} (h1 : p ≠ 105) (h2 : ¬ (p = 100 ∧ i = 10)) (h3 : p = 101 → i < 33 ∨ 62 < i) : ∀ n α, (∀ i, i < n → lok 30 (α 109 i)) → a_leaveL b n α p i = α p i
  | 0, α, h => rfl
  | n + 1, α, h => by
    unfold a_leaveL
    split
    · obtain ⟨g1, g2, -⟩ := (h n (by omega)).is (Nat.le_refl _)
      rw [a_leaveL_at h1 h2 h3 n _ (fun i hi => by rw [zup_p (by decide), zup_p (by decide), zup_p (by decide)]; exact h i (by omega))]
      rw [zup_p h1]
      unfold zup
      rw [if_neg (fun q => by have := h3 q.1; omega), if_neg h2]
    · rfl
theorem a_leaves_at {α : Nat → Nat → Int32} {b : Int32} {t p i : Nat} (h : aQ α t) (h1 : p ≠ 105) (h2 : p = 100 → i ≠ 10 ∧ i ≠ 11) (h3 : p = 101 → i < 33 ∨ 62 < i) : a_leaves α b p i = α p i := by
  have hc : (α 100 10).toNatClampNeg = t := by rw [h.1]; exact nI_clamp (by have := h.2.1; omega)
  unfold a_leaves zup
  rw [if_neg (fun q => (h2 q.1).2 q.2), hc]
  exact a_leaveL_at h1 (fun q => (h2 q.1).1 q.2) h3 t α h.2.2
theorem a_ch_le (α : Nat → Nat → Int32) : ∀ m v b, b < v → zit (a_chF α) v m b < v + m
  | 0, v, b, h => h
  | m + 1, v, b, h => by
    show zit (a_chF α) (v + 1) m (a_chF α v b) < _
    have := a_ch_le α m (v + 1) (a_chF α v b) (by unfold a_chF; split <;> omega)
    omega
theorem a_choice_le (α : Nat → Nat → Int32) : a_choice α ≤ aV α := by
  have := a_ch_le α (aV α) 1 0 (by omega)
  unfold a_choice
  omega
theorem a_coStep_off (n : Nat) (x : Int32 × (Nat → Nat → Int32)) : zoff [112] x.2 (a_coStep n x).2 := by
  unfold a_coStep
  split
  · exact zoff.rf
  · split
    · split <;> exact zoff.rf
    · exact zit_off _ (a_thF_off _) _ _ _
theorem a_coL_off : ∀ n x, zoff [112] x.2 (a_coL n x).2
  | 0, x => zoff.rf
  | n + 1, x => (a_coStep_off n x).tr (a_coL_off n (a_coStep n x))
theorem a_core_off {α : Nat → Nat → Int32} (k : Nat) : zoff [112] α (a_core α k).2 := ((a_clr_off α).up (by decide)).tr (a_coL_off _ _)
def a_conf (α : Nat → Nat → Int32) (c : Nat) (b : Int32) : Int32 × (Nat → Nat → Int32) :=
  if α 100 11 = 0 then (nI 0, a_refuted α) else if α 101 1 = nI 400 then (nI 3, a_ends α 3) else
  if α 100 15 + nI 1 = b then (nI 2, a_ends (a_anew (zup (a_learns α c) 100 15 (α 100 15 + nI 1))) 2) else (-1, a_anew (zup (a_learns α c) 100 15 (α 100 15 + nI 1)))
def a_step (α : Nat → Nat → Int32) (b : Int32) : Int32 × (Nat → Nat → Int32) := match a_first α 0 with
  | some c => a_conf α c b
  | none => match a_first α 1 with
    | some c => (-1, a_comes (zup α 101 10 (α 101 10 + nI 1)) (a_openOne α c) (nI c))
    | none => match a_assOpen α with
      | some k => if a_tr α (α 101 (16 + k)) < 0 then (nI 0, a_ends (zup (a_core α k).2 101 13 (a_core α k).1) 0) else (-1, a_comes (zup α 100 11 (α 100 11 + nI 1)) (α 101 (16 + k)) (-1))
      | none => if a_choice α = 0 then (nI 1, a_ends α 1) else (-1, a_comes (zup (zup α 100 11 (α 100 11 + nI 1)) 101 9 (α 101 9 + nI 1)) (if α 101 (32 + a_choice α) = nI 1 then nI (a_choice α) else -(nI (a_choice α))) (-1))
/-- what a step wants -/
def stOK (α : Nat → Nat → Int32) : Prop :=
  aW α ∧ aWA α ∧ (∃ t, aQ α t ∧ aR α t ∧ (a_first α 0 = none → (¬ a_first α 1 = none ∨ (∃ k, a_assOpen α = some k ∧ ¬ a_tr α (α 101 (16 + k)) < 0) ∨ (a_assOpen α = none ∧ ¬ a_choice α = 0)) → t < 30)) ∧
  (∃ lv, lv < 2 ^ 31 ∧ α 100 11 = nI lv) ∧ (∃ a, α 100 17 = nI a ∧ a ≤ 200) ∧ α 101 6 = nI (aLn α) ∧ aLn α ≤ 400 ∧
  (∀ c, a_first α 0 = some c → ¬ α 100 11 = 0 → aN α < 400 → lnOK α c)
section M11
variable {E : zEnv} {κ α : Nat → Nat → Int32} {τ : (Nat → Nat → Int64) × (Nat → Nat)}
theorem a_begins_at {f n : Int32} {p i : Nat} (h : p = 101 → i ≠ 1 ∧ i ≠ 2 ∧ (i < 125 ∨ 924 < i)) (h4 : aN α < 400) : a_begins α f n p i = α p i := by
  unfold a_begins zup
  rw [if_neg (fun q => by have := h q.1; omega), if_neg (fun q => by have := h q.1; omega), if_neg (fun q => by have := h q.1; omega), if_neg (fun q => by have := h q.1; omega)]
/-- what learning leaves as it was: scalars of the search, and the first numbers of the row but for the clauses, lines, learnings -/
theorem a_l9_at {c i p : Nat} (hN : aN α < 400) (hV : aV α ≤ 30) (hL : aLn α ≤ 400) (h : p = 101 ∧ (i = 0 ∨ i = 3 ∨ i = 4 ∨ i = 5 ∨ i = 7 ∨ (9 ≤ i ∧ i < 63) ∨ (94 ≤ i ∧ i < 125)) ∨ p = 100 ∨ (105 ≤ p ∧ p ≤ 109)) : a_l9 α c p i = α p i := by
  rcases h with ⟨rfl, h⟩ | h
  · unfold a_l9
    rw [zit_scF _ _ _ _ (by omega)]
    unfold a_l8
    rw [zup_i (by omega), zup_i (by omega), zup_i (by omega)]
    unfold a_l7
    rw [a_wrl_p (Or.inr (by omega))]
    unfold a_l6
    have hN5 : aN (a_l5 α c) = aN α := zo_N (a_l5_off α c) (by decide)
    rw [a_begins_at (fun _ => by omega) (by omega)]
    exact (a_l5_off α c).at (by decide) i
  · refine (a_l9_off c).at ?_ i
    intro q
    simp only [List.mem_cons, List.not_mem_nil, or_false] at q
    omega
theorem a_l6_V {c : Nat} (hN : aN α < 400) : aV (a_l6 α c) = aV α := by
  have hN5 : aN (a_l5 α c) = aN α := zo_N (a_l5_off α c) (by decide)
  unfold aV a_l6
  rw [a_begins_at (fun _ => by omega) (by omega), (a_l5_off α c).at (by decide)]
theorem a_lst_lok {c : Nat} (hN : aN α < 400) (h30 : aV α ≤ 30) : ∀ k, k < (a_lst α c).length → lok 30 ((a_lst α c).getD k 0) := by
  intro k hk
  rw [List.getD_eq_getElem?_getD, List.getElem?_eq_getElem hk]
  exact a_outL_lok (a_l6 α c) (by rw [a_l6_V hN]; exact h30) _ _ (List.getElem_mem hk)
theorem a_l9_lit {c : Nat} (h30 : aV α ≤ 30) (hln2 : aLn α ≤ 400) : ∀ k, k < (a_lst α c).length → a_l9 α c 101 (1326 + 30 * aN α + k) = (a_lst α c).getD k 0 := by
  intro k hk
  unfold a_l9
  rw [zit_scF _ _ _ _ (by omega)]
  unfold a_l8
  rw [zup_i (by omega), zup_i (by omega), zup_i (by omega)]
  unfold a_l7 a_wrl
  rw [if_pos ⟨rfl, by omega, by omega⟩]
  congr 1
  omega
theorem a_learns_Q {c t : Nat} (hN : aN α < 400) (h30 : aV α ≤ 30) (hln2 : aLn α ≤ 400) (hQ : aQ α t) (hL : lnOK α c) : ∃ t', t' < 30 ∧ aQ (a_l10 α c) t' ∧ aQ (a_learns α c) (t' + 1) ∧ lok 30 (a_l10 α c 101 (1326 + 30 * aN α + 0)) := by
  obtain ⟨-, -, -, -, k5, -, t', k7, k8⟩ := hL
  have hQ9 : aQ (a_l9 α c) t := hQ.off (a_l9_off c) (by decide) (by decide)
  obtain ⟨t2, ht2, hQ10⟩ := a_leaves_Q (b := if 1 < a_cnt (a_l5 α c) then a_l9 α c 106 (zv (a_l9 α c 101 (1326 + 30 * aN α + 1))) else nI 0) hQ9
  have hQ10 : aQ (a_l10 α c) t2 := hQ10
  have et : t2 = t' := by
    have e := hQ10.1.symm.trans k7
    exact (nI_eq (by have := hQ10.2.1; omega) (by omega)).mp e
  subst et
  have hl : lok 30 (a_l10 α c 101 (1326 + 30 * aN α + 0)) := by
    unfold a_l10
    rw [a_leaves_101 hQ9 (by omega), a_l9_lit h30 hln2 0 (by omega)]
    exact a_lst_lok hN h30 0 (by omega)
  exact ⟨t2, k8, hQ10, a_comes_Q hQ10 k8 hl, hl⟩
/-- what learning leaves as it was -/
theorem a_learns_at {c t : Nat} (hN : aN α < 400) (h30 : aV α ≤ 30) (hln2 : aLn α ≤ 400) (hQ : aQ α t) {p i : Nat} (h : p = 101 ∧ (i = 0 ∨ i = 3 ∨ i = 4 ∨ i = 5 ∨ i = 7 ∨ (9 ≤ i ∧ i < 33)) ∨ p = 100 ∧ i ≠ 10 ∧ i ≠ 11) : a_learns α c p i = α p i := by
  have hQ9 : aQ (a_l9 α c) t := hQ.off (a_l9_off c) (by decide) (by decide)
  have q : a_l10 α c p i = a_l9 α c p i := by
    unfold a_l10
    exact a_leaves_at hQ9 (by omega) (by omega) (by omega)
  have q2 : a_learns α c p i = a_l10 α c p i := by
    unfold a_learns a_comes zup
    rw [if_neg (by omega), if_neg (by omega), if_neg (by omega), if_neg (by omega), if_neg (by omega), if_neg (by omega)]
  rw [q2, q]
  exact a_l9_at hN h30 hln2 (by omega)
theorem a_anew_Q {t : Nat} (hQ : aQ α t) : ∃ t', t' ≤ t ∧ aQ (a_anew α) t' := by
  unfold a_anew
  split
  · exact ⟨t, Nat.le_refl _, hQ.up (by decide) (by decide)⟩
  · exact a_leaves_Q ((((hQ.up (by decide) (by decide)).up (by decide) (by decide)).up (by decide) (by decide)).up (by decide) (by decide))
theorem a_anew_at {t p i : Nat} (hQ : aQ α t) (h : p = 101 ∧ (i < 33 ∨ 62 < i) ∧ i ≠ 11 ∨ p = 100 ∧ i < 16 ∧ i ≠ 10 ∧ i ≠ 11) : a_anew α p i = α p i := by
  unfold a_anew
  split
  · unfold zup; rw [if_neg (by omega)]
  · rw [a_leaves_at ((((hQ.up (by decide) (by decide)).up (by decide) (by decide)).up (by decide) (by decide)).up (by decide) (by decide)) (by omega) (by omega) (by omega)]
    unfold zup
    rw [if_neg (by omega), if_neg (by omega), if_neg (by omega), if_neg (by omega)]
theorem t_conflictAt (d : Nat) {c : Nat} (b : Int32) (hc : a_first α 0 = some c) (hS : stOK α) : zTr E (d + 211) mX9_conflictAt [.ref 100, .int (nI c), .int b] (κ, α, τ) (some (.int (a_conf α c b).1)) (κ, (a_conf α c b).2, τ) := by
  obtain ⟨hW, hA, ⟨t, hQ, hR, ht⟩, ⟨lv, hlv2, hlv⟩, ⟨a, ha, ha2⟩, hln, hln2, hK⟩ := hS
  obtain ⟨hcN, -⟩ := a_first_some hc
  have h30 := hW.v30
  refine zM.tr (zM_of [some (.ref 100), some (.int (nI c)), some (.int b)] (by decide) rfl (Nat.le_of_ble_eq_true rfl) ?_)
  unfold a_conf
  by_cases h1 : α 100 11 = 0
  · rw [if_pos h1]
    refine x_aload_n (pc := 0) 0 dX9_conflictAt_0 rfl rfl ?_
    refine x_geti_h (pc := 1) dX9_conflictAt_1 fX9_105 (zat_b rfl rfl) rfl rfl ?_
    refine x_if_ne_f (pc := 4) 12 dX9_conflictAt_4 (by decide) (h1) ?_
    refine x_aload_n (pc := 7) 0 dX9_conflictAt_7 rfl rfl ?_
    refine x_callV0i (pc := 8) dX9_conflictAt_8 lX9_153 (zat_b rfl rfl) rfl (t_refuted (d + 206) hQ hW.v h30 hln (fun _ => hln2)) (Nat.le_of_ble_eq_true rfl) (Or.inl zgr) ?_
    refine x_iret (pc := 11) dX9_conflictAt_11 rfl ?_
    exact ⟨rfl, rfl⟩
  · rw [if_neg h1]
    by_cases h2 : α 101 1 = nI 400
    · rw [if_pos h2]
      refine x_aload_n (pc := 0) 0 dX9_conflictAt_0 rfl rfl ?_
      refine x_geti_h (pc := 1) dX9_conflictAt_1 fX9_105 (zat_b rfl rfl) rfl rfl ?_
      refine x_if_ne_t (pc := 4) 12 dX9_conflictAt_4 (by decide) (h1) ?_
      refine x_aload_n (pc := 12) 0 dX9_conflictAt_12 rfl rfl ?_
      refine x_getr (pc := 13) (101) dX9_conflictAt_13 fX9_7 (zat_b rfl rfl) rfl ?_
      refine x_iconst (pc := 16) (nI 1) dX9_conflictAt_16 (by decide) ?_
      have hj17 : 1 < 13326 := by omega
      refine x_iald_h (pc := 17) (1) dX9_conflictAt_17 (zar_b rfl rfl rfl) rfl (by first | rfl | simp only [pk_mul, nI_add] | simp only [zon, pk_mul, nI_add]) hj17 (Nat.lt_of_lt_of_le hj17 (by decide)) ?_
      refine x_sipush (pc := 18) (nI 400) dX9_conflictAt_18 (by decide) ?_
      refine x_icmp_ne_f (pc := 21) 30 dX9_conflictAt_21 (by decide) (h2) ?_
      refine x_aload_n (pc := 24) 0 dX9_conflictAt_24 rfl rfl ?_
      refine x_iconst (pc := 25) (nI 3) dX9_conflictAt_25 (by decide) ?_
      refine x_callV1i (pc := 26) dX9_conflictAt_26 lX9_147 (zat_b rfl rfl) rfl (t_ends (d + 207) (how := 3) hQ (by decide) hW.v h30) (Nat.le_of_ble_eq_true rfl) (Or.inl zgr) ?_
      refine x_iret (pc := 29) dX9_conflictAt_29 rfl ?_
      exact ⟨rfl, rfl⟩
    · rw [if_neg h2]
      have hN : aN α < 400 := by
        rcases Nat.lt_or_ge (aN α) 400 with q | q
        · exact q
        · exact absurd (by rw [hW.n, show aN α = 400 by have := hW.n400; omega]) h2
      have hL := hK c hc h1 hN
      obtain ⟨t', k8, hQ10, hQl, -⟩ := a_learns_Q hN h30 hln2 hQ hL
      have atL : ∀ {p i : Nat}, (p = 101 ∧ (i = 0 ∨ i = 3 ∨ i = 4 ∨ i = 5 ∨ i = 7 ∨ (9 ≤ i ∧ i < 33)) ∨ p = 100 ∧ i ≠ 10 ∧ i ≠ 11) → a_learns α c p i = α p i := fun h => a_learns_at hN h30 hln2 hQ h
      refine x_aload_n (pc := 0) 0 dX9_conflictAt_0 rfl rfl ?_
      refine x_geti_h (pc := 1) dX9_conflictAt_1 fX9_105 (zat_b rfl rfl) rfl rfl ?_
      refine x_if_ne_t (pc := 4) 12 dX9_conflictAt_4 (by decide) (h1) ?_
      refine x_aload_n (pc := 12) 0 dX9_conflictAt_12 rfl rfl ?_
      refine x_getr (pc := 13) (101) dX9_conflictAt_13 fX9_7 (zat_b rfl rfl) rfl ?_
      refine x_iconst (pc := 16) (nI 1) dX9_conflictAt_16 (by decide) ?_
      have hj17 : 1 < 13326 := by omega
      refine x_iald_h (pc := 17) (1) dX9_conflictAt_17 (zar_b rfl rfl rfl) rfl (by first | rfl | simp only [pk_mul, nI_add] | simp only [zon, pk_mul, nI_add]) hj17 (Nat.lt_of_lt_of_le hj17 (by decide)) ?_
      refine x_sipush (pc := 18) (nI 400) dX9_conflictAt_18 (by decide) ?_
      refine x_icmp_ne_t (pc := 21) 30 dX9_conflictAt_21 (by decide) (h2) ?_
      refine x_aload_n (pc := 30) 0 dX9_conflictAt_30 rfl rfl ?_
      refine x_iload_n (pc := 31) 1 dX9_conflictAt_31 rfl rfl ?_
      refine x_callV1v (pc := 32) dX9_conflictAt_32 lX9_156 (zat_b rfl rfl) rfl (t_learns (d + 207) hW hN hcN hln hln2 hQ hlv hlv2 hL) (Nat.le_of_ble_eq_true rfl) (Or.inl zgr) ?_
      refine x_aload_n (pc := 35) 0 dX9_conflictAt_35 rfl rfl ?_
      refine x_dup (pc := 36) dX9_conflictAt_36 rfl ?_
      refine x_geti_h (pc := 37) dX9_conflictAt_37 fX9_159 (zat_b rfl rfl) rfl rfl ?_
      rw [atL (p := 100) (i := 15) (by omega)]
      have hQ2 : aQ (zup (a_learns α c) 100 15 (α 100 15 + nI 1)) (t' + 1) := hQl.up (by decide) (by decide)
      have ha3 : zup (a_learns α c) 100 15 (α 100 15 + nI 1) 100 17 = nI a := by rw [zup_i (by decide), atL (by omega)]; exact ha
      refine x_iconst (pc := 40) (nI 1) dX9_conflictAt_40 (by decide) ?_
      refine x_iadd (pc := 41) dX9_conflictAt_41 ?_
      refine x_puti_h (pc := 42) dX9_conflictAt_42 pX9_159 (zat_b rfl rfl) rfl rfl ?_
      refine x_aload_n (pc := 45) 0 dX9_conflictAt_45 rfl rfl ?_
      refine x_callV0v (pc := 46) dX9_conflictAt_46 lX9_162 (zat_b rfl rfl) rfl (t_startsAnew d hQ2 ha3 ha2) (Nat.le_of_ble_eq_true rfl) (Or.inl zgr) ?_
      refine x_aload_n (pc := 49) 0 dX9_conflictAt_49 rfl rfl ?_
      refine x_geti_h (pc := 50) dX9_conflictAt_50 fX9_159 (zat_b rfl rfl) rfl rfl ?_
      rw [a_anew_at hQ2 (by omega), zup_same]
      by_cases h3 : α 100 15 + nI 1 = b
      · rw [if_pos h3]
        obtain ⟨t3, -, hQ3⟩ := a_anew_Q hQ2
        have e0 : a_anew (zup (a_learns α c) 100 15 (α 100 15 + nI 1)) 101 0 = α 101 0 := by rw [a_anew_at hQ2 (by omega), zup_p (by decide), atL (by omega)]
        refine x_iload_n (pc := 53) 2 dX9_conflictAt_53 rfl rfl ?_
        refine x_icmp_ne_f (pc := 54) 65 dX9_conflictAt_54 (by decide) (h3) ?_
        refine x_aload_n (pc := 57) 0 dX9_conflictAt_57 rfl rfl ?_
        refine x_iconst (pc := 58) (nI 2) dX9_conflictAt_58 (by decide) ?_
        refine x_callV1i (pc := 59) dX9_conflictAt_59 lX9_147 (zat_b rfl rfl) rfl (t_ends (d + 207) (how := 2) hQ3 (by decide) (by unfold aV; rw [e0]; exact hW.v) (by unfold aV; rw [e0]; exact h30)) (Nat.le_of_ble_eq_true rfl) (Or.inl zgr) ?_
        refine x_goto (pc := 62) 66 dX9_conflictAt_62 (by decide) ?_
        refine x_iret (pc := 66) dX9_conflictAt_66 rfl ?_
        exact ⟨rfl, rfl⟩
      · rw [if_neg h3]
        refine x_iload_n (pc := 53) 2 dX9_conflictAt_53 rfl rfl ?_
        refine x_icmp_ne_t (pc := 54) 65 dX9_conflictAt_54 (by decide) (h3) ?_
        refine x_iconst (pc := 65) (-1) dX9_conflictAt_65 (by decide) ?_
        refine x_iret (pc := 66) dX9_conflictAt_66 rfl ?_
        exact ⟨rfl, rfl⟩
theorem a_openOne_zup {c : Nat} {x : Int32} : a_openOne (zup α 101 10 x) c = a_openOne α c := by
  have e1 : ∀ k, aL (zup α 101 10 x) c k = aL α c k := fun k => by unfold aL; exact zup_i (by omega)
  have e2 : aS (zup α 101 10 x) c = aS α c := by unfold aS; rw [zup_i (by omega)]
  have e3 : ∀ l, a_tr (zup α 101 10 x) l = a_tr α l := fun l => by unfold a_tr; rw [zup_p (by decide)]
  unfold a_openOne
  simp only [e1, e2, e3]
theorem aW_zup {x : Int32} {p i : Nat} (hW : aW α) (h : ¬ p = 101 ∨ (2 ≤ i ∧ i < 125)) : aW (zup α p i x) := by
  have e : ∀ j, (j < 2 ∨ 125 ≤ j) → zup α p i x 101 j = α 101 j := fun j hj => by unfold zup; rw [if_neg (by omega)]
  have e0 := e 0 (by omega)
  have e1 := e 1 (by omega)
  have eV : aV (zup α p i x) = aV α := by unfold aV; rw [e0]
  have eN : aN (zup α p i x) = aN α := by unfold aN; rw [e1]
  have eS : ∀ c, aS (zup α p i x) c = aS α c := fun c => by unfold aS; rw [e _ (by omega)]
  have eL : ∀ c k, aL (zup α p i x) c k = aL α c k := fun c k => by unfold aL; rw [e _ (by omega)]
  refine ⟨⟨by rw [e0, eV]; exact hW.v, by rw [eV]; exact hW.v30⟩, ⟨by rw [e1, eN]; exact hW.n, by rw [eN]; exact hW.n400⟩, fun c hc => ?_, fun c hc k hk => ?_⟩
  · rw [eN] at hc
    rw [e _ (by omega), eS]
    exact ⟨hW.s hc, hW.s30 hc⟩
  · rw [eN] at hc
    rw [eS] at hk
    rw [eL, eV]
    exact hW.2.2.2 c hc k hk
theorem t_step (d : Nat) (b : Int32) (hS : stOK α) : zTr E (d + 212) mX9_step [.ref 100, .int b] (κ, α, τ) (some (.int (a_step α b).1)) (κ, (a_step α b).2, τ) := by
  obtain ⟨hW, hA, ⟨t, hQ, hR, ht⟩, ⟨lv, hlv2, hlv⟩, ⟨a, ha, ha2⟩, hln, hln2, hK⟩ := id hS
  have h30 := hW.v30
  have hn4 := hW.n400
  refine zM.tr (zM_of [some (.ref 100), some (.int b), none, none, none] (by decide) rfl (Nat.le_of_ble_eq_true rfl) ?_)
  refine x_aload_n (pc := 0) 0 dX9_step_0 rfl rfl ?_
  refine x_iconst (pc := 1) (nI 0) dX9_step_1 (by decide) ?_
  refine x_callV1i (pc := 2) dX9_step_2 lX9_165 (zat_b rfl rfl) rfl (t_firstOf (d + 208) (b := 0) (by decide) hW) (Nat.le_of_ble_eq_true rfl) (Or.inl zgr) ?_
  cases h0 : a_first α 0 with
  | some c =>
    have e : a_step α b = a_conf α c b := by unfold a_step; rw [h0]
    rw [e]
    obtain ⟨hcN, -⟩ := a_first_some h0
    refine x_istore_n (pc := 5) 2 dX9_step_5 rfl (by decide) rfl ?_
    refine x_iload_n (pc := 6) 2 dX9_step_6 rfl rfl ?_
    refine x_iconst (pc := 7) (-1) dX9_step_7 (by decide) ?_
    refine x_icmp_eq_f (pc := 8) 18 dX9_step_8 (by decide) (nI_nem1 (by omega)) ?_
    refine x_aload_n (pc := 11) 0 dX9_step_11 rfl rfl ?_
    refine x_iload_n (pc := 12) 2 dX9_step_12 rfl rfl ?_
    refine x_iload_n (pc := 13) 1 dX9_step_13 rfl rfl ?_
    refine x_callV2i (pc := 14) dX9_step_14 lX9_168 (zat_b rfl rfl) rfl (t_conflictAt d b h0 hS) (Nat.le_of_ble_eq_true rfl) (Or.inl zgr) ?_
    refine x_iret (pc := 17) dX9_step_17 rfl ?_
    exact ⟨rfl, rfl⟩
  | none =>
    refine x_istore_n (pc := 5) 2 dX9_step_5 rfl (by decide) rfl ?_
    refine x_iload_n (pc := 6) 2 dX9_step_6 rfl rfl ?_
    refine x_iconst (pc := 7) (-1) dX9_step_7 (by decide) ?_
    refine x_icmp_eq_t (pc := 8) 18 dX9_step_8 (by decide) (rfl) ?_
    refine x_aload_n (pc := 18) 0 dX9_step_18 rfl rfl ?_
    refine x_iconst (pc := 19) (nI 1) dX9_step_19 (by decide) ?_
    refine x_callV1i (pc := 20) dX9_step_20 lX9_165 (zat_b rfl rfl) rfl (t_firstOf (d + 208) (b := 1) (by decide) hW) (Nat.le_of_ble_eq_true rfl) (Or.inl zgr) ?_
    cases h1 : a_first α 1 with
    | some c =>
      have e : a_step α b = (-1, a_comes (zup α 101 10 (α 101 10 + nI 1)) (a_openOne α c) (nI c)) := by unfold a_step; rw [h0, h1]
      rw [e]
      obtain ⟨hcN, hg, ho, -⟩ := a_first_some h1
      have ht' : t < 30 := ht h0 (Or.inl (by rw [h1]; simp))
      have hW2 : aW (zup α 101 10 (α 101 10 + nI 1)) := aW_zup hW (by omega)
      have hN2 : c < aN (zup α 101 10 (α 101 10 + nI 1)) := by unfold aN; rw [zup_i (by decide)]; exact hcN
      have hQ2 : aQ (zup α 101 10 (α 101 10 + nI 1)) t := hQ.up (by decide) (by decide)
      refine x_istore_n (pc := 23) 2 dX9_step_23 rfl (by decide) rfl ?_
      refine x_iload_n (pc := 24) 2 dX9_step_24 rfl rfl ?_
      refine x_iconst (pc := 25) (-1) dX9_step_25 (by decide) ?_
      refine x_icmp_eq_f (pc := 26) 52 dX9_step_26 (by decide) (nI_nem1 (by omega)) ?_
      refine x_aload_n (pc := 29) 0 dX9_step_29 rfl rfl ?_
      refine x_getr (pc := 30) (101) dX9_step_30 fX9_7 (zat_b rfl rfl) rfl ?_
      refine x_bipush (pc := 33) (nI 10) dX9_step_33 (by decide) ?_
      refine x_dup2 (pc := 35) dX9_step_35 rfl rfl ?_
      have hj36 : 10 < 13326 := by omega
      refine x_iald_h (pc := 36) (10) dX9_step_36 (zar_b rfl rfl rfl) rfl (by first | rfl | simp only [pk_mul, nI_add] | simp only [zon, pk_mul, nI_add]) hj36 (Nat.lt_of_lt_of_le hj36 (by decide)) ?_
      refine x_iconst (pc := 37) (nI 1) dX9_step_37 (by decide) ?_
      refine x_iadd (pc := 38) dX9_step_38 ?_
      have hj39 : 10 < 13326 := by omega
      refine x_iast_h (pc := 39) (10) dX9_step_39 (zar_b rfl rfl rfl) rfl (by first | rfl | simp only [pk_mul, nI_add] | simp only [zon, pk_mul, nI_add]) hj39 (Nat.lt_of_lt_of_le hj39 (by decide)) ?_
      refine x_aload_n (pc := 40) 0 dX9_step_40 rfl rfl ?_
      refine x_aload_n (pc := 41) 0 dX9_step_41 rfl rfl ?_
      refine x_iload_n (pc := 42) 2 dX9_step_42 rfl rfl ?_
      refine x_callV1i (pc := 43) dX9_step_43 lX9_171 (zat_b rfl rfl) rfl (t_openOne (d + 209) hW2 hN2) (Nat.le_of_ble_eq_true rfl) (Or.inl zgr) ?_
      rw [a_openOne_zup]
      refine x_iload_n (pc := 46) 2 dX9_step_46 rfl rfl ?_
      refine x_callV2v (pc := 47) dX9_step_47 lX9_135 (zat_b rfl rfl) rfl (t_comes (d + 209) (a_openOne_lok hW hcN ho) hQ2.1 ht') (Nat.le_of_ble_eq_true rfl) (Or.inl zgr) ?_
      refine x_iconst (pc := 50) (-1) dX9_step_50 (by decide) ?_
      refine x_iret (pc := 51) dX9_step_51 rfl ?_
      exact ⟨rfl, rfl⟩
    | none =>
      refine x_istore_n (pc := 23) 2 dX9_step_23 rfl (by decide) rfl ?_
      refine x_iload_n (pc := 24) 2 dX9_step_24 rfl rfl ?_
      refine x_iconst (pc := 25) (-1) dX9_step_25 (by decide) ?_
      refine x_icmp_eq_t (pc := 26) 52 dX9_step_26 (by decide) (rfl) ?_
      refine x_aload_n (pc := 52) 0 dX9_step_52 rfl rfl ?_
      refine x_callV0i (pc := 53) dX9_step_53 lX9_174 (zat_b rfl rfl) rfl (t_assumptionOpen (d + 209) h30 hA) (Nat.le_of_ble_eq_true rfl) (Or.inl zgr) ?_
      cases h2 : a_assOpen α with
      | some k =>
        obtain ⟨-, hk, -, -⟩ := zfind_some h2
        rw [Nat.zero_add] at hk
        have h8 := hA.2.1
        have hlk := (hA.2.2 k hk).mono h30
        refine x_istore_n (pc := 56) 3 dX9_step_56 rfl (by decide) rfl ?_
        refine x_iload_n (pc := 57) 3 dX9_step_57 rfl rfl ?_
        refine x_iconst (pc := 58) (-1) dX9_step_58 (by decide) ?_
        refine x_icmp_eq_f (pc := 59) 122 dX9_step_59 (by decide) (nI_nem1 (by omega)) ?_
        refine x_aload_n (pc := 62) 0 dX9_step_62 rfl rfl ?_
        refine x_aload_n (pc := 63) 0 dX9_step_63 rfl rfl ?_
        refine x_getr (pc := 64) (101) dX9_step_64 fX9_7 (zat_b rfl rfl) rfl ?_
        refine x_bipush (pc := 67) (nI 16) dX9_step_67 (by decide) ?_
        refine x_iload_n (pc := 69) 3 dX9_step_69 rfl rfl ?_
        refine x_iadd (pc := 70) dX9_step_70 ?_
        have hj71 : 16 + k < 13326 := by omega
        refine x_iald_h (pc := 71) (16 + k) dX9_step_71 (zar_b rfl rfl rfl) rfl (by first | rfl | simp only [pk_mul, nI_add] | simp only [zon, pk_mul, nI_add]) hj71 (Nat.lt_of_lt_of_le hj71 (by decide)) ?_
        refine x_callV1i (pc := 72) dX9_step_72 lX9_111 (zat_b rfl rfl) rfl (t_truth (d + 210) hlk) (Nat.le_of_ble_eq_true rfl) (Or.inl zgr) ?_
        by_cases h3 : a_tr α (α 101 (16 + k)) < 0
        · have e : a_step α b = (nI 0, a_ends (zup (a_core α k).2 101 13 (a_core α k).1) 0) := by unfold a_step; rw [h0, h1, h2]; dsimp only; rw [if_pos h3]
          rw [e]
          have hco : zoff [112] α (a_core α k).2 := a_core_off k
          have hQ2 : aQ (zup (a_core α k).2 101 13 (a_core α k).1) t := (hQ.off hco (by decide) (by decide)).up (by decide) (by decide)
          have e0 : zup (a_core α k).2 101 13 (a_core α k).1 101 0 = α 101 0 := by rw [zup_i (by decide)]; exact hco.at (by decide) 0
          refine x_if_ge_f (pc := 75) 96 dX9_step_75 (by decide) (Int32.not_le.mpr h3) ?_
          refine x_aload_n (pc := 78) 0 dX9_step_78 rfl rfl ?_
          refine x_getr (pc := 79) (101) dX9_step_79 fX9_7 (zat_b rfl rfl) rfl ?_
          refine x_bipush (pc := 82) (nI 13) dX9_step_82 (by decide) ?_
          refine x_aload_n (pc := 84) 0 dX9_step_84 rfl rfl ?_
          refine x_iload_n (pc := 85) 3 dX9_step_85 rfl rfl ?_
          refine x_callV1i (pc := 86) dX9_step_86 lX9_177 (zat_b rfl rfl) rfl (t_coreOf (d + 208) hW hA hk hQ hR) (Nat.le_of_ble_eq_true rfl) (Or.inl zgr) ?_
          have hj89 : 13 < 13326 := by omega
          refine x_iast_h (pc := 89) (13) dX9_step_89 (zar_b rfl rfl rfl) rfl (by first | rfl | simp only [pk_mul, nI_add] | simp only [zon, pk_mul, nI_add]) hj89 (Nat.lt_of_lt_of_le hj89 (by decide)) ?_
          refine x_aload_n (pc := 90) 0 dX9_step_90 rfl rfl ?_
          refine x_iconst (pc := 91) (nI 0) dX9_step_91 (by decide) ?_
          refine x_callV1i (pc := 92) dX9_step_92 lX9_147 (zat_b rfl rfl) rfl (t_ends (d + 208) (how := 0) hQ2 (by decide) (by unfold aV; rw [e0]; exact hW.v) (by unfold aV; rw [e0]; exact h30)) (Nat.le_of_ble_eq_true rfl) (Or.inl zgr) ?_
          refine x_iret (pc := 95) dX9_step_95 rfl ?_
          exact ⟨rfl, rfl⟩
        · have e : a_step α b = (-1, a_comes (zup α 100 11 (α 100 11 + nI 1)) (α 101 (16 + k)) (-1)) := by unfold a_step; rw [h0, h1, h2]; dsimp only; rw [if_neg h3]
          rw [e]
          have ht' : t < 30 := ht h0 (Or.inr (Or.inl ⟨k, h2, h3⟩))
          have hQ2 : aQ (zup α 100 11 (α 100 11 + nI 1)) t := hQ.up (by decide) (by decide)
          refine x_if_ge_t (pc := 75) 96 dX9_step_75 (by decide) (Int32.not_lt.mp h3) ?_
          refine x_aload_n (pc := 96) 0 dX9_step_96 rfl rfl ?_
          refine x_dup (pc := 97) dX9_step_97 rfl ?_
          refine x_geti_h (pc := 98) dX9_step_98 fX9_105 (zat_b rfl rfl) rfl rfl ?_
          refine x_iconst (pc := 101) (nI 1) dX9_step_101 (by decide) ?_
          refine x_iadd (pc := 102) dX9_step_102 ?_
          refine x_puti_h (pc := 103) dX9_step_103 pX9_105 (zat_b rfl rfl) rfl rfl ?_
          refine x_aload_n (pc := 106) 0 dX9_step_106 rfl rfl ?_
          refine x_aload_n (pc := 107) 0 dX9_step_107 rfl rfl ?_
          refine x_getr (pc := 108) (101) dX9_step_108 fX9_7 (zat_b rfl rfl) rfl ?_
          refine x_bipush (pc := 111) (nI 16) dX9_step_111 (by decide) ?_
          refine x_iload_n (pc := 113) 3 dX9_step_113 rfl rfl ?_
          refine x_iadd (pc := 114) dX9_step_114 ?_
          have hj115 : 16 + k < 13326 := by omega
          refine x_iald_h (pc := 115) (16 + k) dX9_step_115 (zar_b rfl rfl rfl) rfl (by first | rfl | simp only [pk_mul, nI_add] | simp only [zon, pk_mul, nI_add]) hj115 (Nat.lt_of_lt_of_le hj115 (by decide)) ?_
          rw [zup_p (by decide)]
          refine x_iconst (pc := 116) (-1) dX9_step_116 (by decide) ?_
          refine x_callV2v (pc := 117) dX9_step_117 lX9_135 (zat_b rfl rfl) rfl (t_comes (d + 209) hlk hQ2.1 ht') (Nat.le_of_ble_eq_true rfl) (Or.inl zgr) ?_
          refine x_iconst (pc := 120) (-1) dX9_step_120 (by decide) ?_
          refine x_iret (pc := 121) dX9_step_121 rfl ?_
          exact ⟨rfl, rfl⟩
      | none =>
        have hcl : a_choice α ≤ aV α := a_choice_le α
        refine x_istore_n (pc := 56) 3 dX9_step_56 rfl (by decide) rfl ?_
        refine x_iload_n (pc := 57) 3 dX9_step_57 rfl rfl ?_
        refine x_iconst (pc := 58) (-1) dX9_step_58 (by decide) ?_
        refine x_icmp_eq_t (pc := 59) 122 dX9_step_59 (by decide) (rfl) ?_
        refine x_aload_n (pc := 122) 0 dX9_step_122 rfl rfl ?_
        refine x_callV0i (pc := 123) dX9_step_123 lX9_180 (zat_b rfl rfl) rfl (t_choice (d + 210) hW.v h30) (Nat.le_of_ble_eq_true rfl) (Or.inl zgr) ?_
        refine x_istore (pc := 126) dX9_step_126 (by decide) rfl ?_
        refine x_iload (pc := 128) dX9_step_128 rfl ?_
        by_cases h3 : a_choice α = 0
        · have e : a_step α b = (nI 1, a_ends α 1) := by unfold a_step; rw [h0, h1, h2]; dsimp only; rw [if_pos h3]
          rw [e]
          refine x_if_ne_f (pc := 130) 139 dX9_step_130 (by decide) (by rw [h3]; rfl) ?_
          refine x_aload_n (pc := 133) 0 dX9_step_133 rfl rfl ?_
          refine x_iconst (pc := 134) (nI 1) dX9_step_134 (by decide) ?_
          refine x_callV1i (pc := 135) dX9_step_135 lX9_147 (zat_b rfl rfl) rfl (t_ends (d + 208) (how := 1) hQ (by decide) hW.v h30) (Nat.le_of_ble_eq_true rfl) (Or.inl zgr) ?_
          refine x_iret (pc := 138) dX9_step_138 rfl ?_
          exact ⟨rfl, rfl⟩
        · have e : a_step α b = (-1, a_comes (zup (zup α 100 11 (α 100 11 + nI 1)) 101 9 (α 101 9 + nI 1)) (if α 101 (32 + a_choice α) = nI 1 then nI (a_choice α) else -(nI (a_choice α))) (-1)) := by unfold a_step; rw [h0, h1, h2]; dsimp only; rw [if_neg h3]
          rw [e]
          have ht' : t < 30 := ht h0 (Or.inr (Or.inr ⟨h2, h3⟩))
          have hQ2 : aQ (zup (zup α 100 11 (α 100 11 + nI 1)) 101 9 (α 101 9 + nI 1)) t := (hQ.up (by decide) (by decide)).up (by decide) (by decide)
          refine x_if_ne_t (pc := 130) 139 dX9_step_130 (by decide) (nI_ne0 (by omega) (by omega)) ?_
          refine x_aload_n (pc := 139) 0 dX9_step_139 rfl rfl ?_
          refine x_dup (pc := 140) dX9_step_140 rfl ?_
          refine x_geti_h (pc := 141) dX9_step_141 fX9_105 (zat_b rfl rfl) rfl rfl ?_
          refine x_iconst (pc := 144) (nI 1) dX9_step_144 (by decide) ?_
          refine x_iadd (pc := 145) dX9_step_145 ?_
          refine x_puti_h (pc := 146) dX9_step_146 pX9_105 (zat_b rfl rfl) rfl rfl ?_
          refine x_aload_n (pc := 149) 0 dX9_step_149 rfl rfl ?_
          refine x_getr (pc := 150) (101) dX9_step_150 fX9_7 (zat_b rfl rfl) rfl ?_
          refine x_bipush (pc := 153) (nI 9) dX9_step_153 (by decide) ?_
          refine x_dup2 (pc := 155) dX9_step_155 rfl rfl ?_
          have hj156 : 9 < 13326 := by omega
          refine x_iald_h (pc := 156) (9) dX9_step_156 (zar_b rfl rfl rfl) rfl (by first | rfl | simp only [pk_mul, nI_add] | simp only [zon, pk_mul, nI_add]) hj156 (Nat.lt_of_lt_of_le hj156 (by decide)) ?_
          rw [zup_p (by decide)]
          refine x_iconst (pc := 157) (nI 1) dX9_step_157 (by decide) ?_
          refine x_iadd (pc := 158) dX9_step_158 ?_
          have hj159 : 9 < 13326 := by omega
          refine x_iast_h (pc := 159) (9) dX9_step_159 (zar_b rfl rfl rfl) rfl (by first | rfl | simp only [pk_mul, nI_add] | simp only [zon, pk_mul, nI_add]) hj159 (Nat.lt_of_lt_of_le hj159 (by decide)) ?_
          refine x_aload_n (pc := 160) 0 dX9_step_160 rfl rfl ?_
          refine x_aload_n (pc := 161) 0 dX9_step_161 rfl rfl ?_
          refine x_getr (pc := 162) (101) dX9_step_162 fX9_7 (zat_b rfl rfl) rfl ?_
          refine x_bipush (pc := 165) (nI 32) dX9_step_165 (by decide) ?_
          refine x_iload (pc := 167) dX9_step_167 rfl ?_
          refine x_iadd (pc := 169) dX9_step_169 ?_
          have hj170 : 32 + a_choice α < 13326 := by omega
          refine x_iald_h (pc := 170) (32 + a_choice α) dX9_step_170 (zar_b rfl rfl rfl) rfl (by first | rfl | simp only [pk_mul, nI_add] | simp only [zon, pk_mul, nI_add]) hj170 (Nat.lt_of_lt_of_le hj170 (by decide)) ?_
          rw [zup_i (by omega), zup_p (by decide)]
          by_cases h4 : α 101 (32 + a_choice α) = nI 1
          · rw [if_pos h4]
            refine x_iconst (pc := 171) (nI 1) dX9_step_171 (by decide) ?_
            refine x_icmp_ne_f (pc := 172) 180 dX9_step_172 (by decide) (h4) ?_
            refine x_iload (pc := 175) dX9_step_175 rfl ?_
            refine x_goto (pc := 177) 183 dX9_step_177 (by decide) ?_
            refine x_iconst (pc := 183) (-1) dX9_step_183 (by decide) ?_
            refine x_callV2v (pc := 184) dX9_step_184 lX9_135 (zat_b rfl rfl) rfl (t_comes (d + 209) (l := nI (a_choice α)) ⟨a_choice α, by omega, by omega, Or.inl rfl⟩ hQ2.1 ht') (Nat.le_of_ble_eq_true rfl) (Or.inl zgr) ?_
            refine x_iconst (pc := 187) (-1) dX9_step_187 (by decide) ?_
            refine x_iret (pc := 188) dX9_step_188 rfl ?_
            exact ⟨rfl, rfl⟩
          · rw [if_neg h4]
            refine x_iconst (pc := 171) (nI 1) dX9_step_171 (by decide) ?_
            refine x_icmp_ne_t (pc := 172) 180 dX9_step_172 (by decide) (h4) ?_
            refine x_iload (pc := 180) dX9_step_180 rfl ?_
            refine x_ineg (pc := 182) dX9_step_182 ?_
            refine x_iconst (pc := 183) (-1) dX9_step_183 (by decide) ?_
            refine x_callV2v (pc := 184) dX9_step_184 lX9_135 (zat_b rfl rfl) rfl (t_comes (d + 209) (l := -(nI (a_choice α))) ⟨a_choice α, by omega, by omega, Or.inr rfl⟩ hQ2.1 ht') (Nat.le_of_ble_eq_true rfl) (Or.inl zgr) ?_
            refine x_iconst (pc := 187) (-1) dX9_step_187 (by decide) ?_
            refine x_iret (pc := 188) dX9_step_188 rfl ?_
            exact ⟨rfl, rfl⟩
def a_run : Nat → Int32 → (Nat → Nat → Int32) → Int32 × (Nat → Nat → Int32)
  | 0, _, α => (-1, α)
  | n + 1, b, α => if (a_step α b).1 = -1 then a_run n b (a_step α b).2 else a_step α b
def runOK : Nat → Int32 → (Nat → Nat → Int32) → Prop
  | 0, _, _ => False
  | n + 1, b, α => stOK α ∧ ((a_step α b).1 = -1 → runOK n b (a_step α b).2)
def a_s0 (α : Nat → Nat → Int32) : Nat → Nat → Int32 :=
  zup (zup (zup (zup (a_emp (zup α 100 0 (nI 0))) 100 15 (nI 0)) 100 16 (nI 0)) 100 17 (nI 0)) 101 13 (-1)
def a_solve (n : Nat) (α : Nat → Nat → Int32) (b : Int32) : Int32 × (Nat → Nat → Int32) :=
  if nI 1 ≤ b ∧ b ≤ nI 200 then (if α 101 7 = nI 1 then (nI 0, a_refuted (a_s0 α)) else a_run n b (a_s0 α)) else (-1, zup α 100 0 (nI 0))
theorem l_solve (d : Nat) (b : Int32) : ∀ n α, runOK n b α → zX E (d + 213) mX9_solve 63 [some (.ref 100), some (.int b), some (.int (-1))] [] (κ, α, τ) (fun r ν => r = some (.int (a_run n b α).1) ∧ ν = (κ, (a_run n b α).2, τ)) := by
  intro n
  induction n with
  | zero => intro α h; exact absurd h id
  | succ n ih =>
    intro α h
    obtain ⟨h1, h2⟩ := h
    refine x_iload_n (pc := 63) 2 dX9_solve_63 rfl rfl ?_
    refine x_iconst (pc := 64) (-1) dX9_solve_64 (by decide) ?_
    refine x_icmp_ne_f (pc := 65) 77 dX9_solve_65 (by decide) (rfl) ?_
    refine x_aload_n (pc := 68) 0 dX9_solve_68 rfl rfl ?_
    refine x_iload_n (pc := 69) 1 dX9_solve_69 rfl rfl ?_
    refine x_callV1i (pc := 70) dX9_solve_70 lX9_186 (zat_b rfl rfl) rfl (t_step d b h1) (Nat.le_of_ble_eq_true rfl) (Or.inl zgr) ?_
    by_cases e : (a_step α b).1 = -1
    · have e2 : a_run (n + 1) b α = a_run n b (a_step α b).2 := by rw [a_run, if_pos e]
      rw [e, e2]
      refine x_istore_n (pc := 73) 2 dX9_solve_73 rfl (by decide) rfl ?_
      refine x_goto (pc := 74) 63 dX9_solve_74 (by decide) ?_
      exact ih _ (h2 e)
    · have e2 : a_run (n + 1) b α = a_step α b := by rw [a_run, if_neg e]
      rw [e2]
      refine x_istore_n (pc := 73) 2 dX9_solve_73 rfl (by decide) rfl ?_
      refine x_goto (pc := 74) 63 dX9_solve_74 (by decide) ?_
      refine x_iload_n (pc := 63) 2 dX9_solve_63 rfl rfl ?_
      refine x_iconst (pc := 64) (-1) dX9_solve_64 (by decide) ?_
      refine x_icmp_ne_t (pc := 65) 77 dX9_solve_65 (by decide) (e) ?_
      refine x_iload_n (pc := 77) 2 dX9_solve_77 rfl rfl ?_
      refine x_iret (pc := 78) dX9_solve_78 rfl ?_
      exact ⟨rfl, rfl⟩
theorem a_s0_at {p i : Nat} (h : p = 101 ∧ i ≠ 13 ∨ (106 ≤ p)) : a_s0 α p i = α p i := by
  unfold a_s0 a_emp
  have ho : ∀ β : Nat → Nat → Int32, zoff [105] β (a_empL 0 31 β) := fun β => zit_off _ (fun k a => zoff.rf.up (by decide)) _ _ _
  unfold zup
  rw [if_neg (by omega), if_neg (by omega), if_neg (by omega), if_neg (by omega), (ho _).at (by simp; omega), if_neg (by omega), if_neg (by omega), if_neg (by omega)]
theorem a_s0_Q : aQ (a_s0 α) 0 := by
  refine ⟨?_, by omega, fun i hi => by omega⟩
  unfold a_s0 a_emp
  have ho : ∀ β : Nat → Nat → Int32, zoff [105] β (a_empL 0 31 β) := fun β => zit_off _ (fun k a => zoff.rf.up (by decide)) _ _ _
  rw [zup_p (by decide), zup_i (by decide), zup_i (by decide), zup_i (by decide), (ho _).at (by decide), zup_i (by decide), zup_same]
theorem t_solve (d : Nat) {n : Nat} (b : Int32) (hW : aW α) (hln : α 101 6 = nI (aLn α)) (hrun : nI 1 ≤ b → b ≤ nI 200 → ¬ α 101 7 = nI 1 → runOK n b (a_s0 α)) : zTr E (d + 213) mX9_solve [.ref 100, .int b] (κ, α, τ) (some (.int (a_solve n α b).1)) (κ, (a_solve n α b).2, τ) := by
  refine zM.tr (zM_of [some (.ref 100), some (.int b), none] (by decide) rfl (Nat.le_of_ble_eq_true rfl) ?_)
  refine x_aload_n (pc := 0) 0 dX9_solve_0 rfl rfl ?_
  refine x_iconst (pc := 1) (nI 0) dX9_solve_1 (by decide) ?_
  refine x_puti_h (pc := 2) dX9_solve_2 pX9_63 (zat_b rfl rfl) rfl rfl ?_
  refine x_iload_n (pc := 5) 1 dX9_solve_5 rfl rfl ?_
  refine x_iconst (pc := 6) (nI 1) dX9_solve_6 (by decide) ?_
  refine x_sipush (pc := 7) (nI 200) dX9_solve_7 (by decide) ?_
  refine x_callS3i (pc := 10) dX9_solve_10 lX9_67 (t_isIn (d + 211) _ _ _) (Nat.le_of_ble_eq_true rfl) (Or.inl zgr) ?_
  unfold a_solve
  by_cases h : nI 1 ≤ b ∧ b ≤ nI 200
  · rw [if_pos h]
    refine x_if_ne_t (pc := 13) 18 dX9_solve_13 (by decide) (by simp [h.1, h.2, zbo]; decide) ?_
    refine x_aload_n (pc := 18) 0 dX9_solve_18 rfl rfl ?_
    refine x_callV0v (pc := 19) dX9_solve_19 lX9_183 (zat_b rfl rfl) rfl (t_empties (d + 211)) (Nat.le_of_ble_eq_true rfl) (Or.inl zgr) ?_
    refine x_aload_n (pc := 22) 0 dX9_solve_22 rfl rfl ?_
    refine x_iconst (pc := 23) (nI 0) dX9_solve_23 (by decide) ?_
    refine x_puti_h (pc := 24) dX9_solve_24 pX9_159 (zat_b rfl rfl) rfl rfl ?_
    refine x_aload_n (pc := 27) 0 dX9_solve_27 rfl rfl ?_
    refine x_iconst (pc := 28) (nI 0) dX9_solve_28 (by decide) ?_
    refine x_puti_h (pc := 29) dX9_solve_29 pX9_141 (zat_b rfl rfl) rfl rfl ?_
    refine x_aload_n (pc := 32) 0 dX9_solve_32 rfl rfl ?_
    refine x_iconst (pc := 33) (nI 0) dX9_solve_33 (by decide) ?_
    refine x_puti_h (pc := 34) dX9_solve_34 pX9_144 (zat_b rfl rfl) rfl rfl ?_
    refine x_aload_n (pc := 37) 0 dX9_solve_37 rfl rfl ?_
    refine x_getr (pc := 38) (101) dX9_solve_38 fX9_7 (zat_b rfl rfl) rfl ?_
    refine x_bipush (pc := 41) (nI 13) dX9_solve_41 (by decide) ?_
    refine x_iconst (pc := 43) (-1) dX9_solve_43 (by decide) ?_
    have hj44 : 13 < 13326 := by omega
    refine x_iast_h (pc := 44) (13) dX9_solve_44 (zar_b rfl rfl rfl) rfl (by first | rfl | simp only [pk_mul, nI_add] | simp only [zon, pk_mul, nI_add]) hj44 (Nat.lt_of_lt_of_le hj44 (by decide)) ?_
    refine x_aload_n (pc := 45) 0 dX9_solve_45 rfl rfl ?_
    refine x_getr (pc := 46) (101) dX9_solve_46 fX9_7 (zat_b rfl rfl) rfl ?_
    refine x_bipush (pc := 49) (nI 7) dX9_solve_49 (by decide) ?_
    have hj51 : 7 < 13326 := by omega
    refine x_iald_h (pc := 51) (7) dX9_solve_51 (zar_b rfl rfl rfl) rfl (by first | rfl | simp only [pk_mul, nI_add] | simp only [zon, pk_mul, nI_add]) hj51 (Nat.lt_of_lt_of_le hj51 (by decide)) ?_
    show zX E (d + 213) mX9_solve 52 _ [.int (a_s0 α 101 7)] (κ, a_s0 α, τ) _
    rw [a_s0_at (p := 101) (i := 7) (by omega)]
    by_cases h2 : α 101 7 = nI 1
    · rw [if_pos h2]
      have e0 : a_s0 α 101 0 = α 101 0 := a_s0_at (by omega)
      have e6 : a_s0 α 101 6 = α 101 6 := a_s0_at (by omega)
      have e7 : a_s0 α 101 7 = α 101 7 := a_s0_at (by omega)
      refine x_iconst (pc := 52) (nI 1) dX9_solve_52 (by decide) ?_
      refine x_icmp_ne_f (pc := 53) 61 dX9_solve_53 (by decide) (h2) ?_
      refine x_aload_n (pc := 56) 0 dX9_solve_56 rfl rfl ?_
      refine x_callV0i (pc := 57) dX9_solve_57 lX9_153 (zat_b rfl rfl) rfl (t_refuted (d + 208) a_s0_Q (by unfold aV; rw [e0]; exact hW.v) (by unfold aV; rw [e0]; exact hW.v30) (by unfold aLn; rw [e6]; exact hln) (fun q => by rw [e7, h2] at q; exact absurd q (by decide))) (Nat.le_of_ble_eq_true rfl) (Or.inl zgr) ?_
      refine x_iret (pc := 60) dX9_solve_60 rfl ?_
      exact ⟨rfl, rfl⟩
    · rw [if_neg h2]
      refine x_iconst (pc := 52) (nI 1) dX9_solve_52 (by decide) ?_
      refine x_icmp_ne_t (pc := 53) 61 dX9_solve_53 (by decide) (h2) ?_
      refine x_iconst (pc := 61) (-1) dX9_solve_61 (by decide) ?_
      refine x_istore_n (pc := 62) 2 dX9_solve_62 rfl (by decide) rfl ?_
      exact l_solve d b n _ (hrun h.1 h.2 h2)
  · rw [if_neg h]
    have hb : (decide (nI 1 ≤ b) && decide (b ≤ nI 200)) = false := by
      cases q : (decide (nI 1 ≤ b) && decide (b ≤ nI 200)) with
      | false => rfl
      | true => simp at q; exact absurd q h
    rw [hb]
    refine x_if_ne_f (pc := 13) 18 dX9_solve_13 (by decide) (rfl) ?_
    refine x_iconst (pc := 16) (-1) dX9_solve_16 (by decide) ?_
    refine x_iret (pc := 17) dX9_solve_17 rfl ?_
    exact ⟨rfl, rfl⟩
end M11
