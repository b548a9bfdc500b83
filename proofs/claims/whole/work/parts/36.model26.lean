/-! the reference: proof -/
/-- no variable stands twice in a clause -/
def aWd (α : Nat → Nat → Int32) : Prop := ∀ c, c < aN α → ∀ i j, i < j → j < aS α c → ¬ zv (aL α c i) = zv (aL α c j)
theorem zv_neg {l : Int32} (h : lok 30 l) : zv (-l) = zv l := by
  obtain ⟨v, h1, h2, h3⟩ := h
  have t := zv_tab1 v (by omega)
  unfold zv
  rcases h3 with rfl | rfl
  · rw [t.1, t.2.1]
  · rw [t.2.2.2, t.1, t.2.1]
/-- all literals of a row are made false: f their row, from k on -/
def a_ngF (f : Nat → Int32) (i : Nat) (a : Nat → Nat → Int32) : Nat → Nat → Int32 := a_comes a (-(f i)) (-1)
theorem a_ngF_off (f : Nat → Int32) (i : Nat) (a : Nat → Nat → Int32) : zoff aSc a (a_ngF f i a) := a_comes_off _ _ _
/-- one more comes, of variables all unlike -/
theorem a_ng_I {f : Nat → Int32} {β : Nat → Nat → Int32} {t k m : Nat} (hI : aI β t) (hl : ∀ j, k ≤ j → j < k + m → lok 30 (f j)) (hd : ∀ i j, k ≤ i → i < j → j < k + m → ¬ zv (f i) = zv (f j)) (h0 : ∀ j, k ≤ j → j < k + m → β 105 (zv (f j)) = 0) (hm : 0 < m) : t < 30 ∧ lok 30 (-(f k)) ∧ aI (a_ngF f k β) (t + 1) ∧ ∀ j, k + 1 ≤ j → j < k + m → a_ngF f k β 105 (zv (f j)) = 0 := by
  have hk := hl k (Nat.le_refl _) (by omega)
  have hn := hk.neg (Nat.le_refl _)
  have e := zv_neg hk
  obtain ⟨q1, q2⟩ := hI.comes (w := -1) hn (by rw [e]; exact h0 k (Nat.le_refl _) (by omega))
  refine ⟨q1, hn, q2, fun j h1 h2 => ?_⟩
  unfold a_ngF
  rw [a_comes_105, e, if_neg (fun q => hd k j (Nat.le_refl _) (by omega) h2 q.symm)]
  exact h0 j (by omega) h2
section M27
variable {E : zEnv} {κ α : Nat → Nat → Int32} {τ : (Nat → Nat → Int64) × (Nat → Nat)}
def a_ngP (α : Nat → Nat → Int32) (k : Nat) : Nat → Nat → Int32 :=
  if α 101 (925 + k) = -1 then a_emp α else zit (a_ngF (aL α (α 101 (925 + k)).toNatClampNeg)) 0 (aS α (α 101 (925 + k)).toNatClampNeg) (a_emp α)
def a_pf : Nat → Nat → (Nat → Nat → Int32) → Option Nat × (Nat → Nat → Int32)
  | 0, _, α => (none, α)
  | m + 1, k, α => if (a_rf k 0 31 (a_ngP α k)).1 = true then a_pf m (k + 1) (a_rf k 0 31 (a_ngP α k)).2 else (some k, (a_rf k 0 31 (a_ngP α k)).2)
theorem a_pC_off : ∀ m c mo α, zoff aSc α (a_pC m c mo α).2.2
  | 0, c, mo, α => zoff.rf
  | m + 1, c, mo, α => by
    unfold a_pC
    split
    · exact a_pC_off m (c + 1) mo α
    · split
      · exact zoff.rf
      · refine zoff.tr ?_ (a_pC_off m (c + 1) _ _)
        unfold a_dF
        split
        · exact a_comes_off _ _ _
        · exact zoff.rf
theorem a_pL_off : ∀ m c mo α, zoff aSc α (a_pL m c mo α).2.2
  | 0, c, mo, α => zoff.rf
  | m + 1, c, mo, α => by
    unfold a_pL
    split
    · exact zoff.rf
    · split
      · exact zoff.rf
      · refine zoff.tr ?_ (a_pL_off m (c + 1) _ _)
        unfold a_dF
        split
        · exact a_comes_off _ _ _
        · exact zoff.rf
theorem a_pR_off : ∀ m c mo α, zoff aSc α (a_pR m c mo α).2.2
  | 0, c, mo, α => zoff.rf
  | m + 1, c, mo, α => by
    unfold a_pR
    split
    · exact zoff.rf
    · refine zoff.tr ?_ (a_pR_off m (c + 1) _ _)
      unfold a_rdA
      split
      · exact a_comes_off _ _ _
      · exact zoff.rf
theorem a_rf_off (Ln Rd : Nat) : ∀ n α, zoff aSc α (a_rf Ln Rd n α).2
  | 0, α => zoff.rf
  | n + 1, α => by
    have h1 := a_pC_off (aN α) 0 false α
    unfold a_rf
    generalize a_pC (aN α) 0 false α = x at h1 ⊢
    obtain ⟨b, mo, β⟩ := x
    cases b with
    | true => exact h1
    | false =>
      dsimp only at h1 ⊢
      have h2 := a_pL_off Ln 0 mo β
      generalize a_pL Ln 0 mo β = y at h2 ⊢
      obtain ⟨b, mo2, γ⟩ := y
      cases b with
      | true => exact h1.tr h2
      | false =>
        dsimp only at h2 ⊢
        have h3 := a_pR_off Rd 0 mo2 γ
        generalize a_pR Rd 0 mo2 γ = z at h3 ⊢
        obtain ⟨b, mo3, δ⟩ := z
        cases b with
        | true => exact (h1.tr h2).tr h3
        | false =>
          cases mo3 with
          | true => exact ((h1.tr h2).tr h3).tr (a_rf_off Ln Rd n δ)
          | false => exact (h1.tr h2).tr h3
theorem a_emp_off (α : Nat → Nat → Int32) : zoff aSc α (a_emp α) := by
  unfold a_emp
  refine ((zoff.rf.up (by decide)).up (by decide)).tr (zit_off (L := aSc) _ (fun k a => zoff.rf.up (by decide)) _ _ _)
theorem l_pfI (d : Nat) {k c : Nat} (hk : k < 401) (hn : α 101 (925 + k) = nI c) (hc : c < aN α) (hW : aW α) (hd : aWd α) (P : Option Value → zMem → Prop) : ∀ m i β, i + m = aS α c → zoff aSc α β → aI β i → (∀ j, i ≤ j → j < i + m → β 105 (zv (aL α c j)) = 0) → (∀ t w, aI (zit (a_ngF (aL α c)) i m β) t → zX E (d + 5) mX9_proof 60 [some (.ref 100), some (.int (nI k)), w] [] (κ, zit (a_ngF (aL α c)) i m β, τ) P) → zX E (d + 5) mX9_proof 24 [some (.ref 100), some (.int (nI k)), some (.int (nI i))] [] (κ, β, τ) P := by
  have hs := hW.s30 hc
  have hn4 := hW.n400
  have hne : ¬ nI c = -1 := nI_nem1 (by omega)
  intro m
  induction m with
  | zero =>
    intro i β hi ho hI h0 K
    have hWb := hW.off ho (by decide)
    have hrow : β 101 (925 + k) = nI c := by rw [ho.at (by decide)]; exact hn
    have els : a_lsz β k = aS α c := by unfold a_lsz; rw [hrow, if_neg hne, nI_clamp (by omega), zo_S ho (by decide)]
    refine x_iload_n (pc := 24) 2 dX9_proof_24 rfl rfl ?_
    refine x_aload_n (pc := 25) 0 dX9_proof_25 rfl rfl ?_
    refine x_iload_n (pc := 26) 1 dX9_proof_26 rfl rfl ?_
    refine x_callV1i (pc := 27) dX9_proof_27 lX9_201 (zat_b rfl rfl) rfl (t_lineSize (d + 2) hWb hk (Or.inr ⟨c, by rw [zo_N ho (by decide)]; exact hc, hrow⟩)) (Nat.le_of_ble_eq_true rfl) (Or.inl zgr) ?_
    rw [els]
    refine x_icmp_ge_t (pc := 30) 60 dX9_proof_30 (by decide) (nI_le (by omega) (by omega)) ?_
    exact K _ _ hI
  | succ m ih =>
    intro i β hi ho hI h0 K
    have hWb := hW.off ho (by decide)
    have hrow : β 101 (925 + k) = nI c := by rw [ho.at (by decide)]; exact hn
    have els : a_lsz β k = aS α c := by unfold a_lsz; rw [hrow, if_neg hne, nI_clamp (by omega), zo_S ho (by decide)]
    obtain ⟨g1, g2, g3, g4⟩ := a_ng_I (f := aL α c) (k := i) (m := m + 1) hI (fun j a b => hW.l hc (by omega)) (fun x y a b e => hd c hc x y b (by omega)) h0 (by omega)
    refine x_iload_n (pc := 24) 2 dX9_proof_24 rfl rfl ?_
    refine x_aload_n (pc := 25) 0 dX9_proof_25 rfl rfl ?_
    refine x_iload_n (pc := 26) 1 dX9_proof_26 rfl rfl ?_
    refine x_callV1i (pc := 27) dX9_proof_27 lX9_201 (zat_b rfl rfl) rfl (t_lineSize (d + 2) hWb hk (Or.inr ⟨c, by rw [zo_N ho (by decide)]; exact hc, hrow⟩)) (Nat.le_of_ble_eq_true rfl) (Or.inl zgr) ?_
    rw [els]
    refine x_icmp_ge_f (pc := 30) 60 dX9_proof_30 (by decide) (nI_ge (by omega) (by omega)) ?_
    refine x_aload_n (pc := 33) 0 dX9_proof_33 rfl rfl ?_
    refine x_aload_n (pc := 34) 0 dX9_proof_34 rfl rfl ?_
    refine x_aload_n (pc := 35) 0 dX9_proof_35 rfl rfl ?_
    refine x_getr (pc := 36) (101) dX9_proof_36 fX9_7 (zat_b rfl rfl) rfl ?_
    refine x_sipush (pc := 39) (nI 925) dX9_proof_39 (by decide) ?_
    refine x_iload_n (pc := 42) 1 dX9_proof_42 rfl rfl ?_
    refine x_iadd (pc := 43) dX9_proof_43 ?_
    have hj44 : 925 + k < 13326 := by omega
    refine x_iald_h (pc := 44) (925 + k) dX9_proof_44 (zar_b rfl rfl rfl) rfl (by first | rfl | simp only [pk_mul, nI_add] | simp only [zon, pk_mul, nI_add]) hj44 (Nat.lt_of_lt_of_le hj44 (by decide)) ?_
    rw [hrow]
    refine x_iload_n (pc := 45) 2 dX9_proof_45 rfl rfl ?_
    refine x_callV2i (pc := 46) dX9_proof_46 lX9_108 (zat_b rfl rfl) rfl (t_literalW (d + 3) hWb (by rw [zo_N ho (by decide)]; exact hc) (by rw [zo_S ho (by decide)]; omega)) (Nat.le_of_ble_eq_true rfl) (Or.inl zgr) ?_
    rw [zo_L ho (by decide)]
    refine x_ineg (pc := 49) dX9_proof_49 ?_
    refine x_iconst (pc := 50) (-1) dX9_proof_50 (by decide) ?_
    refine x_callV2v (pc := 51) dX9_proof_51 lX9_135 (zat_b rfl rfl) rfl (t_comes (d + 2) g2 hI.1.1 g1) (Nat.le_of_ble_eq_true rfl) (Or.inl zgr) ?_
    refine x_iinc (pc := 54) (nI (i + 1)) dX9_proof_54 rfl (zinc _) (by decide) rfl ?_
    refine x_goto (pc := 57) 24 dX9_proof_57 (by decide) ?_
    exact ih (i + 1) _ (by omega) (ho.tr (a_ngF_off _ _ _)) g3 (fun j a b => g4 j a (by omega)) K
theorem l_pf (d : Nat) : ∀ m k α, k + m = aLn α → aW α → aWd α → aWL α → aRd α 0 → ∀ w, zX E (d + 5) mX9_proof 7 [some (.ref 100), some (.int (nI k)), w] [] (κ, α, τ) (fun r ν => r = some (.int (zon (a_pf m k α).1)) ∧ ν = (κ, (a_pf m k α).2, τ)) := by
  intro m
  induction m with
  | zero =>
    intro k α hm hW hd hL hR w
    have := hL.2.1
    refine x_iload_n (pc := 7) 1 dX9_proof_7 rfl rfl ?_
    refine x_aload_n (pc := 8) 0 dX9_proof_8 rfl rfl ?_
    refine x_getr (pc := 9) (101) dX9_proof_9 fX9_7 (zat_b rfl rfl) rfl ?_
    refine x_bipush (pc := 12) (nI 6) dX9_proof_12 (by decide) ?_
    have hj14 : 6 < 13326 := by omega
    refine x_iald_h (pc := 14) (6) dX9_proof_14 (zar_b rfl rfl rfl) rfl (by first | rfl | simp only [pk_mul, nI_add] | simp only [zon, pk_mul, nI_add]) hj14 (Nat.lt_of_lt_of_le hj14 (by decide)) ?_
    rw [hL.1]
    refine x_icmp_ge_t (pc := 15) 77 dX9_proof_15 (by decide) (nI_le (by omega) (by omega)) ?_
    refine x_iconst (pc := 77) (-1) dX9_proof_77 (by decide) ?_
    refine x_iret (pc := 78) dX9_proof_78 rfl ?_
    exact ⟨rfl, rfl⟩
  | succ m ih =>
    intro k α hm hW hd hL hR w
    have h401 := hL.2.1
    have hn4 := hW.n400
    have body : ∀ t w, aI (a_ngP α k) t → zoff aSc α (a_ngP α k) → zX E (d + 5) mX9_proof 60 [some (.ref 100), some (.int (nI k)), w] [] (κ, a_ngP α k, τ) (fun r ν => r = some (.int (zon (a_pf (m + 1) k α).1)) ∧ ν = (κ, (a_pf (m + 1) k α).2, τ)) := by
      intro t w hI ho
      have hWb := hW.off ho (by decide)
      have ho2 := ho.tr (a_rf_off k 0 31 (a_ngP α k))
      have hrow := ho2 101 (by decide)
      refine x_aload_n (pc := 60) 0 dX9_proof_60 rfl rfl ?_
      refine x_iload_n (pc := 61) 1 dX9_proof_61 rfl rfl ?_
      refine x_iconst (pc := 62) (nI 0) dX9_proof_62 (by decide) ?_
      refine x_callV2i (pc := 63) dX9_proof_63 lX9_210 (zat_b rfl rfl) rfl (t_isRefused d (t := t) (Ln := k) (Rd := 0) (R := 0) (by omega) (Nat.le_refl _) hWb (fun j hj => by rw [ho.at (by decide), zo_N ho (by decide)]; exact hL.2.2 j (by omega)) (hR.off ho (by decide) (by decide)) hI) (Nat.le_of_ble_eq_true rfl) (Or.inl zgr) ?_
      cases hr : (a_rf k 0 31 (a_ngP α k)).1 with
      | true =>
        have e : a_pf (m + 1) k α = a_pf m (k + 1) (a_rf k 0 31 (a_ngP α k)).2 := by rw [a_pf, if_pos hr]
        rw [e]
        generalize (a_rf k 0 31 (a_ngP α k)).2 = β at ho2 hrow ⊢
        refine x_if_ne_t (pc := 66) 71 dX9_proof_66 (by decide) (by decide) ?_
        refine x_iinc (pc := 71) (nI (k + 1)) dX9_proof_71 rfl (zinc _) (by decide) rfl ?_
        refine x_goto (pc := 74) 7 dX9_proof_74 (by decide) ?_
        refine ih (k + 1) β ?_ (hW.off ho2 (by decide)) ?_ ?_ (hR.off ho2 (by decide) (by decide)) _
        · unfold aLn at *; rw [hrow]; omega
        · unfold aWd aN aS aL at *; rw [hrow]; exact hd
        · unfold aWL aLn aN at *; rw [hrow]; exact hL
      | false =>
        have e : a_pf (m + 1) k α = (some k, (a_rf k 0 31 (a_ngP α k)).2) := by rw [a_pf, if_neg (by rw [hr]; decide)]
        rw [e]
        refine x_if_ne_f (pc := 66) 71 dX9_proof_66 (by decide) (rfl) ?_
        refine x_iload_n (pc := 69) 1 dX9_proof_69 rfl rfl ?_
        refine x_iret (pc := 70) dX9_proof_70 rfl ?_
        exact ⟨rfl, rfl⟩
    refine x_iload_n (pc := 7) 1 dX9_proof_7 rfl rfl ?_
    refine x_aload_n (pc := 8) 0 dX9_proof_8 rfl rfl ?_
    refine x_getr (pc := 9) (101) dX9_proof_9 fX9_7 (zat_b rfl rfl) rfl ?_
    refine x_bipush (pc := 12) (nI 6) dX9_proof_12 (by decide) ?_
    have hj14 : 6 < 13326 := by omega
    refine x_iald_h (pc := 14) (6) dX9_proof_14 (zar_b rfl rfl rfl) rfl (by first | rfl | simp only [pk_mul, nI_add] | simp only [zon, pk_mul, nI_add]) hj14 (Nat.lt_of_lt_of_le hj14 (by decide)) ?_
    rw [hL.1]
    refine x_icmp_ge_f (pc := 15) 77 dX9_proof_15 (by decide) (nI_ge (by omega) (by omega)) ?_
    refine x_aload_n (pc := 18) 0 dX9_proof_18 rfl rfl ?_
    refine x_callV0v (pc := 19) dX9_proof_19 lX9_183 (zat_b rfl rfl) rfl (t_empties (d + 3)) (Nat.le_of_ble_eq_true rfl) (Or.inl zgr) ?_
    refine x_iconst (pc := 22) (nI 0) dX9_proof_22 (by decide) ?_
    refine x_istore_n (pc := 23) 2 dX9_proof_23 rfl (by decide) rfl ?_
    have oe := a_emp_off α
    have hWe := hW.off oe (by decide)
    rcases hL.2.2 k (by omega) with h | ⟨c, hc, h⟩
    · have e : a_ngP α k = a_emp α := by unfold a_ngP; rw [if_pos h]
      rw [e] at body
      have hrow : a_emp α 101 (925 + k) = -1 := by rw [oe.at (by decide)]; exact h
      have els : a_lsz (a_emp α) k = 0 := by unfold a_lsz; rw [hrow, if_pos rfl]
      refine x_iload_n (pc := 24) 2 dX9_proof_24 rfl rfl ?_
      refine x_aload_n (pc := 25) 0 dX9_proof_25 rfl rfl ?_
      refine x_iload_n (pc := 26) 1 dX9_proof_26 rfl rfl ?_
      refine x_callV1i (pc := 27) dX9_proof_27 lX9_201 (zat_b rfl rfl) rfl (t_lineSize (d + 2) hWe (by omega) (Or.inl hrow)) (Nat.le_of_ble_eq_true rfl) (Or.inl zgr) ?_
      rw [els]
      refine x_icmp_ge_t (pc := 30) 60 dX9_proof_30 (by decide) (Int32.le_refl _) ?_
      exact body 0 _ (a_emp_I α) oe
    · have hne : ¬ α 101 (925 + k) = -1 := by rw [h]; exact nI_nem1 (by omega)
      have hcc : (α 101 (925 + k)).toNatClampNeg = c := by rw [h]; exact nI_clamp (by omega)
      have e : a_ngP α k = zit (a_ngF (aL α c)) 0 (aS α c) (a_emp α) := by unfold a_ngP; rw [if_neg hne, hcc]
      rw [e] at body
      refine l_pfI d (by omega) h hc hW hd _ (aS α c) 0 (a_emp α) (by omega) oe (a_emp_I α) (fun j a b => ?_) (fun t w hI => ?_)
      · obtain ⟨g1, g2, -⟩ := (hW.l hc (show j < aS α c by omega)).is (Nat.le_refl _)
        exact a_empL_105 31 0 _ _ (by omega) (by omega)
      · exact body t w hI (oe.tr (zit_off _ (a_ngF_off _) _ _ _))
theorem t_proof (d : Nat) (hW : aW α) (hd : aWd α) (hL : aWL α) (hR : aRd α 0) : zTr E (d + 5) mX9_proof [.ref 100] (κ, α, τ) (some (.int (zon (a_pf (aLn α) 0 (a0 α)).1))) (κ, (a_pf (aLn α) 0 (a0 α)).2, τ) := by
  refine zM.tr (zM_of [some (.ref 100), none, none] (by decide) rfl (Nat.le_of_ble_eq_true rfl) ?_)
  have ho := a0_off (α := α)
  have hrow := ho 101 (by decide)
  refine x_aload_n (pc := 0) 0 dX9_proof_0 rfl rfl ?_
  refine x_iconst (pc := 1) (nI 0) dX9_proof_1 (by decide) ?_
  refine x_puti_h (pc := 2) dX9_proof_2 pX9_63 (zat_b rfl rfl) rfl rfl ?_
  refine x_iconst (pc := 5) (nI 0) dX9_proof_5 (by decide) ?_
  refine x_istore_n (pc := 6) 1 dX9_proof_6 rfl (by decide) rfl ?_
  refine l_pf d (aLn α) 0 (a0 α) ?_ (hW.off ho (by decide)) ?_ ?_ (hR.off ho (by decide) (by decide)) _
  · unfold aLn; rw [hrow]; omega
  · unfold aWd aN aS aL at *; rw [hrow]; exact hd
  · unfold aWL aLn aN at *; rw [hrow]; exact hL
end M27
