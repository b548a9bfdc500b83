/-! the reference: what a small reader draws -/
def aSc : List Nat := [100, 105, 106, 107, 108, 109]
theorem a_comes_off (α : Nat → Nat → Int32) (l w : Int32) : zoff aSc α (a_comes α l w) := (((((zoff.rf.up (by decide)).up (by decide)).up (by decide)).up (by decide)).up (by decide)).up (by decide)
def aF (α : Nat → Nat → Int32) (k : Nat) : Nat := (α 119 k).toNatClampNeg
/-- R told lines are in order -/
def aRd (α : Nat → Nat → Int32) (R : Nat) : Prop := R ≤ 401 ∧ (∀ k, k ≤ R → α 119 k = nI (aF α k) ∧ aF α k ≤ 400) ∧ (∀ k, k < R → aF α k ≤ aF α (k + 1)) ∧ ∀ k, k < R → ∀ i, aF α k ≤ i → i < aF α (k + 1) → lok 30 (α 118 i)
theorem aRd.off {α β : Nat → Nat → Int32} {R : Nat} {L : List Nat} (h : aRd α R) (ho : zoff L α β) (h1 : 118 ∉ L) (h2 : 119 ∉ L) : aRd β R := by
  have e1 := ho 118 h1
  have e2 := ho 119 h2
  unfold aRd aF at *
  rw [e1, e2]
  exact h
def a_rdN (α : Nat → Nat → Int32) (k : Nat) : Nat := zopn (fun i => a_tr α (α 118 i)) (aF α k) (aF α (k + 1) - aF α k) 0
def a_rdF (α : Nat → Nat → Int32) (i : Nat) (l : Int32) : Int32 := if a_tr α (α 118 i) = 0 then α 118 i else l
def a_rdL (α : Nat → Nat → Int32) (k : Nat) : Int32 := zit (a_rdF α) (aF α k) (aF α (k + 1) - aF α k) (nI 0)
def a_how (n : Nat) : Nat := if n = 0 then 2 else if n = 1 then 1 else 0
theorem a_rd_last {α : Nat → Nat → Int32} : ∀ {m k : Nat} {l : Int32}, (a_tr α l = 0 ∧ lok 30 l ∨ ∃ j, k ≤ j ∧ j < k + m ∧ a_tr α (α 118 j) = 0) → (∀ j, k ≤ j → j < k + m → lok 30 (α 118 j)) → lok 30 (zit (a_rdF α) k m l) ∧ a_tr α (zit (a_rdF α) k m l) = 0
  | 0, k, l, h, hl => by
    rcases h with h | ⟨j, h1, h2, -⟩
    · exact ⟨h.2, h.1⟩
    · omega
  | m + 1, k, l, h, hl => by
    show lok 30 (zit (a_rdF α) (k + 1) m (a_rdF α k l)) ∧ a_tr α (zit (a_rdF α) (k + 1) m (a_rdF α k l)) = 0
    refine a_rd_last ?_ (fun j a b => hl j (by omega) (by omega))
    unfold a_rdF
    by_cases hk : a_tr α (α 118 k) = 0
    · rw [if_pos hk]
      exact Or.inl ⟨hk, hl k (Nat.le_refl _) (by omega)⟩
    · rw [if_neg hk]
      rcases h with h | ⟨j, h1, h2, h3⟩
      · exact Or.inl h
      · refine Or.inr ⟨j, ?_, by omega, h3⟩
        rcases Nat.eq_or_lt_of_le h1 with rfl | q
        · exact absurd h3 hk
        · exact q
section M25
variable {E : zEnv} {κ α : Nat → Nat → Int32} {τ : (Nat → Nat → Int64) × (Nat → Nat)}
def a_dF (α : Nat → Nat → Int32) (c : Nat) : Nat → Nat → Int32 := if a_open α c = 1 then a_comes α (a_openOne α c) (nI c) else α
theorem t_drawsFrom (d : Nat) {c t : Nat} (hW : aW α) (hc : c < aN α) (hI : aI α t) : zTr E (d + 3) mX9_drawsFrom [.ref 100, .int (nI c)] (κ, α, τ) (some (.int (nI (a_how (a_open α c))))) (κ, a_dF α c, τ) := by
  have ho := a_open_le hW hc
  refine zM.tr (zM_of [some (.ref 100), some (.int (nI c)), none] (by decide) rfl (Nat.le_of_ble_eq_true rfl) ?_)
  unfold a_dF a_how
  refine x_aload_n (pc := 0) 0 dX9_drawsFrom_0 rfl rfl ?_
  refine x_iload_n (pc := 1) 1 dX9_drawsFrom_1 rfl rfl ?_
  refine x_callV1i (pc := 2) dX9_drawsFrom_2 lX9_114 (zat_b rfl rfl) rfl (t_open d hW hc) (Nat.le_of_ble_eq_true rfl) (Or.inl zgr) ?_
  refine x_istore_n (pc := 5) 2 dX9_drawsFrom_5 rfl (by decide) rfl ?_
  refine x_iload_n (pc := 6) 2 dX9_drawsFrom_6 rfl rfl ?_
  refine x_iconst (pc := 7) (nI 1) dX9_drawsFrom_7 (by decide) ?_
  by_cases h1 : a_open α c = 1
  · obtain ⟨hl, h0⟩ := a_openOne_0 hW hc h1
    obtain ⟨ht30, -⟩ := hI.comes (w := nI c) hl h0
    rw [h1, if_pos rfl, if_neg (by decide), if_pos rfl]
    refine x_icmp_ne_f (pc := 8) 21 dX9_drawsFrom_8 (by decide) (rfl) ?_
    refine x_aload_n (pc := 11) 0 dX9_drawsFrom_11 rfl rfl ?_
    refine x_aload_n (pc := 12) 0 dX9_drawsFrom_12 rfl rfl ?_
    refine x_iload_n (pc := 13) 1 dX9_drawsFrom_13 rfl rfl ?_
    refine x_callV1i (pc := 14) dX9_drawsFrom_14 lX9_171 (zat_b rfl rfl) rfl (t_openOne d hW hc) (Nat.le_of_ble_eq_true rfl) (Or.inl zgr) ?_
    refine x_iload_n (pc := 17) 1 dX9_drawsFrom_17 rfl rfl ?_
    refine x_callV2v (pc := 18) dX9_drawsFrom_18 lX9_135 (zat_b rfl rfl) rfl (t_comes d hl hI.1.1 ht30) (Nat.le_of_ble_eq_true rfl) (Or.inl zgr) ?_
    refine x_iload_n (pc := 21) 2 dX9_drawsFrom_21 rfl rfl ?_
    refine x_if_ne_t (pc := 22) 29 dX9_drawsFrom_22 (by decide) (by decide) ?_
    refine x_iload_n (pc := 29) 2 dX9_drawsFrom_29 rfl rfl ?_
    refine x_iconst (pc := 30) (nI 1) dX9_drawsFrom_30 (by decide) ?_
    refine x_icmp_ne_f (pc := 31) 38 dX9_drawsFrom_31 (by decide) (rfl) ?_
    refine x_iconst (pc := 34) (nI 1) dX9_drawsFrom_34 (by decide) ?_
    refine x_goto (pc := 35) 39 dX9_drawsFrom_35 (by decide) ?_
    refine x_iret (pc := 39) dX9_drawsFrom_39 rfl ?_
    exact ⟨rfl, rfl⟩
  · rw [if_neg h1, if_neg h1]
    have h1' : ¬ nI (a_open α c) = nI 1 := fun q => h1 ((nI_eq (by omega) (by decide)).mp q)
    by_cases h2 : a_open α c = 0
    · rw [if_pos h2]
      refine x_icmp_ne_t (pc := 8) 21 dX9_drawsFrom_8 (by decide) (h1') ?_
      refine x_iload_n (pc := 21) 2 dX9_drawsFrom_21 rfl rfl ?_
      refine x_if_ne_f (pc := 22) 29 dX9_drawsFrom_22 (by decide) (by rw [h2]; rfl) ?_
      refine x_iconst (pc := 25) (nI 2) dX9_drawsFrom_25 (by decide) ?_
      refine x_goto (pc := 26) 39 dX9_drawsFrom_26 (by decide) ?_
      refine x_iret (pc := 39) dX9_drawsFrom_39 rfl ?_
      exact ⟨rfl, rfl⟩
    · rw [if_neg h2]
      refine x_icmp_ne_t (pc := 8) 21 dX9_drawsFrom_8 (by decide) (h1') ?_
      refine x_iload_n (pc := 21) 2 dX9_drawsFrom_21 rfl rfl ?_
      refine x_if_ne_t (pc := 22) 29 dX9_drawsFrom_22 (by decide) (nI_ne0 (by omega) (by omega)) ?_
      refine x_iload_n (pc := 29) 2 dX9_drawsFrom_29 rfl rfl ?_
      refine x_iconst (pc := 30) (nI 1) dX9_drawsFrom_30 (by decide) ?_
      refine x_icmp_ne_t (pc := 31) 38 dX9_drawsFrom_31 (by decide) (h1') ?_
      refine x_iconst (pc := 38) (nI 0) dX9_drawsFrom_38 (by decide) ?_
      refine x_iret (pc := 39) dX9_drawsFrom_39 rfl ?_
      exact ⟨rfl, rfl⟩
theorem a_dF_I {c t : Nat} (hW : aW α) (hc : c < aN α) (hI : aI α t) : aW (a_dF α c) ∧ zoff aSc α (a_dF α c) ∧ ∃ t', t ≤ t' ∧ aI (a_dF α c) t' ∧ (a_open α c = 1 → t < t') := by
  unfold a_dF
  split
  · rename_i h1
    obtain ⟨hl, h0⟩ := a_openOne_0 hW hc h1
    obtain ⟨ht30, hI2⟩ := hI.comes (w := nI c) hl h0
    exact ⟨a_comes_W hW, a_comes_off _ _ _, t + 1, by omega, hI2, fun _ => by omega⟩
  · rename_i h1
    exact ⟨hW, zoff.rf, t, Nat.le_refl _, hI, fun q => absurd q h1⟩
theorem l_drawsRead (d : Nat) {k a b : Nat} (hk : k < 401) (ha : α 119 (k + 1) = nI b) (hb : b ≤ 400) (hl : ∀ i, a ≤ i → i < b → lok 30 (α 118 i)) (P : Option Value → zMem → Prop) : ∀ m i n l, i + m = b → a ≤ i → (∀ w4 w5, zfind (fun i => decide (0 < a_tr α (α 118 i))) i m = none → zX E (d + 3) mX9_drawsRead 81 [some (.ref 100), some (.int (nI k)), some (.int (nI (n + zcnt (fun i => decide (a_tr α (α 118 i) = 0)) i m))), some (.int (zit (a_rdF α) i m l)), w4, w5] [] (κ, α, τ) P) → (zfind (fun i => decide (0 < a_tr α (α 118 i))) i m ≠ none → P (some (.int (nI 0))) (κ, α, τ)) → ∀ w5, zX E (d + 3) mX9_drawsRead 12 [some (.ref 100), some (.int (nI k)), some (.int (nI n)), some (.int l), some (.int (nI i)), w5] [] (κ, α, τ) P := by
  intro m
  induction m with
  | zero =>
    intro i n l hi hai K1 K2 w5
    refine x_iload (pc := 12) dX9_drawsRead_12 rfl ?_
    refine x_aload_n (pc := 14) 0 dX9_drawsRead_14 rfl rfl ?_
    refine x_getr (pc := 15) (119) dX9_drawsRead_15 fX9_50 (zat_b rfl rfl) rfl ?_
    refine x_iload_n (pc := 18) 1 dX9_drawsRead_18 rfl rfl ?_
    refine x_iconst (pc := 19) (nI 1) dX9_drawsRead_19 (by decide) ?_
    refine x_iadd (pc := 20) dX9_drawsRead_20 ?_
    have hj21 : k + 1 < 402 := by omega
    refine x_iald_h (pc := 21) (k + 1) dX9_drawsRead_21 (zar_b rfl rfl rfl) rfl (by first | rfl | simp only [pk_mul, nI_add] | simp only [zon, pk_mul, nI_add]) hj21 (Nat.lt_of_lt_of_le hj21 (by decide)) ?_
    rw [ha]
    refine x_icmp_ge_t (pc := 22) 81 dX9_drawsRead_22 (by decide) (nI_le (by omega) (by omega)) ?_
    exact K1 _ _ rfl
  | succ m ih =>
    intro i n l hi hai K1 K2 w5
    have st1 : zfind (fun i => decide (0 < a_tr α (α 118 i))) i (m + 1) = bif decide (0 < a_tr α (α 118 i)) then some i else zfind (fun i => decide (0 < a_tr α (α 118 i))) (i + 1) m := rfl
    have st2 : zcnt (fun i => decide (a_tr α (α 118 i) = 0)) i (m + 1) = (bif decide (a_tr α (α 118 i) = 0) then 1 else 0) + zcnt (fun i => decide (a_tr α (α 118 i) = 0)) (i + 1) m := rfl
    have st3 : zit (a_rdF α) i (m + 1) l = zit (a_rdF α) (i + 1) m (a_rdF α i l) := rfl
    rw [st1, st2, st3] at K1
    rw [st1] at K2
    refine x_iload (pc := 12) dX9_drawsRead_12 rfl ?_
    refine x_aload_n (pc := 14) 0 dX9_drawsRead_14 rfl rfl ?_
    refine x_getr (pc := 15) (119) dX9_drawsRead_15 fX9_50 (zat_b rfl rfl) rfl ?_
    refine x_iload_n (pc := 18) 1 dX9_drawsRead_18 rfl rfl ?_
    refine x_iconst (pc := 19) (nI 1) dX9_drawsRead_19 (by decide) ?_
    refine x_iadd (pc := 20) dX9_drawsRead_20 ?_
    have hj21 : k + 1 < 402 := by omega
    refine x_iald_h (pc := 21) (k + 1) dX9_drawsRead_21 (zar_b rfl rfl rfl) rfl (by first | rfl | simp only [pk_mul, nI_add] | simp only [zon, pk_mul, nI_add]) hj21 (Nat.lt_of_lt_of_le hj21 (by decide)) ?_
    rw [ha]
    refine x_icmp_ge_f (pc := 22) 81 dX9_drawsRead_22 (by decide) (nI_ge (by omega) (by omega)) ?_
    refine x_aload_n (pc := 25) 0 dX9_drawsRead_25 rfl rfl ?_
    refine x_aload_n (pc := 26) 0 dX9_drawsRead_26 rfl rfl ?_
    refine x_getr (pc := 27) (118) dX9_drawsRead_27 fX9_47 (zat_b rfl rfl) rfl ?_
    refine x_iload (pc := 30) dX9_drawsRead_30 rfl ?_
    have hj32 : i < 400 := by omega
    refine x_iald_h (pc := 32) (i) dX9_drawsRead_32 (zar_b rfl rfl rfl) rfl (by first | rfl | simp only [pk_mul, nI_add] | simp only [zon, pk_mul, nI_add]) hj32 (Nat.lt_of_lt_of_le hj32 (by decide)) ?_
    refine x_callV1i (pc := 33) dX9_drawsRead_33 lX9_111 (zat_b rfl rfl) rfl (t_truth (d + 1) (hl i hai (by omega))) (Nat.le_of_ble_eq_true rfl) (Or.inl zgr) ?_
    refine x_istore (pc := 36) dX9_drawsRead_36 (by decide) rfl ?_
    refine x_iload (pc := 38) dX9_drawsRead_38 rfl ?_
    by_cases h1 : 0 < a_tr α (α 118 i)
    · rw [decide_eq_true h1] at K2
      refine x_if_le_f (pc := 40) 45 dX9_drawsRead_40 (by decide) (Int32.not_le.mpr h1) ?_
      refine x_iconst (pc := 43) (nI 0) dX9_drawsRead_43 (by decide) ?_
      refine x_iret (pc := 44) dX9_drawsRead_44 rfl ?_
      exact K2 (by simp)
    · rw [decide_eq_false h1] at K1 K2
      by_cases h2 : a_tr α (α 118 i) = 0
      · have e : a_rdF α i l = α 118 i := by unfold a_rdF; rw [if_pos h2]
        rw [e, decide_eq_true h2, cond_true, ← Nat.add_assoc] at K1
        refine x_if_le_t (pc := 40) 45 dX9_drawsRead_40 (by decide) (Int32.not_lt.mp h1) ?_
        refine x_iload_n (pc := 45) 2 dX9_drawsRead_45 rfl rfl ?_
        refine x_iload (pc := 46) dX9_drawsRead_46 rfl ?_
        refine x_if_ne_f (pc := 48) 55 dX9_drawsRead_48 (by decide) (h2) ?_
        refine x_iconst (pc := 51) (nI 1) dX9_drawsRead_51 (by decide) ?_
        refine x_goto (pc := 52) 56 dX9_drawsRead_52 (by decide) ?_
        refine x_iadd (pc := 56) dX9_drawsRead_56 ?_
        refine x_istore_n (pc := 57) 2 dX9_drawsRead_57 rfl (by decide) rfl ?_
        refine x_iload (pc := 58) dX9_drawsRead_58 rfl ?_
        refine x_if_ne_f (pc := 60) 73 dX9_drawsRead_60 (by decide) (h2) ?_
        refine x_aload_n (pc := 63) 0 dX9_drawsRead_63 rfl rfl ?_
        refine x_getr (pc := 64) (118) dX9_drawsRead_64 fX9_47 (zat_b rfl rfl) rfl ?_
        refine x_iload (pc := 67) dX9_drawsRead_67 rfl ?_
        have hj69 : i < 400 := by omega
        refine x_iald_h (pc := 69) (i) dX9_drawsRead_69 (zar_b rfl rfl rfl) rfl (by first | rfl | simp only [pk_mul, nI_add] | simp only [zon, pk_mul, nI_add]) hj69 (Nat.lt_of_lt_of_le hj69 (by decide)) ?_
        refine x_goto (pc := 70) 74 dX9_drawsRead_70 (by decide) ?_
        refine x_istore_n (pc := 74) 3 dX9_drawsRead_74 rfl (by decide) rfl ?_
        refine x_iinc (pc := 75) (nI (i + 1)) dX9_drawsRead_75 rfl (zinc _) (by decide) rfl ?_
        refine x_goto (pc := 78) 12 dX9_drawsRead_78 (by decide) ?_
        rw [nI_add]
        exact ih (i + 1) (n + 1) _ (by omega) (by omega) K1 K2 _
      · have e : a_rdF α i l = l := by unfold a_rdF; rw [if_neg h2]
        rw [e, decide_eq_false h2] at K1
        simp only [cond_false, Nat.zero_add] at K1
        refine x_if_le_t (pc := 40) 45 dX9_drawsRead_40 (by decide) (Int32.not_lt.mp h1) ?_
        refine x_iload_n (pc := 45) 2 dX9_drawsRead_45 rfl rfl ?_
        refine x_iload (pc := 46) dX9_drawsRead_46 rfl ?_
        refine x_if_ne_t (pc := 48) 55 dX9_drawsRead_48 (by decide) (h2) ?_
        refine x_iconst (pc := 55) (nI 0) dX9_drawsRead_55 (by decide) ?_
        refine x_iadd (pc := 56) dX9_drawsRead_56 ?_
        refine x_istore_n (pc := 57) 2 dX9_drawsRead_57 rfl (by decide) rfl ?_
        refine x_iload (pc := 58) dX9_drawsRead_58 rfl ?_
        refine x_if_ne_t (pc := 60) 73 dX9_drawsRead_60 (by decide) (h2) ?_
        refine x_iload_n (pc := 73) 3 dX9_drawsRead_73 rfl rfl ?_
        refine x_istore_n (pc := 74) 3 dX9_drawsRead_74 rfl (by decide) rfl ?_
        refine x_iinc (pc := 75) (nI (i + 1)) dX9_drawsRead_75 rfl (zinc _) (by decide) rfl ?_
        refine x_goto (pc := 78) 12 dX9_drawsRead_78 (by decide) ?_
        rw [nI_add]
        exact ih (i + 1) n _ (by omega) (by omega) K1 K2 _
def a_rdT (α : Nat → Nat → Int32) (k : Nat) : Bool := (zfind (fun i => decide (0 < a_tr α (α 118 i))) (aF α k) (aF α (k + 1) - aF α k)).isSome
def a_rdC (α : Nat → Nat → Int32) (k : Nat) : Nat := zcnt (fun i => decide (a_tr α (α 118 i) = 0)) (aF α k) (aF α (k + 1) - aF α k)
def a_rdH (α : Nat → Nat → Int32) (k : Nat) : Nat := if a_rdT α k = true then 0 else a_how (a_rdC α k)
def a_rdA (α : Nat → Nat → Int32) (k : Nat) : Nat → Nat → Int32 := if a_rdT α k = false ∧ a_rdC α k = 1 then a_comes α (a_rdL α k) (-1) else α
theorem a_rdL_0 {k R : Nat} (hR : aRd α R) (hk : k < R) (hC : a_rdC α k = 1) : lok 30 (a_rdL α k) ∧ α 105 (zv (a_rdL α k)) = 0 := by
  obtain ⟨r1, r2, r3, r4⟩ := hR
  have hle := r3 k hk
  have ex : ∃ j, aF α k ≤ j ∧ j < aF α k + (aF α (k + 1) - aF α k) ∧ a_tr α (α 118 j) = 0 := by
    by_cases q : ∃ j, aF α k ≤ j ∧ j < aF α k + (aF α (k + 1) - aF α k) ∧ a_tr α (α 118 j) = 0
    · exact q
    · exfalso
      have : a_rdC α k = 0 := zcnt_zero.mpr (fun j a b => decide_eq_false (fun z => q ⟨j, a, b, z⟩))
      omega
  obtain ⟨g1, g2⟩ := a_rd_last (l := nI 0) (Or.inr ex) (fun j a b => r4 k hk j a (by omega))
  exact ⟨g1, a_tr0 g2⟩
theorem t_drawsRead (d : Nat) {k t R : Nat} (hR : aRd α R) (hk : k < R) (hI : aI α t) : zTr E (d + 3) mX9_drawsRead [.ref 100, .int (nI k)] (κ, α, τ) (some (.int (nI (a_rdH α k)))) (κ, a_rdA α k, τ) := by
  obtain ⟨r1, r2, r3, r4⟩ := id hR
  have hle := r3 k hk
  obtain ⟨e0, b0⟩ := r2 k (by omega)
  obtain ⟨e1, b1⟩ := r2 (k + 1) (by omega)
  have hC : a_rdC α k ≤ 400 := Nat.le_trans (zcnt_le _ _ _) (by omega)
  refine zM.tr (zM_of [some (.ref 100), some (.int (nI k)), none, none, none, none] (by decide) rfl (Nat.le_of_ble_eq_true rfl) ?_)
  refine x_iconst (pc := 0) (nI 0) dX9_drawsRead_0 (by decide) ?_
  refine x_istore_n (pc := 1) 2 dX9_drawsRead_1 rfl (by decide) rfl ?_
  refine x_iconst (pc := 2) (nI 0) dX9_drawsRead_2 (by decide) ?_
  refine x_istore_n (pc := 3) 3 dX9_drawsRead_3 rfl (by decide) rfl ?_
  refine x_aload_n (pc := 4) 0 dX9_drawsRead_4 rfl rfl ?_
  refine x_getr (pc := 5) (119) dX9_drawsRead_5 fX9_50 (zat_b rfl rfl) rfl ?_
  refine x_iload_n (pc := 8) 1 dX9_drawsRead_8 rfl rfl ?_
  have hj9 : k < 402 := by omega
  refine x_iald_h (pc := 9) (k) dX9_drawsRead_9 (zar_b rfl rfl rfl) rfl (by first | rfl | simp only [pk_mul, nI_add] | simp only [zon, pk_mul, nI_add]) hj9 (Nat.lt_of_lt_of_le hj9 (by decide)) ?_
  rw [e0]
  refine x_istore (pc := 10) dX9_drawsRead_10 (by decide) rfl ?_
  refine l_drawsRead d (by omega) e1 b1 (fun i p q => r4 k hk i p q) _ (aF α (k + 1) - aF α k) (aF α k) 0 (nI 0) (by omega) (Nat.le_refl _) (fun w4 w5 hz => ?_) (fun hz => ?_) _
  · have hT : a_rdT α k = false := by unfold a_rdT; rw [hz]; rfl
    rw [Nat.zero_add]
    show zX E (d + 3) mX9_drawsRead 81 [some (.ref 100), some (.int (nI k)), some (.int (nI (a_rdC α k))), some (.int (a_rdL α k)), w4, w5] [] _ _
    unfold a_rdH a_rdA a_how
    rw [hT]
    by_cases h1 : a_rdC α k = 1
    · obtain ⟨hl, h0⟩ := a_rdL_0 hR hk h1
      obtain ⟨ht30, -⟩ := hI.comes (w := -1) hl h0
      rw [h1, if_neg (by decide), if_neg (by decide), if_pos rfl, if_pos ⟨rfl, rfl⟩]
      refine x_iload_n (pc := 81) 2 dX9_drawsRead_81 rfl rfl ?_
      refine x_iconst (pc := 82) (nI 1) dX9_drawsRead_82 (by decide) ?_
      refine x_icmp_ne_f (pc := 83) 92 dX9_drawsRead_83 (by decide) (rfl) ?_
      refine x_aload_n (pc := 86) 0 dX9_drawsRead_86 rfl rfl ?_
      refine x_iload_n (pc := 87) 3 dX9_drawsRead_87 rfl rfl ?_
      refine x_iconst (pc := 88) (-1) dX9_drawsRead_88 (by decide) ?_
      refine x_callV2v (pc := 89) dX9_drawsRead_89 lX9_135 (zat_b rfl rfl) rfl (t_comes (d) hl hI.1.1 ht30) (Nat.le_of_ble_eq_true rfl) (Or.inl zgr) ?_
      refine x_iload_n (pc := 92) 2 dX9_drawsRead_92 rfl rfl ?_
      refine x_if_ne_t (pc := 93) 100 dX9_drawsRead_93 (by decide) (by decide) ?_
      refine x_iload_n (pc := 100) 2 dX9_drawsRead_100 rfl rfl ?_
      refine x_iconst (pc := 101) (nI 1) dX9_drawsRead_101 (by decide) ?_
      refine x_icmp_ne_f (pc := 102) 109 dX9_drawsRead_102 (by decide) (rfl) ?_
      refine x_iconst (pc := 105) (nI 1) dX9_drawsRead_105 (by decide) ?_
      refine x_goto (pc := 106) 110 dX9_drawsRead_106 (by decide) ?_
      refine x_iret (pc := 110) dX9_drawsRead_110 rfl ?_
      exact ⟨rfl, rfl⟩
    · have h1' : ¬ nI (a_rdC α k) = nI 1 := fun q => h1 ((nI_eq (by omega) (by decide)).mp q)
      rw [if_neg (show ¬ false = true by decide), if_neg (show ¬ (false = false ∧ a_rdC α k = 1) from fun q => h1 q.2)]
      by_cases h2 : a_rdC α k = 0
      · rw [if_pos h2]
        refine x_iload_n (pc := 81) 2 dX9_drawsRead_81 rfl rfl ?_
        refine x_iconst (pc := 82) (nI 1) dX9_drawsRead_82 (by decide) ?_
        refine x_icmp_ne_t (pc := 83) 92 dX9_drawsRead_83 (by decide) (h1') ?_
        refine x_iload_n (pc := 92) 2 dX9_drawsRead_92 rfl rfl ?_
        refine x_if_ne_f (pc := 93) 100 dX9_drawsRead_93 (by decide) (by rw [h2]; rfl) ?_
        refine x_iconst (pc := 96) (nI 2) dX9_drawsRead_96 (by decide) ?_
        refine x_goto (pc := 97) 110 dX9_drawsRead_97 (by decide) ?_
        refine x_iret (pc := 110) dX9_drawsRead_110 rfl ?_
        exact ⟨rfl, rfl⟩
      · rw [if_neg h2, if_neg h1]
        refine x_iload_n (pc := 81) 2 dX9_drawsRead_81 rfl rfl ?_
        refine x_iconst (pc := 82) (nI 1) dX9_drawsRead_82 (by decide) ?_
        refine x_icmp_ne_t (pc := 83) 92 dX9_drawsRead_83 (by decide) (h1') ?_
        refine x_iload_n (pc := 92) 2 dX9_drawsRead_92 rfl rfl ?_
        refine x_if_ne_t (pc := 93) 100 dX9_drawsRead_93 (by decide) (nI_ne0 (by omega) (by omega)) ?_
        refine x_iload_n (pc := 100) 2 dX9_drawsRead_100 rfl rfl ?_
        refine x_iconst (pc := 101) (nI 1) dX9_drawsRead_101 (by decide) ?_
        refine x_icmp_ne_t (pc := 102) 109 dX9_drawsRead_102 (by decide) (h1') ?_
        refine x_iconst (pc := 109) (nI 0) dX9_drawsRead_109 (by decide) ?_
        refine x_iret (pc := 110) dX9_drawsRead_110 rfl ?_
        exact ⟨rfl, rfl⟩
  · have hT : a_rdT α k = true := by
      unfold a_rdT
      cases q : zfind (fun i => decide (0 < a_tr α (α 118 i))) (aF α k) (aF α (k + 1) - aF α k) with
      | none => exact absurd q hz
      | some j => rfl
    unfold a_rdH a_rdA
    rw [hT]
    exact ⟨rfl, rfl⟩
theorem a_rdA_I {k t R : Nat} (hW : aW α) (hR : aRd α R) (hk : k < R) (hI : aI α t) : aW (a_rdA α k) ∧ zoff aSc α (a_rdA α k) ∧ ∃ t', t ≤ t' ∧ aI (a_rdA α k) t' ∧ (a_rdH α k = 1 → t < t') := by
  unfold a_rdA
  split
  · rename_i h
    obtain ⟨hl, h0⟩ := a_rdL_0 hR hk h.2
    obtain ⟨ht30, hI2⟩ := hI.comes (w := -1) hl h0
    exact ⟨a_comes_W hW, a_comes_off _ _ _, t + 1, by omega, hI2, fun _ => by omega⟩
  · rename_i h
    refine ⟨hW, zoff.rf, t, Nat.le_refl _, hI, fun q => ?_⟩
    exfalso
    unfold a_rdH a_how at q
    cases hT : a_rdT α k with
    | true => rw [hT] at q; simp at q
    | false =>
      rw [hT, if_neg (by decide)] at q
      by_cases h2 : a_rdC α k = 0
      · rw [if_pos h2] at q; omega
      · rw [if_neg h2] at q
        by_cases h1 : a_rdC α k = 1
        · exact h ⟨hT, h1⟩
        · rw [if_neg h1] at q; omega
/-- one pass over the told clauses, over lines, over told lines: whether all is refused, whether more came, the memory -/
def a_pC : Nat → Nat → Bool → (Nat → Nat → Int32) → Bool × Bool × (Nat → Nat → Int32)
  | 0, _, mo, α => (false, mo, α)
  | m + 1, c, mo, α => if a_learnt α c = true then a_pC m (c + 1) mo α else if a_open α c = 0 then (true, mo, α) else a_pC m (c + 1) (mo || Nat.beq (a_open α c) 1) (a_dF α c)
def a_pL : Nat → Nat → Bool → (Nat → Nat → Int32) → Bool × Bool × (Nat → Nat → Int32)
  | 0, _, mo, α => (false, mo, α)
  | m + 1, k, mo, α => if α 101 (925 + k) = -1 then (true, mo, α) else if a_open α (α 101 (925 + k)).toNatClampNeg = 0 then (true, mo, α) else a_pL m (k + 1) (mo || Nat.beq (a_open α (α 101 (925 + k)).toNatClampNeg) 1) (a_dF α (α 101 (925 + k)).toNatClampNeg)
def a_pR : Nat → Nat → Bool → (Nat → Nat → Int32) → Bool × Bool × (Nat → Nat → Int32)
  | 0, _, mo, α => (false, mo, α)
  | m + 1, k, mo, α => if a_rdH α k = 2 then (true, mo, α) else a_pR m (k + 1) (mo || Nat.beq (a_rdH α k) 1) (a_rdA α k)
end M25
