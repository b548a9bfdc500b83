/-! the reference: words, and the statements of a text -/
def a_let (α : Nat → Nat → Int32) (i : Nat) : Bool := decide (nI 97 ≤ α 121 i) && decide (α 121 i ≤ nI 122)
def a_woL (α : Nat → Nat → Int32) (p : Nat) : Nat → Nat → Int64 → Int64
  | 0, _, v => v
  | m + 1, i, v => bif a_let α i then a_woL α p m (i + 1) (if i - p < 7 then 27 * v + (α 121 i).toInt64 - 96 else 0) else v
def a_wv (α : Nat → Nat → Int32) : Int64 := a_woL α (a_hp α) (aLen α - a_hp α) (a_hp α) 0
def a_wq (α : Nat → Nat → Int32) : Nat := zspan (a_let α) (aLen α - a_hp α) (a_hp α)
theorem a_wq_le {α : Nat → Nat → Int32} (h : aWT α) : a_hp α ≤ a_wq α ∧ a_wq α ≤ 1000 := by
  have h1 := a_hp_le h
  have h2 := zspan_ge (a_let α) (aLen α - a_hp α) (a_hp α)
  have h3 := h.2.2.2
  unfold a_wq
  omega
/-- places stay near the text -/
theorem a_hp_max {α : Nat → Nat → Int32} : a_hp α ≤ max (aPl α) (aLen α) := by
  have := zspan_ge (a_blank α) (aLen α - aPl α) (aPl α)
  unfold a_hp
  omega
theorem a_nq_max {α : Nat → Nat → Int32} : a_nq α ≤ max (aPl α) (aLen α) := by
  have h1 := a_hp_max (α := α)
  have := zspan_ge (a_dgt α) (aLen α - a_hp α) (a_hp α)
  unfold a_nq
  split <;> omega
theorem aPl_fails {α : Nat → Nat → Int32} {k w : Int32} : aPl (a_fails α k w) = aPl α := by unfold aPl; rw [a_fails_at (Or.inr (by decide))]
theorem aLen_fails {α : Nat → Nat → Int32} {k w : Int32} : aLen (a_fails α k w) = aLen α := by unfold aLen; rw [a_fails_at (Or.inr (by decide))]
theorem aPl_here {α : Nat → Nat → Int32} (h : aWT α) : aPl (a_here α) = a_hp α := aPl_at (by have := (a_hp_le h).1; omega)
theorem aLen_here {α : Nat → Nat → Int32} : aLen (a_here α) = aLen α := aLen_up (Or.inr (by decide))
theorem aPl_number {α : Nat → Nat → Int32} (h : aWT α) : aPl (a_number α) = a_nq α := by
  have h1 := (a_nq_le α h).2
  unfold a_number
  split
  · exact aPl_at (by omega)
  · rw [aPl_fails]; exact aPl_at (by omega)
theorem a_b3_pl {α : Nat → Nat → Int32} {f : Bool} (h : aWT α) (hp : a_hp α ≤ 999) : aPl (a_b3 α f) ≤ max (aPl α) (aLen α) ∧ aLen (a_b3 α f) = aLen α := by
  have h1 := a_hp_max (α := α)
  constructor
  · unfold a_b3
    cases hm : a_mi α with
    | false => rw [aPl_at (by simp; omega)]; simpa using h1
    | true =>
      rw [aPl_at (by simp; omega)]
      have : a_hp α < aLen α := by
        rcases Nat.lt_or_ge (a_hp α) (aLen α) with q | q
        · exact q
        · unfold a_mi a_chr at hm; rw [if_neg (by omega)] at hm; exact absurd hm (by decide)
      simp only [cond_true]
      omega
  · unfold aLen; rw [a_b3_at (Or.inr (by decide))]
theorem a_lit_pl {α : Nat → Nat → Int32} {u f : Bool} (h : aWT α) (hp : a_hp α ≤ 999) : aPl (a_lit α u f) ≤ max (aPl α) (aLen α) ∧ aLen (a_lit α u f) = aLen α := by
  have h3 := a_b3_WT (f := f) h hp
  have h4 : aWT (a_b4 α f) := a_here_WT h3
  obtain ⟨g1, g2⟩ := a_b3_pl (f := f) h hp
  have e5 : aPl (a_b5 α f) ≤ max (aPl α) (aLen α) := by
    show aPl (a_number (a_b4 α f)) ≤ _
    rw [aPl_number h4]
    have m1 := a_nq_max (α := a_b4 α f)
    have m2 : aPl (a_b4 α f) = a_hp (a_b3 α f) := aPl_here h3
    have m3 : aLen (a_b4 α f) = aLen α := by show aLen (a_here (a_b3 α f)) = _; rw [aLen_here, g2]
    have m4 := a_hp_max (α := a_b3 α f)
    rw [m2, m3] at m1
    rw [g2] at m4
    omega
  have e7 : aPl (a_b7 α u f) = aPl (a_b5 α f) := by
    have e6 : aPl (a_b6 α u f) = aPl (a_b5 α f) := by unfold a_b6; split; exact aPl_fails; rfl
    unfold a_b7
    split
    · rw [aPl_fails, e6]
    · exact e6
  constructor
  · unfold a_lit
    split
    · rw [aPl_up (Or.inl (by decide)), e7]; exact e5
    · rw [e7]; exact e5
  · unfold aLen; rw [a_lit_at (by decide)]
theorem a_litV_lok {α : Nat → Nat → Int32} {u f : Bool} (hT : aWT α) (hp : a_hp α ≤ 999) (hV : α 101 0 = nI (aV α)) (h30 : aV α ≤ 30) (h : a_lit α u f 100 25 = 0) : f = false ∧ lok (aV α) (a_litV α u f) := by
  have h7 : a_b7 α u f 100 25 = 0 := by
    by_cases q : a_b7 α u f 100 25 = 0
    · exact q
    · unfold a_lit at h; rw [if_neg q] at h; exact h
  obtain ⟨-, hf, -, v1, v2, -⟩ := a_b7_var hT hp hV h30 h7
  refine ⟨hf, ?_⟩
  unfold a_litV
  rw [if_pos h7]
  split
  · exact ⟨_, v1, v2, Or.inr rfl⟩
  · exact ⟨_, v1, v2, Or.inl rfl⟩
def a_isl (α : Nat → Nat → Int32) : Bool := decide (a_chr α = nI 45) || a_dig (a_chr α)
def a_growT (α : Nat → Nat → Int32) : Nat → Nat → Int32 :=
  a_endS (if a_number (a_here α) 100 25 = 0 then (if (a_grows (a_number (a_here α)) (nI (a_nv (a_here α)))).1 = -1 then a_fails (a_number (a_here α)) (nI 2) (nI (a_hp α)) else (a_grows (a_number (a_here α)) (nI (a_nv (a_here α)))).2) else a_number (a_here α))
/-- one literal of phases -/
def a_ph1 (α : Nat → Nat → Int32) : Nat → Nat → Int32 :=
  if a_lit α false false 100 25 = 0 then zup (a_lit α false false) 101 (32 + zv (a_litV α false false)) (if 0 < a_litV α false false then nI 1 else nI 0) else a_lit α false false
def a_phL : Nat → Bool → (Nat → Nat → Int32) → (Nat → Nat → Int32)
  | 0, _, α => α
  | n + 1, first, α => if α 100 25 = 0 then (if first = true then a_phL n false (a_ph1 α) else (if a_isl α = true then a_phL n false (a_ph1 (a_here α)) else a_here α)) else α
def phOK : Nat → Bool → (Nat → Nat → Int32) → Prop
  | 0, _, _ => False
  | n + 1, first, α => α 100 25 = 0 → (first = true → phOK n false (a_ph1 α)) ∧ (first = false → a_isl α = true → phOK n false (a_ph1 (a_here α)))
section M19
variable {E : zEnv} {κ α : Nat → Nat → Int32} {τ : (Nat → Nat → Int64) × (Nat → Nat)}
theorem l_word (d : Nat) {L p : Nat} (hL : α 100 23 = nI L) (hL4 : L ≤ 400) (hp4 : p ≤ 1000) (P : Option Value → zMem → Prop) : ∀ m i v, (i + m = L ∨ m = 0 ∧ L ≤ i) → i ≤ 1000 → p ≤ i → P (some (.long (a_woL α p m i v))) (κ, zup α 100 24 (nI (zspan (a_let α) m i)), τ) → zX E (d + 2) mX9_word 12 [some (.ref 100), some (.int (nI p)), some (.long v), none] [] (κ, zup α 100 24 (nI i), τ) P := by
  intro m
  induction m with
  | zero =>
    intro i v hm hi hpi K
    have hge : L ≤ i := by omega
    refine x_aload_n (pc := 12) 0 dX9_word_12 rfl rfl ?_
    refine x_geti_h (pc := 13) dX9_word_13 fX9_233 (zat_b rfl rfl) rfl rfl ?_
    refine x_aload_n (pc := 16) 0 dX9_word_16 rfl rfl ?_
    refine x_geti_h (pc := 17) dX9_word_17 fX9_242 (zat_b rfl rfl) rfl rfl ?_
    rw [zup_same, zup_i (by decide), hL]
    refine x_icmp_ge_t (pc := 20) 91 dX9_word_20 (by decide) (nI_le hge (by omega)) ?_
    refine x_lload_n (pc := 91) 2 dX9_word_91 rfl rfl ?_
    refine x_lret (pc := 92) dX9_word_92 rfl ?_
    exact K
  | succ m ih =>
    intro i v hm hi hpi K
    have hlt : i < L := by omega
    have e1 : zspan (a_let α) (m + 1) i = bif a_let α i then zspan (a_let α) m (i + 1) else i := rfl
    have e2 : a_woL α p (m + 1) i v = bif a_let α i then a_woL α p m (i + 1) (if i - p < 7 then 27 * v + (α 121 i).toInt64 - 96 else 0) else v := rfl
    rw [e1, e2] at K
    refine x_aload_n (pc := 12) 0 dX9_word_12 rfl rfl ?_
    refine x_geti_h (pc := 13) dX9_word_13 fX9_233 (zat_b rfl rfl) rfl rfl ?_
    refine x_aload_n (pc := 16) 0 dX9_word_16 rfl rfl ?_
    refine x_geti_h (pc := 17) dX9_word_17 fX9_242 (zat_b rfl rfl) rfl rfl ?_
    rw [zup_same, zup_i (by decide), hL]
    refine x_icmp_ge_f (pc := 20) 91 dX9_word_20 (by decide) (nI_ge hlt (by omega)) ?_
    refine x_aload_n (pc := 23) 0 dX9_word_23 rfl rfl ?_
    refine x_getr (pc := 24) (121) dX9_word_24 fX9_53 (zat_b rfl rfl) rfl ?_
    refine x_aload_n (pc := 27) 0 dX9_word_27 rfl rfl ?_
    refine x_geti_h (pc := 28) dX9_word_28 fX9_233 (zat_b rfl rfl) rfl rfl ?_
    rw [zup_same]
    have hj31 : i < 400 := by omega
    refine x_bald_h (pc := 31) (i) dX9_word_31 (zar_b rfl rfl rfl) rfl (by first | rfl | simp only [pk_mul, nI_add] | simp only [zon, pk_mul, nI_add]) hj31 (Nat.lt_of_lt_of_le hj31 (by decide)) ?_
    rw [zup_p (by decide)]
    refine x_bipush (pc := 32) (nI 97) dX9_word_32 (by decide) ?_
    refine x_bipush (pc := 34) (nI 122) dX9_word_34 (by decide) ?_
    refine x_callS3i (pc := 36) dX9_word_36 lX9_67 (t_isIn d _ _ _) (Nat.le_of_ble_eq_true rfl) (Or.inl zgr) ?_
    show zX E (d + 2) mX9_word 39 _ [.int (zbo (a_let α i))] _ _
    cases hd : a_let α i with
    | false =>
      rw [hd, cond_false, cond_false] at K
      refine x_if_eq_t (pc := 39) 91 dX9_word_39 (by decide) (rfl) ?_
      refine x_lload_n (pc := 91) 2 dX9_word_91 rfl rfl ?_
      refine x_lret (pc := 92) dX9_word_92 rfl ?_
      exact K
    | true =>
      rw [hd, cond_true, cond_true] at K
      have J : ∀ v', v' = (if i - p < 7 then 27 * v + (α 121 i).toInt64 - 96 else 0) → zX E (d + 2) mX9_word 77 [some (.ref 100), some (.int (nI p)), some (.long v), none] [.long v'] (κ, zup α 100 24 (nI i), τ) P := by
        intro v' hv'
        refine x_lstore_n (pc := 77) 2 dX9_word_77 rfl (by decide) rfl ?_
        refine x_aload_n (pc := 78) 0 dX9_word_78 rfl rfl ?_
        refine x_dup (pc := 79) dX9_word_79 rfl ?_
        refine x_geti_h (pc := 80) dX9_word_80 fX9_233 (zat_b rfl rfl) rfl rfl ?_
        rw [zup_same]
        refine x_iconst (pc := 83) (nI 1) dX9_word_83 (by decide) ?_
        refine x_iadd (pc := 84) dX9_word_84 ?_
        rw [nI_add]
        refine x_puti_h (pc := 85) dX9_word_85 pX9_233 (zat_b rfl rfl) rfl rfl ?_
        refine x_goto (pc := 88) 12 dX9_word_88 (by decide) ?_
        rw [zup_zup]
        rw [← hv'] at K
        exact ih (i + 1) v' (by omega) (by omega) (by omega) K
      refine x_if_eq_f (pc := 39) 91 dX9_word_39 (by decide) (by decide) ?_
      refine x_aload_n (pc := 42) 0 dX9_word_42 rfl rfl ?_
      refine x_geti_h (pc := 43) dX9_word_43 fX9_233 (zat_b rfl rfl) rfl rfl ?_
      rw [zup_same]
      refine x_iload_n (pc := 46) 1 dX9_word_46 rfl rfl ?_
      refine x_isub (pc := 47) dX9_word_47 ?_
      refine x_bipush (pc := 48) (nI 7) dX9_word_48 (by decide) ?_
      rw [pk_sub hpi]
      by_cases h2 : i - p < 7
      ·
        refine x_icmp_ge_f (pc := 50) 76 dX9_word_50 (by decide) (nI_ge h2 (by omega)) ?_
        refine x_ldc2 (pc := 53) (27) dX9_word_53 (zt_of 1536 (by decide +kernel) (by decide +kernel)) ?_
        refine x_lload_n (pc := 56) 2 dX9_word_56 rfl rfl ?_
        refine x_lmul (pc := 57) dX9_word_57 ?_
        refine x_aload_n (pc := 58) 0 dX9_word_58 rfl rfl ?_
        refine x_getr (pc := 59) (121) dX9_word_59 fX9_53 (zat_b rfl rfl) rfl ?_
        refine x_aload_n (pc := 62) 0 dX9_word_62 rfl rfl ?_
        refine x_geti_h (pc := 63) dX9_word_63 fX9_233 (zat_b rfl rfl) rfl rfl ?_
        rw [zup_same]
        have hj66 : i < 400 := by omega
        refine x_bald_h (pc := 66) (i) dX9_word_66 (zar_b rfl rfl rfl) rfl (by first | rfl | simp only [pk_mul, nI_add] | simp only [zon, pk_mul, nI_add]) hj66 (Nat.lt_of_lt_of_le hj66 (by decide)) ?_
        rw [zup_p (by decide)]
        refine x_i2l (pc := 67) dX9_word_67 ?_
        refine x_ladd (pc := 68) dX9_word_68 ?_
        refine x_ldc2 (pc := 69) (96) dX9_word_69 (zt_of 1537 (by decide +kernel) (by decide +kernel)) ?_
        refine x_lsub (pc := 72) dX9_word_72 ?_
        refine x_goto (pc := 73) 77 dX9_word_73 (by decide) ?_
        exact J _ (by rw [if_pos h2])
      ·
        refine x_icmp_ge_t (pc := 50) 76 dX9_word_50 (by decide) (nI_le (by omega) (by omega)) ?_
        refine x_lconst (pc := 76) 0 dX9_word_76 (by decide) ?_
        exact J _ (by rw [if_neg h2])
theorem t_word (d : Nat) (h : aWT α) : zTr E (d + 2) mX9_word [.ref 100] (κ, α, τ) (some (.long (a_wv α))) (κ, zup α 100 24 (nI (a_wq α)), τ) := by
  obtain ⟨w1, w2, w3, w4⟩ := id h
  have hh := a_hp_le h
  refine zM.tr (zM_of [some (.ref 100), none, none, none] (by decide) rfl (Nat.le_of_ble_eq_true rfl) ?_)
  refine x_aload_n (pc := 0) 0 dX9_word_0 rfl rfl ?_
  refine x_callV0i (pc := 1) dX9_word_1 lX9_223 (zat_b rfl rfl) rfl (t_here d h) (Nat.le_of_ble_eq_true rfl) (Or.inl zgr) ?_
  refine x_pop (pc := 4) dX9_word_4 rfl ?_
  refine x_aload_n (pc := 5) 0 dX9_word_5 rfl rfl ?_
  refine x_geti_h (pc := 6) dX9_word_6 fX9_233 (zat_b rfl rfl) rfl rfl ?_
  have e : a_here α 100 24 = nI (a_hp α) := by unfold a_here; rw [zup_same]
  rw [e]
  refine x_istore_n (pc := 9) 1 dX9_word_9 rfl (by decide) rfl ?_
  refine x_lconst (pc := 10) 0 dX9_word_10 (by decide) ?_
  refine x_lstore_n (pc := 11) 2 dX9_word_11 rfl (by decide) rfl ?_
  exact l_word d w3 w4 hh.1 _ (aLen α - a_hp α) (a_hp α) 0 (by omega) hh.1 (Nat.le_refl _) ⟨rfl, rfl⟩
theorem t_growTold (d : Nat) (h : aWT α) (hV : α 101 0 = nI (aV α)) (h30 : aV α ≤ 30) : zTr E (d + 4) mX9_growTold [.ref 100] (κ, α, τ) none (κ, a_growT α, τ) := by
  have h1 := a_here_WT h
  have h2 := a_number_WT h1
  obtain ⟨hv, tn⟩ := t_number (E := E) (κ := κ) (τ := τ) d h1
  have e : a_here α 100 24 = nI (a_hp α) := by unfold a_here; rw [zup_same]
  refine zM.tr (zM_of [some (.ref 100), none, none] (by decide) rfl (Nat.le_of_ble_eq_true rfl) ?_)
  unfold a_growT
  refine x_aload_n (pc := 0) 0 dX9_growTold_0 rfl rfl ?_
  refine x_callV0i (pc := 1) dX9_growTold_1 lX9_223 (zat_b rfl rfl) rfl (t_here (d + 2) h) (Nat.le_of_ble_eq_true rfl) (Or.inl zgr) ?_
  refine x_pop (pc := 4) dX9_growTold_4 rfl ?_
  refine x_aload_n (pc := 5) 0 dX9_growTold_5 rfl rfl ?_
  refine x_geti_h (pc := 6) dX9_growTold_6 fX9_233 (zat_b rfl rfl) rfl rfl ?_
  rw [e]
  refine x_istore_n (pc := 9) 1 dX9_growTold_9 rfl (by decide) rfl ?_
  refine x_aload_n (pc := 10) 0 dX9_growTold_10 rfl rfl ?_
  refine x_callV0i (pc := 11) dX9_growTold_11 lX9_251 (zat_b rfl rfl) rfl (tn) (Nat.le_of_ble_eq_true rfl) (Or.inl zgr) ?_
  refine x_istore_n (pc := 14) 2 dX9_growTold_14 rfl (by decide) rfl ?_
  refine x_aload_n (pc := 15) 0 dX9_growTold_15 rfl rfl ?_
  refine x_geti_h (pc := 16) dX9_growTold_16 fX9_220 (zat_b rfl rfl) rfl rfl ?_
  by_cases hf : a_number (a_here α) 100 25 = 0
  · rw [if_pos hf]
    by_cases hg : (a_grows (a_number (a_here α)) (nI (a_nv (a_here α)))).1 = -1
    · rw [if_pos hg]
      have eg : (a_grows (a_number (a_here α)) (nI (a_nv (a_here α)))).2 = a_number (a_here α) := by
        unfold a_grows at hg ⊢
        split
        · rename_i q
          rw [if_pos q] at hg
          dsimp only at hg
          rw [a_number_at (Or.inl (by decide)), a_here_at (Or.inl (by decide)), hV, nI_add] at hg
          exact absurd hg (nI_nem1 (by omega))
        · rfl
      refine x_if_ne_f (pc := 19) 37 dX9_growTold_19 (by decide) (hf) ?_
      refine x_aload_n (pc := 22) 0 dX9_growTold_22 rfl rfl ?_
      refine x_iload_n (pc := 23) 2 dX9_growTold_23 rfl rfl ?_
      refine x_callV1i (pc := 24) dX9_growTold_24 lX9_79 (zat_b rfl rfl) rfl (t_grows (d + 2) _) (Nat.le_of_ble_eq_true rfl) (Or.inl zgr) ?_
      rw [hg, eg]
      refine x_iconst (pc := 27) (-1) dX9_growTold_27 (by decide) ?_
      refine x_icmp_ne_f (pc := 28) 37 dX9_growTold_28 (by decide) (rfl) ?_
      refine x_aload_n (pc := 31) 0 dX9_growTold_31 rfl rfl ?_
      refine x_iconst (pc := 32) (nI 2) dX9_growTold_32 (by decide) ?_
      refine x_iload_n (pc := 33) 1 dX9_growTold_33 rfl rfl ?_
      refine x_callV2v (pc := 34) dX9_growTold_34 lX9_248 (zat_b rfl rfl) rfl (t_fails (d + 2) _ _) (Nat.le_of_ble_eq_true rfl) (Or.inl zgr) ?_
      refine x_aload_n (pc := 37) 0 dX9_growTold_37 rfl rfl ?_
      refine x_callV0v (pc := 38) dX9_growTold_38 lX9_261 (zat_b rfl rfl) rfl (t_endsStatement (d + 1) h2.fails) (Nat.le_of_ble_eq_true rfl) (Or.inl zgr) ?_
      refine x_vret (pc := 41) dX9_growTold_41 rfl ?_
      exact ⟨rfl, rfl⟩
    · rw [if_neg hg]
      have hw : aWT (a_grows (a_number (a_here α)) (nI (a_nv (a_here α)))).2 := by
        unfold a_grows
        split
        · exact h2.up (Or.inl (by decide))
        · exact h2
      refine x_if_ne_f (pc := 19) 37 dX9_growTold_19 (by decide) (hf) ?_
      refine x_aload_n (pc := 22) 0 dX9_growTold_22 rfl rfl ?_
      refine x_iload_n (pc := 23) 2 dX9_growTold_23 rfl rfl ?_
      refine x_callV1i (pc := 24) dX9_growTold_24 lX9_79 (zat_b rfl rfl) rfl (t_grows (d + 2) _) (Nat.le_of_ble_eq_true rfl) (Or.inl zgr) ?_
      refine x_iconst (pc := 27) (-1) dX9_growTold_27 (by decide) ?_
      refine x_icmp_ne_t (pc := 28) 37 dX9_growTold_28 (by decide) (hg) ?_
      refine x_aload_n (pc := 37) 0 dX9_growTold_37 rfl rfl ?_
      refine x_callV0v (pc := 38) dX9_growTold_38 lX9_261 (zat_b rfl rfl) rfl (t_endsStatement (d + 1) hw) (Nat.le_of_ble_eq_true rfl) (Or.inl zgr) ?_
      refine x_vret (pc := 41) dX9_growTold_41 rfl ?_
      exact ⟨rfl, rfl⟩
  · rw [if_neg hf]
    refine x_if_ne_t (pc := 19) 37 dX9_growTold_19 (by decide) (hf) ?_
    refine x_aload_n (pc := 37) 0 dX9_growTold_37 rfl rfl ?_
    refine x_callV0v (pc := 38) dX9_growTold_38 lX9_261 (zat_b rfl rfl) rfl (t_endsStatement (d + 1) h2) (Nat.le_of_ble_eq_true rfl) (Or.inl zgr) ?_
    refine x_vret (pc := 41) dX9_growTold_41 rfl ?_
    exact ⟨rfl, rfl⟩
end M19
