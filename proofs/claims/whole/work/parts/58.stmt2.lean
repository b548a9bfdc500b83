/-! the class: clauses of a text, statements, the whole text -/
section S2
variable {E : zEnv} {κ α : Nat → Nat → Int32} {τ : (Nat → Nat → Int64) × (Nat → Nat)}
theorem k_apE_5 {a : Nat → Nat → Int32} {n e : Nat} {b : Bool} : k_apE a n e b 11 5 = nI (n + 1) := by unfold k_apE; rw [zup_p (by decide), zup_same]
/-- the store is in order behind a clause more -/
theorem kW.app {p t : Nat} {b : Bool} (hW : kW κ τ) (hN : kN κ < 400) (ht : t ≤ 30) : kW (k_app (k_rmK κ τ (kS κ (kN κ) + t)) p (kN κ) t b) (k_rmT τ (kS κ (kN κ) + t)) := by
  have h12k := hW.s30 (Nat.le_refl (kN κ))
  have hs0 := hW.2.2.2.2.1
  have h24 := hW.2.2.2.2.2
  have z : ∀ q, q ≠ 16 → k_rmK κ τ (kS κ (kN κ) + t) q = κ q := fun q => k_rmK_at
  have hkS : kS (k_rmK κ τ (kS κ (kN κ) + t)) (kN κ) = kS κ (kN κ) := congrArg (fun f => (f (kN κ)).toNatClampNeg) (z 15 (by decide))
  have e5 : k_app (k_rmK κ τ (kS κ (kN κ) + t)) p (kN κ) t b 11 5 = nI (kN κ + 1) := by unfold k_app; exact k_apE_5
  have eN : kN (k_app (k_rmK κ τ (kS κ (kN κ) + t)) p (kN κ) t b) = kN κ + 1 := (congrArg Int32.toNatClampNeg e5).trans (nI_clamp (by omega))
  have e15 : ∀ i, k_app (k_rmK κ τ (kS κ (kN κ) + t)) p (kN κ) t b 15 i = if i = kN κ + 1 then nI (kS κ (kN κ) + t) else κ 15 i := by
    intro i
    unfold k_app k_apE
    rw [hkS]
    by_cases h : i = kN κ + 1
    · subst h
      rw [if_pos rfl, zup_same]
    · rw [if_neg h, zup_i h, zup_p (by decide), zup_p (by decide), zup_p (by decide), k_apL_at (by decide) (by decide) (by decide), zup_p (by decide), zup_p (by decide), z 15 (by decide)]
  have eS : ∀ i, i ≤ kN κ → kS (k_app (k_rmK κ τ (kS κ (kN κ) + t)) p (kN κ) t b) i = kS κ i := by
    intro i hi
    refine congrArg Int32.toNatClampNeg ?_
    rw [e15, if_neg (by omega)]
  have eT : kS (k_app (k_rmK κ τ (kS κ (kN κ) + t)) p (kN κ) t b) (kN κ + 1) = kS κ (kN κ) + t := by
    show (k_app (k_rmK κ τ (kS κ (kN κ) + t)) p (kN κ) t b 15 (kN κ + 1)).toNatClampNeg = _
    rw [e15, if_pos rfl]
    exact nI_clamp (by omega)
  refine ⟨⟨by rw [e5, eN], by rw [eN]; omega⟩, fun i hi => ?_, fun i hi => ?_, by rw [eS 0 (by omega)]; exact hW.2.2.2.1, by rw [eN, eT]; exact k_rmT_ge.1, k_rmT_le h24 (by omega)⟩
  · rw [eN] at hi
    rw [e15]
    by_cases h : i = kN κ + 1
    · subst h
      rw [if_pos rfl, eT]
    · rw [if_neg h, eS i (by omega)]
      exact hW.s (by omega)
  · rw [eN] at hi
    rw [eS i (by omega)]
    by_cases h : i = kN κ
    · subst h
      rw [eT]
      omega
    · rw [eS (i + 1) (by omega)]
      exact hW.2.2.1 i (by omega)
theorem kW.of' {κ' : Nat → Nat → Int32} (h : kW κ τ) (h1 : κ' 11 5 = κ 11 5) (h2 : κ' 15 = κ 15) : kW κ' τ := by
  unfold kW kN kS at h ⊢
  rw [h1, h2]
  exact h
/-- what reading a statement rests on -/
def kX (κ : Nat → Nat → Int32) (τ : (Nat → Nat → Int64) × (Nat → Nat)) (N : Nat) (b : Bool) : Prop := (∃ a, kTk κ N a) ∧ κ 6 3 = zbo b ∧ kW κ τ
theorem k_cl1_p {p : Nat} (h : p ≠ 6) : k_cl1 κ p = κ p := by funext j; unfold k_cl1; rw [zup_p h, zup_p h]
theorem k_cl1_i {j : Nat} (h : j ≠ 5) (h2 : j ≠ 6) : k_cl1 κ 6 j = κ 6 j := by unfold k_cl1; rw [zup_i h2, zup_i h]
theorem k_appW {p n t q : Nat} {b : Bool} (h1 : q ≠ 16) (h2 : q ≠ 12) (h3 : q ≠ 13) (h4 : q ≠ 14) (h5 : q ≠ 11) (h6 : q ≠ 15) : k_app κ p n t b q = κ q := by
  funext j
  unfold k_app k_apE
  rw [zup_p h6, zup_p h5, zup_p h5, zup_p h4, k_apL_at h1 h2 h3, zup_p h3, zup_p h2]
theorem s_readClause (d : Nat) {N : Nat} {b : Bool} (h : kX κ τ N b) : zTr E (d + 4) mX4_readClause [.ref 6] (κ, α, τ) (some (.int (zbo (k_cls κ τ).1))) ((k_cls κ τ).2.1, α, (k_cls κ τ).2.2) := by
  obtain ⟨⟨a, h1⟩, hb, hW⟩ := h
  refine zM.tr (zM_of [some (.ref 6)] (by decide) rfl (Nat.le_of_ble_eq_true rfl) ?_)
  unfold k_cls
  by_cases g1 : κ 5 7 = -2
  · rw [if_pos g1]
    refine x_aload_n (pc := 0) 0 dX4_readClause_0 rfl rfl ?_
    refine x_getr (pc := 1) (5) dX4_readClause_1 fX4_20 (zat_b rfl rfl) rfl ?_
    refine x_geti_l (pc := 4) dX4_readClause_4 fX4_60 (zat_b rfl rfl) rfl rfl ?_
    refine x_bipush (pc := 7) (-2) dX4_readClause_7 (by decide) ?_
    refine x_icmp_ne_f (pc := 9) 21 dX4_readClause_9 (by decide) (g1) ?_
    refine x_aload_n (pc := 12) 0 dX4_readClause_12 rfl rfl ?_
    refine x_getr (pc := 13) (5) dX4_readClause_13 fX4_20 (zat_b rfl rfl) rfl ?_
    refine x_iconst (pc := 16) (nI 1) dX4_readClause_16 (by decide) ?_
    refine x_callV1i (pc := 17) dX4_readClause_17 lX4_82 (zat_b rfl rfl) rfl (s_refuse (d + 2) _ h1.2.2.2.1 (by have := h1.2.2.1; have := h1.2.2.2.2; omega)) (Nat.le_of_ble_eq_true rfl) (Or.inl zgr) ?_
    refine x_zret (pc := 20) dX4_readClause_20 rfl (by decide) ?_
    exact ⟨rfl, rfl⟩
  · rw [if_neg g1]
    have fin : zX E (d + 4) mX4_readClause 46 [some (.ref 6)] [.int (zbo (k_full κ)), .ref 6] (κ, α, τ) (fun r ν => r = some (.int (zbo (if (k_rR κ (k_full κ)).1 = true then (true, if κ 6 3 = 0 then (k_cl1 (k_rR κ (k_full κ)).2, τ) else k_cl2 (k_cl1 (k_rR κ (k_full κ)).2) τ) else (false, (k_rR κ (k_full κ)).2, τ)).1)) ∧ ν = ((if (k_rR κ (k_full κ)).1 = true then (true, if κ 6 3 = 0 then (k_cl1 (k_rR κ (k_full κ)).2, τ) else k_cl2 (k_cl1 (k_rR κ (k_full κ)).2) τ) else (false, (k_rR κ (k_full κ)).2, τ)).2.1, α, (if (k_rR κ (k_full κ)).1 = true then (true, if κ 6 3 = 0 then (k_cl1 (k_rR κ (k_full κ)).2, τ) else k_cl2 (k_cl1 (k_rR κ (k_full κ)).2) τ) else (false, (k_rR κ (k_full κ)).2, τ)).2.2)) := by
      refine x_callV1i (pc := 46) dX4_readClause_46 lX4_86 (zat_b rfl rfl) rfl (s_readRow d (k_full κ) h1) (Nat.le_of_ble_eq_true rfl) (Or.inl zgr) ?_
      cases hc : (k_rR κ (k_full κ)).1 with
      | false =>
        rw [if_neg (by decide)]
        refine x_if_ne_f (pc := 49) 54 dX4_readClause_49 (by decide) (rfl) ?_
        refine x_iconst (pc := 52) (nI 0) dX4_readClause_52 (by decide) ?_
        refine x_zret (pc := 53) dX4_readClause_53 rfl (by decide) ?_
        exact ⟨rfl, rfl⟩
      | true =>
        rw [if_pos rfl]
        obtain ⟨a2, t, h2, ht, ht8⟩ := k_rR_ok h1 hc
        have z : ∀ p, p ≠ 5 → p ≠ 80 → p ≠ 81 → (k_rR κ (k_full κ)).2 p = κ p := fun p q1 q2 q3 => k_rR_p q1 q2 q3
        generalize (k_rR κ (k_full κ)).2 = K at h2 ht z ⊢
        have hWc : kW (k_cl1 K) τ := hW.of ((k_cl1_p (by decide)).trans (z 11 (by decide) (by decide) (by decide))) ((k_cl1_p (by decide)).trans (z 15 (by decide) (by decide) (by decide)))
        have htc : k_cl1 K 80 1 = nI t := by rw [k_cl1_p (by decide)]; exact ht
        have c : k_rT (k_cl1 K) = t := by unfold k_rT; rw [htc]; exact nI_clamp (by omega)
        have e6 : zup K 6 5 (K 6 5 + nI 1) 6 6 = K 6 6 := zup_i (by decide)
        have e63 : k_cl1 K 6 3 = zbo b := by rw [k_cl1_i (by decide) (by decide), z 6 (by decide) (by decide) (by decide)]; exact hb
        have eb : κ 6 3 = 0 ↔ b = false := by rw [hb]; cases b <;> decide
        refine x_if_ne_t (pc := 49) 54 dX4_readClause_49 (by decide) (by decide) ?_
        refine x_aload_n (pc := 54) 0 dX4_readClause_54 rfl rfl ?_
        refine x_dup (pc := 55) dX4_readClause_55 rfl ?_
        refine x_geti_l (pc := 56) dX4_readClause_56 fX4_48 (zat_b rfl rfl) rfl rfl ?_
        refine x_iconst (pc := 59) (nI 1) dX4_readClause_59 (by decide) ?_
        refine x_iadd (pc := 60) dX4_readClause_60 ?_
        refine x_puti_l (pc := 61) dX4_readClause_61 pX4_48 (zat_b rfl rfl) rfl rfl ?_
        refine x_aload_n (pc := 64) 0 dX4_readClause_64 rfl rfl ?_
        refine x_dup (pc := 65) dX4_readClause_65 rfl ?_
        refine x_geti_l (pc := 66) dX4_readClause_66 fX4_52 (zat_b rfl rfl) rfl rfl ?_
        rw [e6]
        refine x_iconst (pc := 69) (nI 1) dX4_readClause_69 (by decide) ?_
        refine x_iadd (pc := 70) dX4_readClause_70 ?_
        refine x_puti_l (pc := 71) dX4_readClause_71 pX4_52 (zat_b rfl rfl) rfl rfl ?_
        show zX E (d + 4) mX4_readClause 74 [some (.ref 6)] [] (k_cl1 K, α, τ) _
        refine x_aload_n (pc := 74) 0 dX4_readClause_74 rfl rfl ?_
        refine x_geti_l (pc := 75) dX4_readClause_75 fX4_28 (zat_b rfl rfl) rfl rfl ?_
        rw [e63]
        cases b with
        | false =>
          rw [if_pos (eb.mpr rfl)]
          refine x_if_eq_t (pc := 78) 97 dX4_readClause_78 (by decide) (rfl) ?_
          refine x_iconst (pc := 97) (nI 1) dX4_readClause_97 (by decide) ?_
          refine x_zret (pc := 98) dX4_readClause_98 rfl (by decide) ?_
          exact ⟨rfl, rfl⟩
        | true =>
          rw [if_neg (fun q => by have := eb.mp q; cases this)]
          refine x_if_eq_f (pc := 78) 97 dX4_readClause_78 (by decide) (by decide) ?_
          refine x_aload_n (pc := 81) 0 dX4_readClause_81 rfl rfl ?_
          refine x_getr (pc := 82) (10) dX4_readClause_82 fX4_24 (zat_b rfl rfl) rfl ?_
          refine x_getr (pc := 85) (11) dX4_readClause_85 fX4_39 (zat_b rfl rfl) rfl ?_
          refine x_aload_n (pc := 88) 0 dX4_readClause_88 rfl rfl ?_
          refine x_getr (pc := 89) (80) dX4_readClause_89 fX4_14 (zat_b rfl rfl) rfl ?_
          refine x_iconst (pc := 92) (nI 0) dX4_readClause_92 (by decide) ?_
          refine x_callV2i (pc := 93) dX4_readClause_93 lX4_104 (zat_b rfl rfl) rfl (s_append (p := 80) (t := t) (L := 8) (d + 0) false hWc (fun τ => kRow80) rfl rfl (by decide) (by decide) (by decide) (by decide) (by decide) (by decide) (by decide) htc ht8) (Nat.le_of_ble_eq_true rfl) (Or.inr (zfr_ok (by decide))) ?_
          unfold k_cl2
          rw [c]
          by_cases hN : kN (k_cl1 K) < 400
          · rw [if_pos hN, if_pos hN, if_pos hN]
            refine x_pop (pc := 96) dX4_readClause_96 rfl ?_
            refine x_iconst (pc := 97) (nI 1) dX4_readClause_97 (by decide) ?_
            refine x_zret (pc := 98) dX4_readClause_98 rfl (by decide) ?_
            exact ⟨rfl, rfl⟩
          · rw [if_neg hN, if_neg hN, if_neg hN]
            refine x_pop (pc := 96) dX4_readClause_96 rfl ?_
            refine x_iconst (pc := 97) (nI 1) dX4_readClause_97 (by decide) ?_
            refine x_zret (pc := 98) dX4_readClause_98 rfl (by decide) ?_
            exact ⟨rfl, rfl⟩
    by_cases g2 : nI 80 ≤ κ 6 5
    · rw [show k_full κ = true by unfold k_full; rw [decide_eq_true g2]; rfl] at fin ⊢
      refine x_aload_n (pc := 0) 0 dX4_readClause_0 rfl rfl ?_
      refine x_getr (pc := 1) (5) dX4_readClause_1 fX4_20 (zat_b rfl rfl) rfl ?_
      refine x_geti_l (pc := 4) dX4_readClause_4 fX4_60 (zat_b rfl rfl) rfl rfl ?_
      refine x_bipush (pc := 7) (-2) dX4_readClause_7 (by decide) ?_
      refine x_icmp_ne_t (pc := 9) 21 dX4_readClause_9 (by decide) (g1) ?_
      refine x_aload_n (pc := 21) 0 dX4_readClause_21 rfl rfl ?_
      refine x_aload_n (pc := 22) 0 dX4_readClause_22 rfl rfl ?_
      refine x_geti_l (pc := 23) dX4_readClause_23 fX4_48 (zat_b rfl rfl) rfl rfl ?_
      refine x_bipush (pc := 26) (nI 80) dX4_readClause_26 (by decide) ?_
      refine x_icmp_ge_t (pc := 28) 41 dX4_readClause_28 (by decide) (g2) ?_
      refine x_iconst (pc := 41) (nI 1) dX4_readClause_41 (by decide) ?_
      refine x_goto (pc := 42) 46 dX4_readClause_42 (by decide) ?_
      exact fin
    · by_cases g3 : nI 400 ≤ κ 6 6
      · rw [show k_full κ = true by unfold k_full; rw [decide_eq_true g3, Bool.or_true]] at fin ⊢
        refine x_aload_n (pc := 0) 0 dX4_readClause_0 rfl rfl ?_
        refine x_getr (pc := 1) (5) dX4_readClause_1 fX4_20 (zat_b rfl rfl) rfl ?_
        refine x_geti_l (pc := 4) dX4_readClause_4 fX4_60 (zat_b rfl rfl) rfl rfl ?_
        refine x_bipush (pc := 7) (-2) dX4_readClause_7 (by decide) ?_
        refine x_icmp_ne_t (pc := 9) 21 dX4_readClause_9 (by decide) (g1) ?_
        refine x_aload_n (pc := 21) 0 dX4_readClause_21 rfl rfl ?_
        refine x_aload_n (pc := 22) 0 dX4_readClause_22 rfl rfl ?_
        refine x_geti_l (pc := 23) dX4_readClause_23 fX4_48 (zat_b rfl rfl) rfl rfl ?_
        refine x_bipush (pc := 26) (nI 80) dX4_readClause_26 (by decide) ?_
        refine x_icmp_ge_f (pc := 28) 41 dX4_readClause_28 (by decide) (g2) ?_
        refine x_aload_n (pc := 31) 0 dX4_readClause_31 rfl rfl ?_
        refine x_geti_l (pc := 32) dX4_readClause_32 fX4_52 (zat_b rfl rfl) rfl rfl ?_
        refine x_sipush (pc := 35) (nI 400) dX4_readClause_35 (by decide) ?_
        refine x_icmp_lt_f (pc := 38) 45 dX4_readClause_38 (by decide) (Int32.not_lt.mpr g3) ?_
        refine x_iconst (pc := 41) (nI 1) dX4_readClause_41 (by decide) ?_
        refine x_goto (pc := 42) 46 dX4_readClause_42 (by decide) ?_
        exact fin
      · rw [show k_full κ = false by unfold k_full; rw [decide_eq_false g2, decide_eq_false g3]; rfl] at fin ⊢
        refine x_aload_n (pc := 0) 0 dX4_readClause_0 rfl rfl ?_
        refine x_getr (pc := 1) (5) dX4_readClause_1 fX4_20 (zat_b rfl rfl) rfl ?_
        refine x_geti_l (pc := 4) dX4_readClause_4 fX4_60 (zat_b rfl rfl) rfl rfl ?_
        refine x_bipush (pc := 7) (-2) dX4_readClause_7 (by decide) ?_
        refine x_icmp_ne_t (pc := 9) 21 dX4_readClause_9 (by decide) (g1) ?_
        refine x_aload_n (pc := 21) 0 dX4_readClause_21 rfl rfl ?_
        refine x_aload_n (pc := 22) 0 dX4_readClause_22 rfl rfl ?_
        refine x_geti_l (pc := 23) dX4_readClause_23 fX4_48 (zat_b rfl rfl) rfl rfl ?_
        refine x_bipush (pc := 26) (nI 80) dX4_readClause_26 (by decide) ?_
        refine x_icmp_ge_f (pc := 28) 41 dX4_readClause_28 (by decide) (g2) ?_
        refine x_aload_n (pc := 31) 0 dX4_readClause_31 rfl rfl ?_
        refine x_geti_l (pc := 32) dX4_readClause_32 fX4_52 (zat_b rfl rfl) rfl rfl ?_
        refine x_sipush (pc := 35) (nI 400) dX4_readClause_35 (by decide) ?_
        refine x_icmp_lt_t (pc := 38) 45 dX4_readClause_38 (by decide) (Int32.not_le.mp g3) ?_
        refine x_iconst (pc := 45) (nI 0) dX4_readClause_45 (by decide) ?_
        exact fin
theorem s_readStatement (d : Nat) {N : Nat} {b : Bool} (h : kX κ τ N b) : zTr E (d + 5) mX4_readStatement [.ref 6] (κ, α, τ) (some (.int (zbo (k_stm κ τ).1))) ((k_stm κ τ).2.1, α, (k_stm κ τ).2.2) := by
  obtain ⟨⟨a, h1⟩, hb, hW⟩ := id h
  refine zM.tr (zM_of [some (.ref 6)] (by decide) rfl (Nat.le_of_ble_eq_true rfl) ?_)
  unfold k_stm
  by_cases g3 : κ 5 7 = -3
  · rw [if_pos g3]
    refine x_aload_n (pc := 0) 0 dX4_readStatement_0 rfl rfl ?_
    refine x_getr (pc := 1) (5) dX4_readStatement_1 fX4_20 (zat_b rfl rfl) rfl ?_
    refine x_geti_l (pc := 4) dX4_readStatement_4 fX4_60 (zat_b rfl rfl) rfl rfl ?_
    rw [g3]
    refine x_tableIn (pc := 7) (off := 25) 32 dX4_readStatement_7  (by decide) (by decide) (by decide) (by decide) ?_
    refine x_aload_n (pc := 32) 0 dX4_readStatement_32 rfl rfl ?_
    refine x_callV0i (pc := 33) dX4_readStatement_33 lX4_70 (zat_b rfl rfl) rfl (s_readGrow (d + 2) b h1 hb) (Nat.le_of_ble_eq_true rfl) (Or.inl zgr) ?_
    refine x_zret (pc := 36) dX4_readStatement_36 rfl (zbo_nar _) ?_
    exact ⟨rfl, rfl⟩
  · rw [if_neg g3]
    by_cases g4 : κ 5 7 = -4
    · rw [if_pos g4]
      refine x_aload_n (pc := 0) 0 dX4_readStatement_0 rfl rfl ?_
      refine x_getr (pc := 1) (5) dX4_readStatement_1 fX4_20 (zat_b rfl rfl) rfl ?_
      refine x_geti_l (pc := 4) dX4_readStatement_4 fX4_60 (zat_b rfl rfl) rfl rfl ?_
      rw [g4]
      refine x_tableIn (pc := 7) (off := 30) 37 dX4_readStatement_7  (by decide) (by decide) (by decide) (by decide) ?_
      refine x_aload_n (pc := 37) 0 dX4_readStatement_37 rfl rfl ?_
      refine x_callV0i (pc := 38) dX4_readStatement_38 lX4_73 (zat_b rfl rfl) rfl (s_readAssume d b h1 hb) (Nat.le_of_ble_eq_true rfl) (Or.inl zgr) ?_
      refine x_zret (pc := 41) dX4_readStatement_41 rfl (zbo_nar _) ?_
      exact ⟨rfl, rfl⟩
    · rw [if_neg g4]
      by_cases g5 : κ 5 7 = -5
      · rw [if_pos g5]
        refine x_aload_n (pc := 0) 0 dX4_readStatement_0 rfl rfl ?_
        refine x_getr (pc := 1) (5) dX4_readStatement_1 fX4_20 (zat_b rfl rfl) rfl ?_
        refine x_geti_l (pc := 4) dX4_readStatement_4 fX4_60 (zat_b rfl rfl) rfl rfl ?_
        rw [g5]
        refine x_tableIn (pc := 7) (off := 35) 42 dX4_readStatement_7  (by decide) (by decide) (by decide) (by decide) ?_
        refine x_aload_n (pc := 42) 0 dX4_readStatement_42 rfl rfl ?_
        refine x_callV0i (pc := 43) dX4_readStatement_43 lX4_76 (zat_b rfl rfl) rfl (s_readPhases (d + 1) b h1 hb) (Nat.le_of_ble_eq_true rfl) (Or.inl zgr) ?_
        refine x_zret (pc := 46) dX4_readStatement_46 rfl (zbo_nar _) ?_
        exact ⟨rfl, rfl⟩
      · rw [if_neg g5]
        have ho : (κ 5 7).toInt < -5 ∨ -3 < (κ 5 7).toInt := by
          have e : ∀ n : Int, (Int32.ofInt n).toInt = n → (κ 5 7).toInt = n → κ 5 7 = Int32.ofInt n := fun n h1 h2 => Int32.toInt_inj.mp (h2.trans h1.symm)
          rcases Int.lt_or_le (κ 5 7).toInt (-5) with q | q
          · exact Or.inl q
          · rcases Int.lt_or_le (-3) (κ 5 7).toInt with q2 | q2
            · exact Or.inr q2
            · exfalso
              rcases (show (κ 5 7).toInt = -5 ∨ (κ 5 7).toInt = -4 ∨ (κ 5 7).toInt = -3 by omega) with q3 | q3 | q3
              · exact g5 (e (-5) (by decide) q3)
              · exact g4 (e (-4) (by decide) q3)
              · exact g3 (e (-3) (by decide) q3)
        refine x_aload_n (pc := 0) 0 dX4_readStatement_0 rfl rfl ?_
        refine x_getr (pc := 1) (5) dX4_readStatement_1 fX4_20 (zat_b rfl rfl) rfl ?_
        refine x_geti_l (pc := 4) dX4_readStatement_4 fX4_60 (zat_b rfl rfl) rfl rfl ?_
        refine x_tableOut (pc := 7) 47 dX4_readStatement_7 ( ho) (by decide) ?_
        refine x_aload_n (pc := 47) 0 dX4_readStatement_47 rfl rfl ?_
        refine x_callV0i (pc := 48) dX4_readStatement_48 lX4_79 (zat_b rfl rfl) rfl (s_readClause d h) (Nat.le_of_ble_eq_true rfl) (Or.inr (zfr_ok rfl)) ?_
        refine x_zret (pc := 51) dX4_readStatement_51 rfl (zbo_nar _) ?_
        exact ⟨rfl, rfl⟩
theorem k_ph1_63 {l : Int32} : k_ph1 κ l 6 = κ 6 := by unfold k_ph1 k_setPhase; split <;> first | rfl | (funext j; rw [zup_p (by decide)])
theorem k_ph1_p {l : Int32} {p : Nat} (h : p ≠ 10) : k_ph1 κ l p = κ p := by unfold k_ph1 k_setPhase; split <;> first | rfl | (funext j; rw [zup_p h])
theorem k_phL_p {p : Nat} (h5 : p ≠ 5) (h10 : p ≠ 10) : ∀ n κ, (k_phL n κ).2 p = κ p
  | 0, κ => rfl
  | n + 1, κ => by
    unfold k_phL
    split
    · rfl
    · split
      · exact k_rl_p h5
      · rw [k_phL_p h5 h10 n, k_ph1_p h10, k_rl_p h5]
theorem k_phL_ok {N : Nat} : ∀ n κ a, kTk κ N a → (k_phL n κ).1 = true → ∃ a', kTk (k_phL n κ).2 N a'
  | 0, κ, a, h, _ => ⟨a, h⟩
  | n + 1, κ, a, h, hb => by
    unfold k_phL at hb ⊢
    split at hb
    · rename_i g1
      rw [if_pos g1]
      exact ⟨a, h⟩
    · rename_i g1
      rw [if_neg g1]
      split at hb
      · cases hb
      · rename_i g2
        rw [if_neg g2]
        obtain ⟨a', h'⟩ := k_rl_tk h g2
        exact k_phL_ok n _ a' (h'.of (k_ph1_p (by decide))) hb
theorem k_cpR_p {p q t : Nat} {x : Nat} (h1 : x ≠ p) (h2 : x ≠ p + 1) : k_cpR κ p q t x = κ x := by
  unfold k_cpR
  have : ∀ m i (a : Nat → Nat → Int32), zit (k_cpF κ p q) i m a x = a x := by
    intro m
    induction m with
    | zero => intro i a; rfl
    | succ m ih =>
      intro i a
      show zit (k_cpF κ p q) (i + 1) m (k_cpF κ p q i a) x = a x
      rw [ih]
      exact k_put_at h1 h2
  rw [this, k_emp_at h1]
/-- behind a statement that is no fault: the same -/
theorem kX.stm {N : Nat} {b : Bool} (h : kX κ τ N b) (hb : (k_stm κ τ).1 = true) : kX (k_stm κ τ).2.1 (k_stm κ τ).2.2 N b := by
  obtain ⟨⟨a, h1⟩, h63, hW⟩ := id h
  obtain ⟨a1, h2⟩ := k_adv_tk h1
  have eb : κ 6 3 = 0 ↔ b = false := by rw [h63]; cases b <;> decide
  unfold k_stm at hb ⊢
  by_cases g3 : κ 5 7 = -3
  · rw [if_pos g3] at hb ⊢
    have z : ∀ p, p ≠ 5 → p ≠ 6 → p ≠ 10 → (k_grw κ).2 p = κ p := by
      intro p p5 p6 p10
      unfold k_grw
      split
      · exact (k_ref_p p5).trans (k_adv_p p5)
      · split
        · exact (k_ref_p p5).trans (k_adv_p p5)
        · have e : k_gr2 (k_adv κ) p = κ p := by
            unfold k_gr2 k_gr1
            split
            · funext j; rw [zup_p p6, k_adv_p p5]
            · funext j; rw [zup_p p10, zup_p p6, k_adv_p p5]
          split
          · exact (k_adv_p p5).trans e
          · exact (k_ref_p p5).trans ((k_adv_p p5).trans e)
    have e5 : k_gr2 (k_adv κ) 5 = k_adv κ 5 := by
      unfold k_gr2 k_gr1
      split
      · funext j; rw [zup_p (by decide)]
      · funext j; rw [zup_p (by decide), zup_p (by decide)]
    have e6 : k_gr2 (k_adv κ) 6 3 = κ 6 3 := by
      unfold k_gr2 k_gr1
      split
      · rw [zup_i (by decide), k_adv_p (by decide)]
      · rw [zup_p (by decide), zup_i (by decide), k_adv_p (by decide)]
    refine ⟨?_, ?_, hW.of (z 11 (by decide) (by decide) (by decide)) (z 15 (by decide) (by decide) (by decide))⟩
    · show ∃ a, kTk (k_grw κ).2 N a
      have hb : (k_grw κ).1 = true := hb
      unfold k_grw at hb ⊢
      split at hb
      · cases hb
      · rename_i q1
        rw [if_neg q1]
        split at hb
        · cases hb
        · rename_i q2
          rw [if_neg q2]
          split at hb
          · rename_i q3
            rw [if_pos q3]
            exact k_adv_tk (h2.of e5)
          · cases hb
    · show (k_grw κ).2 6 3 = zbo b
      unfold k_grw
      split
      · show k_ref (k_adv κ) (nI 1) 6 3 = _
        rw [k_ref_p (by decide), k_adv_p (by decide)]; exact h63
      · split
        · show k_ref (k_adv κ) (nI 2) 6 3 = _
          rw [k_ref_p (by decide), k_adv_p (by decide)]; exact h63
        · split
          · show k_adv (k_gr2 (k_adv κ)) 6 3 = _
            rw [k_adv_p (by decide), e6]; exact h63
          · show k_ref (k_adv (k_gr2 (k_adv κ))) (nI 1) 6 3 = _
            rw [k_ref_p (by decide), k_adv_p (by decide), e6]; exact h63
  · rw [if_neg g3] at hb ⊢
    by_cases g4 : κ 5 7 = -4
    · rw [if_pos g4] at hb ⊢
      have hb : (k_asm κ).1 = true := hb
      show kX (k_asm κ).2 τ N b
      unfold k_asm at hb ⊢
      split at hb
      · rename_i q1
        rw [if_pos q1]
        obtain ⟨a2, t, h3, ht, ht8⟩ := k_rR_ok h2 q1
        have z : ∀ p, p ≠ 5 → p ≠ 80 → p ≠ 81 → (k_rR (k_adv κ) false).2 p = κ p := fun p q1 q2 q3 => by rw [k_rR_p q1 q2 q3, k_adv_p q1]
        show kX (if κ 6 3 = 0 then (k_rR (k_adv κ) false).2 else _) τ N b
        split
        · exact ⟨⟨a2, h3⟩, by rw [z 6 (by decide) (by decide) (by decide)]; exact h63, hW.of (z 11 (by decide) (by decide) (by decide)) (z 15 (by decide) (by decide) (by decide))⟩
        · refine ⟨⟨a2, h3.of (k_cpR_p (by decide) (by decide))⟩, ?_, hW.of ?_ ?_⟩
          · rw [k_cpR_p (by decide) (by decide), z 6 (by decide) (by decide) (by decide)]; exact h63
          · rw [k_cpR_p (by decide) (by decide), z 11 (by decide) (by decide) (by decide)]
          · rw [k_cpR_p (by decide) (by decide), z 15 (by decide) (by decide) (by decide)]
      · cases hb
    · rw [if_neg g4] at hb ⊢
      by_cases g5 : κ 5 7 = -5
      · rw [if_pos g5] at hb ⊢
        have hb : (k_phs κ).1 = true := hb
        show kX (k_phs κ).2 τ N b
        unfold k_phs at hb ⊢
        split at hb
        · cases hb
        · rename_i q1
          rw [if_neg q1]
          obtain ⟨a2, h3⟩ := k_phL_ok 401 _ a1 h2 hb
          have z : ∀ p, p ≠ 5 → p ≠ 10 → (k_phL 401 (k_adv κ)).2 p = κ p := fun p q1 q2 => by rw [k_phL_p q1 q2, k_adv_p q1]
          exact ⟨⟨a2, h3⟩, by rw [z 6 (by decide) (by decide)]; exact h63, hW.of (z 11 (by decide) (by decide)) (z 15 (by decide) (by decide))⟩
      · rw [if_neg g5] at hb ⊢
        unfold k_cls at hb ⊢
        split at hb
        · cases hb
        · rename_i q1
          rw [if_neg q1]
          split at hb
          · rename_i q2
            rw [if_pos q2]
            obtain ⟨a2, t, h3, ht, ht8⟩ := k_rR_ok h1 q2
            have z : ∀ p, p ≠ 5 → p ≠ 80 → p ≠ 81 → (k_rR κ (k_full κ)).2 p = κ p := fun p q1 q2 q3 => k_rR_p q1 q2 q3
            generalize (k_rR κ (k_full κ)).2 = K at h3 ht z ⊢
            have hWc : kW (k_cl1 K) τ := hW.of ((k_cl1_p (by decide)).trans (z 11 (by decide) (by decide) (by decide))) ((k_cl1_p (by decide)).trans (z 15 (by decide) (by decide) (by decide)))
            have hTc : kTk (k_cl1 K) N a2 := h3.of (k_cl1_p (by decide))
            have htc : k_cl1 K 80 1 = nI t := by rw [k_cl1_p (by decide)]; exact ht
            have c : k_rT (k_cl1 K) = t := by unfold k_rT; rw [htc]; exact nI_clamp (by omega)
            have e63 : k_cl1 K 6 3 = zbo b := by rw [k_cl1_i (by decide) (by decide), z 6 (by decide) (by decide) (by decide)]; exact h63
            show kX (if κ 6 3 = 0 then (k_cl1 K, τ) else k_cl2 (k_cl1 K) τ).1 (if κ 6 3 = 0 then (k_cl1 K, τ) else k_cl2 (k_cl1 K) τ).2 N b
            split
            · exact ⟨⟨a2, hTc⟩, e63, hWc⟩
            · unfold k_cl2
              split
              · rename_i q3
                rw [c]
                refine ⟨⟨a2, hTc.of ?_⟩, ?_, hWc.app q3 (by omega)⟩
                · show k_app _ 80 _ t false 5 = _
                  rw [k_appW (by decide) (by decide) (by decide) (by decide) (by decide) (by decide), k_rmK_at (by decide)]
                · show k_app _ 80 _ t false 6 3 = _
                  rw [k_appW (by decide) (by decide) (by decide) (by decide) (by decide) (by decide), k_rmK_at (by decide)]
                  exact e63
              · exact ⟨⟨a2, hTc⟩, e63, hWc⟩
          · cases hb
theorem kX.adv {N : Nat} {b : Bool} (h : kX κ τ N b) : kX (k_adv κ) τ N b := by
  obtain ⟨⟨a, h1⟩, h63, hW⟩ := h
  exact ⟨k_adv_tk h1, by rw [k_adv_p (by decide)]; exact h63, hW.of (k_adv_p (by decide)) (k_adv_p (by decide))⟩
theorem k_zfr6 {x1 x2 x3 : Int32} {st : List Value} {μ : zMem} (hs : st = []) : ∀ p, (some (Value.ref p) ∈ ([some (.ref 6), some (.int x1), some (.int x2), some (.int x3)] : List (Option Value)) ∨ Value.ref p ∈ st) → p ∈ zpl μ ∧ zstab p = true := by
  subst hs
  exact zfr_ok rfl
theorem l_read (d : Nat) {N : Nat} {b : Bool} {x1 : Int32} : ∀ n i c κ (τ : (Nat → Nat → Int64) × (Nat → Nat)), i + n = 401 → c = i → kX κ τ N b → zX E (d + 6) mX4_read 55 [some (.ref 6), some (.int x1), some (.int (nI c)), some (.int (nI i))] [] (κ, α, τ) (fun r ν => r = some (.int (k_rdL n c κ τ).1) ∧ ν = ((k_rdL n c κ τ).2.1, α, (k_rdL n c κ τ).2.2)) := by
  intro n
  induction n with
  | zero =>
    intro i c κ τ hi hc h
    refine x_iload_n (pc := 55) 3 dX4_read_55 rfl rfl ?_
    refine x_sipush (pc := 56) (nI 400) dX4_read_56 (by decide) ?_
    refine x_icmp_gt_t (pc := 59) 99 dX4_read_59 (by decide) (nI_lt (a := 400) (by omega) (by omega)) ?_
    refine x_iload_n (pc := 99) 2 dX4_read_99 rfl rfl ?_
    refine x_iret (pc := 100) dX4_read_100 rfl ?_
    exact ⟨rfl, rfl⟩
  | succ n ih =>
    intro i c κ τ hi hc h
    unfold k_rdL
    by_cases g1 : κ 5 7 = -7
    · rw [if_pos g1]
      refine x_iload_n (pc := 55) 3 dX4_read_55 rfl rfl ?_
      refine x_sipush (pc := 56) (nI 400) dX4_read_56 (by decide) ?_
      refine x_icmp_gt_f (pc := 59) 99 dX4_read_59 (by decide) (nI_nlt (b := i) (a := 400) (by omega) (by omega)) ?_
      refine x_aload_n (pc := 62) 0 dX4_read_62 rfl rfl ?_
      refine x_getr (pc := 63) (5) dX4_read_63 fX4_20 (zat_b rfl rfl) rfl ?_
      refine x_geti_l (pc := 66) dX4_read_66 fX4_60 (zat_b rfl rfl) rfl rfl ?_
      refine x_bipush (pc := 69) (-7) dX4_read_69 (by decide) ?_
      refine x_icmp_eq_t (pc := 71) 99 dX4_read_71 (by decide) (g1) ?_
      refine x_iload_n (pc := 99) 2 dX4_read_99 rfl rfl ?_
      refine x_iret (pc := 100) dX4_read_100 rfl ?_
      exact ⟨rfl, rfl⟩
    · rw [if_neg g1]
      refine x_iload_n (pc := 55) 3 dX4_read_55 rfl rfl ?_
      refine x_sipush (pc := 56) (nI 400) dX4_read_56 (by decide) ?_
      refine x_icmp_gt_f (pc := 59) 99 dX4_read_59 (by decide) (nI_nlt (b := i) (a := 400) (by omega) (by omega)) ?_
      refine x_aload_n (pc := 62) 0 dX4_read_62 rfl rfl ?_
      refine x_getr (pc := 63) (5) dX4_read_63 fX4_20 (zat_b rfl rfl) rfl ?_
      refine x_geti_l (pc := 66) dX4_read_66 fX4_60 (zat_b rfl rfl) rfl rfl ?_
      refine x_bipush (pc := 69) (-7) dX4_read_69 (by decide) ?_
      refine x_icmp_eq_f (pc := 71) 99 dX4_read_71 (by decide) (g1) ?_
      refine x_aload_n (pc := 74) 0 dX4_read_74 rfl rfl ?_
      refine x_callV0i (pc := 75) dX4_read_75 lX4_63 (zat_b rfl rfl) rfl (s_readStatement d h) (Nat.le_of_ble_eq_true rfl) (Or.inr (k_zfr6 rfl)) ?_
      cases hc2 : (k_stm κ τ).1 with
      | false =>
        rw [if_neg (by decide)]
        refine x_if_ne_f (pc := 78) 83 dX4_read_78 (by decide) (rfl) ?_
        refine x_iconst (pc := 81) (-1) dX4_read_81 (by decide) ?_
        refine x_iret (pc := 82) dX4_read_82 rfl ?_
        exact ⟨rfl, rfl⟩
      | true =>
        rw [if_pos rfl]
        have hx := h.stm hc2
        refine x_if_ne_t (pc := 78) 83 dX4_read_78 (by decide) (by decide) ?_
        refine x_aload_n (pc := 83) 0 dX4_read_83 rfl rfl ?_
        refine x_getr (pc := 84) (5) dX4_read_84 fX4_20 (zat_b rfl rfl) rfl ?_
        refine x_callV0v (pc := 87) dX4_read_87 lX4_67 (zat_b rfl rfl) rfl (s_advance (d + 4) hx.1.choose_spec) (Nat.le_of_ble_eq_true rfl) (Or.inl zgr) ?_
        refine x_iinc (pc := 90) (nI (c + 1)) dX4_read_90 rfl (zinc _) (by decide) rfl ?_
        refine x_iinc (pc := 93) (nI (i + 1)) dX4_read_93 rfl (zinc _) (by decide) rfl ?_
        refine x_goto (pc := 96) 55 dX4_read_96 (by decide) ?_
        exact ih (i + 1) (c + 1) _ _ (by omega) (by omega) hx.adv
theorem k_rd0_ok {N a : Nat} (b : Bool) (h : kTk κ N a) (hW : kW κ τ) : kX (k_rd0 κ b) τ N b := by
  have e : ∀ p, p ≠ 5 → p ≠ 6 → k_rd0 κ b p = κ p := fun p p5 p6 => by
    unfold k_rd0
    rw [k_tok0_p p5]
    funext j
    rw [zup_p p6, zup_p p6, zup_p p6, zup_p p6]
  refine ⟨⟨0, ?_⟩, ?_, hW.of (e 11 (by decide) (by decide)) (e 15 (by decide) (by decide))⟩
  · obtain ⟨h1, h2, h3, h4, h5⟩ := h
    unfold kTk k_rd0 k_tok0
    rw [zup_i (by decide), zup_i (by decide), zup_p (by decide), zup_p (by decide), zup_p (by decide), zup_p (by decide), zup_i (by decide), zup_same]
    exact ⟨h1, h2, h3, rfl, h2⟩
  · unfold k_rd0
    rw [k_tok0_p (by decide), zup_i (by decide), zup_i (by decide), zup_i (by decide), zup_same]
theorem s_read (d : Nat) (b : Bool) {N a : Nat} (h : kTk κ N a) (hW : kW κ τ) : zTr E (d + 6) mX4_read [.ref 6, .int (zbo b)] (κ, α, τ) (some (.int (k_read κ τ b).1)) ((k_read κ τ b).2.1, α, (k_read κ τ b).2.2) := by
  refine zM.tr (zM_of [some (.ref 6), some (.int (zbo b)), none, none] (by decide) rfl (Nat.le_of_ble_eq_true rfl) ?_)
  have hx := k_rd0_ok (τ := τ) b h hW
  refine x_aload_n (pc := 0) 0 dX4_read_0 rfl rfl ?_
  refine x_iload_n (pc := 1) 1 dX4_read_1 rfl rfl ?_
  refine x_put0_l (pc := 2) dX4_read_2 pX4_28 (zat_b rfl rfl) rfl rfl (And.intro (zbo_nar b) (zbo_fit b)).1 (And.intro (zbo_nar b) (zbo_fit b)).2 ?_
  refine x_aload_n (pc := 5) 0 dX4_read_5 rfl rfl ?_
  refine x_aload_n (pc := 6) 0 dX4_read_6 rfl rfl ?_
  refine x_getr (pc := 7) (10) dX4_read_7 fX4_24 (zat_b rfl rfl) rfl ?_
  refine x_geti_l (pc := 10) dX4_read_10 fX4_32 (zat_b rfl rfl) rfl rfl ?_
  rw [zup_p (by decide)]
  refine x_puti_l (pc := 13) dX4_read_13 pX4_38 (zat_b rfl rfl) rfl rfl ?_
  refine x_aload_n (pc := 16) 0 dX4_read_16 rfl rfl ?_
  refine x_aload_n (pc := 17) 0 dX4_read_17 rfl rfl ?_
  refine x_getr (pc := 18) (10) dX4_read_18 fX4_24 (zat_b rfl rfl) rfl ?_
  refine x_getr (pc := 21) (11) dX4_read_21 fX4_39 (zat_b rfl rfl) rfl ?_
  refine x_geti_l (pc := 24) dX4_read_24 fX4_43 (zat_b rfl rfl) rfl rfl ?_
  rw [zup_p (by decide), zup_p (by decide)]
  refine x_puti_l (pc := 27) dX4_read_27 pX4_48 (zat_b rfl rfl) rfl rfl ?_
  refine x_aload_n (pc := 30) 0 dX4_read_30 rfl rfl ?_
  refine x_aload_n (pc := 31) 0 dX4_read_31 rfl rfl ?_
  refine x_getr (pc := 32) (10) dX4_read_32 fX4_24 (zat_b rfl rfl) rfl ?_
  refine x_getr (pc := 35) (11) dX4_read_35 fX4_39 (zat_b rfl rfl) rfl ?_
  refine x_geti_l (pc := 38) dX4_read_38 fX4_49 (zat_b rfl rfl) rfl rfl ?_
  rw [zup_p (by decide), zup_p (by decide), zup_p (by decide)]
  refine x_puti_l (pc := 41) dX4_read_41 pX4_52 (zat_b rfl rfl) rfl rfl ?_
  refine x_aload_n (pc := 44) 0 dX4_read_44 rfl rfl ?_
  refine x_getr (pc := 45) (5) dX4_read_45 fX4_20 (zat_b rfl rfl) rfl ?_
  refine x_callV0v (pc := 48) dX4_read_48 lX4_55 (zat_b rfl rfl) rfl (s_startAgain (d + 4)) (Nat.le_of_ble_eq_true rfl) (Or.inl zgr) ?_
  refine x_iconst (pc := 51) (nI 0) dX4_read_51 (by decide) ?_
  refine x_istore_n (pc := 52) 2 dX4_read_52 rfl (by decide) rfl ?_
  refine x_iconst (pc := 53) (nI 0) dX4_read_53 (by decide) ?_
  refine x_istore_n (pc := 54) 3 dX4_read_54 rfl (by decide) rfl ?_
  exact l_read d 401 0 0 _ τ (by omega) rfl hx
end S2
