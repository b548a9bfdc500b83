/-! the class's search: steps, runs, what is drawn alone -/
def k_step (κ : Nat → Nat → Int32) (τ : (Nat → Nat → Int64) × (Nat → Nat)) (b : Int32) : Int32 × (Nat → Nat → Int32) × ((Nat → Nat → Int64) × (Nat → Nat)) := match k_clash κ with
  | some _ => k_meet (k_look κ) τ b
  | none => match k_drawn κ with
    | some c => (-1, k_sput (zup (k_look κ) 10 10 (κ 10 10 + nI 1)) (k_olit κ c) (nI c), τ)
    | none => match k_first κ with
      | some k => if (κ 3 6 ||| κ 3 7) &&& kb (κ 20 k) = 0 then (-1, k_sput (zup (k_look κ) 3 8 (κ 3 8 + nI 1)) (κ 20 k) (-1), τ) else (nI 0, zup (k_look κ) 10 13 (k_core (k_look κ) k), τ)
      | none => if κ 3 2 < κ 10 4 then (-1, k_decide (k_look κ), τ) else (nI 1, zup (zup (k_look κ) 10 14 (κ 3 6)) 10 15 (κ 10 4), τ)
def ksOK (κ : Nat → Nat → Int32) (τ : (Nat → Nat → Int64) × (Nat → Nat)) : Prop :=
  kB κ τ ∧ kAL κ ∧ (∀ c, k_clash κ = some c → ¬ κ 3 8 = 0 → kN κ < 400 → kmOK (k_look κ) τ) ∧ (k_clash κ = none →
    (∀ c, k_drawn κ = some c → lok 30 (k_olit κ c) ∧ ∃ t, t < 30 ∧ κ 3 2 = nI t) ∧ (k_drawn κ = none →
      (∀ k, k_first κ = some k → (κ 3 6 ||| κ 3 7) &&& kb (κ 20 k) = 0 → ∃ t, t < 30 ∧ κ 3 2 = nI t) ∧ (k_first κ = none → κ 3 2 < κ 10 4 → 1 ≤ k_choice κ ∧ ∃ t, t < 30 ∧ κ 3 2 = nI t)))
section C11
variable {E : zEnv} {κ α : Nat → Nat → Int32} {τ : (Nat → Nat → Int64) × (Nat → Nat)}
theorem k_look_p {p : Nat} (h : p ≠ 3) : k_look κ p = κ p := by funext j; unfold k_look; exact k_lk_p h
theorem k_look_i {p j : Nat} (h : j ≠ 9) (h2 : j ≠ 10) : k_look κ p j = κ p j := by unfold k_look; exact k_lk_i h h2
theorem kB.look (h : kB κ τ) : kB (k_look κ) τ := by
  obtain ⟨hW, hV, ⟨t, hQ, hR⟩, hn, ha⟩ := h
  refine ⟨hW.of (k_look_p (by decide)) (k_look_p (by decide)), ?_, ⟨t, hQ.of (k_look_i (by decide) (by decide)) (k_look_p (by decide)), ?_⟩, ?_, ?_⟩
  · unfold kV; rw [k_look_p (by decide)]; exact hV
  · unfold kR; rw [k_look_p (p := 72) (by decide), k_look_p (p := 70) (by decide)]; exact hR
  · rw [k_look_i (by decide) (by decide)]; exact hn
  · rw [k_look_i (by decide) (by decide)]; exact ha
theorem kAL.look (h : kAL κ) : kAL (k_look κ) := by
  unfold kAL kA at h ⊢
  rw [k_look_p (p := 19) (by decide), k_look_p (p := 20) (by decide)]
  exact h
theorem k_first_look : k_first (k_look κ) = k_first κ := by
  unfold k_first k_asB kA
  rw [k_look_p (p := 19) (by decide), k_look_p (p := 20) (by decide), k_look_i (p := 3) (j := 6) (by decide) (by decide), k_look_i (p := 3) (j := 7) (by decide) (by decide)]
theorem k_olit_of {κ' : Nat → Nat → Int32} {c : Nat} (h12 : κ' 12 = κ 12) (h13 : κ' 13 = κ 13) (h6 : κ' 3 6 = κ 3 6) (h7 : κ' 3 7 = κ 3 7) : k_olit κ' c = k_olit κ c := by unfold k_olit k_opn; rw [h12, h13, h6, h7]
theorem k_choice_look : k_choice (k_look κ) = k_choice κ := by
  unfold k_choice k_chF kV
  rw [k_look_p (p := 10) (by decide), k_look_p (p := 21) (by decide), k_look_i (p := 3) (j := 6) (by decide) (by decide), k_look_i (p := 3) (j := 7) (by decide) (by decide)]
theorem s_step (d : Nat) (b : Int32) (h : ksOK κ τ) : zTr E (d + 6) mX2_step [.ref 3, .int b] (κ, α, τ) (some (.int (k_step κ τ b).1)) ((k_step κ τ b).2.1, α, (k_step κ τ b).2.2) := by
  obtain ⟨hB, hA, h1, h2⟩ := h
  have hBL := hB.look
  have hAL := hA.look
  obtain ⟨hW, ⟨hV, hV30⟩, ⟨t, hQ, hR⟩, ⟨n, hn30, hn⟩, -⟩ := id hB
  obtain ⟨hWL, ⟨hVL, hVL30⟩, ⟨tL, hQL, hRL⟩, ⟨nL, hnL30, hnL⟩, -⟩ := id hBL
  have hN4 := hW.n400
  refine zM.tr (zM_of [some (.ref 3), some (.int b), none] (by decide) rfl (Nat.le_of_ble_eq_true rfl) ?_)
  have e9 : k_look κ 3 9 = zon (k_clash κ) := k_lk_9
  have e10 : k_look κ 3 10 = zon (k_drawn κ) := k_lk_10
  have i6 : k_look κ 3 6 = κ 3 6 := k_look_i (by decide) (by decide)
  have i7 : k_look κ 3 7 = κ 3 7 := k_look_i (by decide) (by decide)
  have i2 : k_look κ 3 2 = κ 3 2 := k_look_i (by decide) (by decide)
  have i8 : k_look κ 3 8 = κ 3 8 := k_look_i (by decide) (by decide)
  refine x_aload_n (pc := 0) 0 dX2_step_0 rfl rfl ?_
  refine x_callV0v (pc := 1) dX2_step_1 lX2_58 (zat_b rfl rfl) rfl (s_look (d + 4) hW.n hN4) (Nat.le_of_ble_eq_true rfl) (Or.inl zgr) ?_
  refine x_aload_n (pc := 4) 0 dX2_step_4 rfl rfl ?_
  refine x_geti_l (pc := 5) dX2_step_5 fX2_71 (zat_b rfl rfl) rfl rfl ?_
  rw [e9]
  cases hc : k_clash κ with
  | some c =>
    have c4 := (zfind_some hc).2.1
    rw [hc] at e9
    have hs : k_step κ τ b = k_meet (k_look κ) τ b := by unfold k_step; rw [hc]
    rw [hs]
    refine x_iconst (pc := 8) (-1) dX2_step_8 (by decide) ?_
    refine x_icmp_eq_f (pc := 9) 18 dX2_step_9 (by decide) (nI_nem1 (by omega)) ?_
    refine x_aload_n (pc := 12) 0 dX2_step_12 rfl rfl ?_
    refine x_iload_n (pc := 13) 1 dX2_step_13 rfl rfl ?_
    refine x_callV1i (pc := 14) dX2_step_14 lX2_95 (zat_b rfl rfl) rfl (s_meet d b hBL (fun q1 q2 => h1 c hc (by rw [← i8]; exact q1) (by unfold kN at q2 ⊢; rw [k_look_p (by decide)] at q2; exact q2))) (Nat.le_of_ble_eq_true rfl) (Or.inr (zfr_ok rfl)) ?_
    refine x_iret (pc := 17) dX2_step_17 rfl ?_
    exact ⟨rfl, rfl⟩
  | none =>
    obtain ⟨h3, h4⟩ := h2 hc
    refine x_iconst (pc := 8) (-1) dX2_step_8 (by decide) ?_
    refine x_icmp_eq_t (pc := 9) 18 dX2_step_9 (by decide) (rfl) ?_
    refine x_aload_n (pc := 18) 0 dX2_step_18 rfl rfl ?_
    refine x_geti_l (pc := 19) dX2_step_19 fX2_61 (zat_b rfl rfl) rfl rfl ?_
    rw [e10]
    cases hd : k_drawn κ with
    | some c =>
      have c4 := (zfind_some hd).2.1
      rw [hd] at e10
      have hs : k_step κ τ b = (-1, k_sput (zup (k_look κ) 10 10 (κ 10 10 + nI 1)) (k_olit κ c) (nI c), τ) := by unfold k_step; rw [hc, hd]
      rw [hs]
      obtain ⟨hl, t', t30, ht⟩ := h3 c hd
      refine x_iconst (pc := 22) (-1) dX2_step_22 (by decide) ?_
      refine x_icmp_eq_f (pc := 23) 57 dX2_step_23 (by decide) (nI_nem1 (by omega)) ?_
      refine x_aload_n (pc := 26) 0 dX2_step_26 rfl rfl ?_
      refine x_getr (pc := 27) (10) dX2_step_27 fX2_30 (zat_b rfl rfl) rfl ?_
      refine x_dup (pc := 30) dX2_step_30 rfl ?_
      refine x_geti_l (pc := 31) dX2_step_31 fX2_98 (zat_b rfl rfl) rfl rfl ?_
      rw [k_look_p (p := 10) (by decide)]
      refine x_iconst (pc := 34) (nI 1) dX2_step_34 (by decide) ?_
      refine x_iadd (pc := 35) dX2_step_35 ?_
      refine x_puti_l (pc := 36) dX2_step_36 pX2_98 (zat_b rfl rfl) rfl rfl ?_
      refine x_aload_n (pc := 39) 0 dX2_step_39 rfl rfl ?_
      refine x_aload_n (pc := 40) 0 dX2_step_40 rfl rfl ?_
      refine x_aload_n (pc := 41) 0 dX2_step_41 rfl rfl ?_
      refine x_geti_l (pc := 42) dX2_step_42 fX2_61 (zat_b rfl rfl) rfl rfl ?_
      rw [zup_p (by decide), e10]
      refine x_callV1i (pc := 45) dX2_step_45 lX2_64 (zat_b rfl rfl) rfl (s_openLiteralOf (c := c) (d + 3) (by omega)) (Nat.le_of_ble_eq_true rfl) (Or.inl zgr) ?_
      refine x_aload_n (pc := 48) 0 dX2_step_48 rfl rfl ?_
      refine x_geti_l (pc := 49) dX2_step_49 fX2_61 (zat_b rfl rfl) rfl rfl ?_
      rw [zup_p (by decide), e10, k_olit_of (κ := κ) (by funext j; rw [zup_p (by decide), k_look_p (by decide)]) (by funext j; rw [zup_p (by decide), k_look_p (by decide)]) (by rw [zup_p (by decide)]; exact i6) (by rw [zup_p (by decide)]; exact i7)]
      refine x_callV2v (pc := 52) dX2_step_52 lX2_67 (zat_b rfl rfl) rfl (s_sput (d + 3) (zon (some c)) hl (t := t') (by rw [zup_p (by decide), i2]; exact ht) t30) (Nat.le_of_ble_eq_true rfl) (Or.inl zgr) ?_
      refine x_iconst (pc := 55) (-1) dX2_step_55 (by decide) ?_
      refine x_iret (pc := 56) dX2_step_56 rfl ?_
      exact ⟨rfl, rfl⟩
    | none =>
      obtain ⟨h5, h6⟩ := h4 hd
      refine x_iconst (pc := 22) (-1) dX2_step_22 (by decide) ?_
      refine x_icmp_eq_t (pc := 23) 57 dX2_step_23 (by decide) (rfl) ?_
      refine x_aload_n (pc := 57) 0 dX2_step_57 rfl rfl ?_
      refine x_callV0i (pc := 58) dX2_step_58 lX2_101 (zat_b rfl rfl) rfl (s_first (d + 3) hAL.1 hAL.2.1) (Nat.le_of_ble_eq_true rfl) (Or.inl zgr) ?_
      rw [k_first_look]
      cases hf : k_first κ with
      | some k =>
        have k8 := (zfind_some hf).2.1
        have kA8 := hA.2.1
        have e20 : k_look κ 20 k = κ 20 k := by rw [k_look_p (by decide)]
        by_cases ho : (κ 3 6 ||| κ 3 7) &&& kb (κ 20 k) = 0
        · obtain ⟨t', t30, ht⟩ := h5 k hf ho
          have hs : k_step κ τ b = (-1, k_sput (zup (k_look κ) 3 8 (κ 3 8 + nI 1)) (κ 20 k) (-1), τ) := by unfold k_step; rw [hc, hd, hf]; exact if_pos ho
          rw [hs]
          refine x_istore_n (pc := 61) 2 dX2_step_61 rfl (by decide) rfl ?_
          refine x_iload_n (pc := 62) 2 dX2_step_62 rfl rfl ?_
          refine x_iconst (pc := 63) (-1) dX2_step_63 (by decide) ?_
          refine x_icmp_eq_f (pc := 64) 73 dX2_step_64 (by decide) (nI_nem1 (by omega)) ?_
          refine x_aload_n (pc := 67) 0 dX2_step_67 rfl rfl ?_
          refine x_iload_n (pc := 68) 2 dX2_step_68 rfl rfl ?_
          refine x_callV1i (pc := 69) dX2_step_69 lX2_105 (zat_b rfl rfl) rfl (s_takeOpen (k := k) (t := t') (d + 1) (by omega) (by rw [e20]; exact hA.2.2 k (by omega)) (by rw [i2]; exact ht) t30 (by rw [i6, i7, e20]; exact ho)) (Nat.le_of_ble_eq_true rfl) (Or.inl zgr) ?_
          refine x_iret (pc := 72) dX2_step_72 rfl ?_
          exact ⟨rfl, by rw [i8, e20]⟩
        · have hs : k_step κ τ b = (nI 0, zup (k_look κ) 10 13 (k_core (k_look κ) k), τ) := by unfold k_step; rw [hc, hd, hf]; exact if_neg ho
          rw [hs]
          refine x_istore_n (pc := 61) 2 dX2_step_61 rfl (by decide) rfl ?_
          refine x_iload_n (pc := 62) 2 dX2_step_62 rfl rfl ?_
          refine x_iconst (pc := 63) (-1) dX2_step_63 (by decide) ?_
          refine x_icmp_eq_f (pc := 64) 73 dX2_step_64 (by decide) (nI_nem1 (by omega)) ?_
          refine x_aload_n (pc := 67) 0 dX2_step_67 rfl rfl ?_
          refine x_iload_n (pc := 68) 2 dX2_step_68 rfl rfl ?_
          refine x_callV1i (pc := 69) dX2_step_69 lX2_105 (zat_b rfl rfl) rfl (s_takeFail (k := k) (d + 1) (by omega) hAL hQL hRL (by rw [i6, i7, e20]; exact ho)) (Nat.le_of_ble_eq_true rfl) (Or.inl zgr) ?_
          refine x_iret (pc := 72) dX2_step_72 rfl ?_
          exact ⟨rfl, rfl⟩
      | none =>
        refine x_istore_n (pc := 61) 2 dX2_step_61 rfl (by decide) rfl ?_
        refine x_iload_n (pc := 62) 2 dX2_step_62 rfl rfl ?_
        refine x_iconst (pc := 63) (-1) dX2_step_63 (by decide) ?_
        refine x_icmp_eq_t (pc := 64) 73 dX2_step_64 (by decide) (rfl) ?_
        refine x_aload_n (pc := 73) 0 dX2_step_73 rfl rfl ?_
        refine x_geti_l (pc := 74) dX2_step_74 fX2_74 (zat_b rfl rfl) rfl rfl ?_
        refine x_aload_n (pc := 77) 0 dX2_step_77 rfl rfl ?_
        refine x_getr (pc := 78) (10) dX2_step_78 fX2_30 (zat_b rfl rfl) rfl ?_
        refine x_geti_l (pc := 81) dX2_step_81 fX2_108 (zat_b rfl rfl) rfl rfl ?_
        rw [i2, k_look_p (p := 10) (by decide)]
        by_cases hh : κ 3 2 < κ 10 4
        · obtain ⟨h7, t', t30, ht⟩ := h6 hf hh
          have hs : k_step κ τ b = (-1, k_decide (k_look κ), τ) := by unfold k_step; rw [hc, hd, hf]; exact if_pos hh
          rw [hs]
          refine x_icmp_lt_t (pc := 84) 114 dX2_step_84 (by decide) (hh) ?_
          refine x_aload_n (pc := 114) 0 dX2_step_114 rfl rfl ?_
          refine x_callV0v (pc := 115) dX2_step_115 lX2_117 (zat_b rfl rfl) rfl (s_decide (d + 2) hVL hVL30 (by rw [i2]; exact ht) t30 (by rw [k_choice_look]; exact h7)) (Nat.le_of_ble_eq_true rfl) (Or.inl zgr) ?_
          refine x_iconst (pc := 118) (-1) dX2_step_118 (by decide) ?_
          refine x_iret (pc := 119) dX2_step_119 rfl ?_
          exact ⟨rfl, rfl⟩
        · have hs : k_step κ τ b = (nI 1, zup (zup (k_look κ) 10 14 (κ 3 6)) 10 15 (κ 10 4), τ) := by unfold k_step; rw [hc, hd, hf]; exact if_neg hh
          rw [hs]
          refine x_icmp_lt_f (pc := 84) 114 dX2_step_84 (by decide) (hh) ?_
          refine x_aload_n (pc := 87) 0 dX2_step_87 rfl rfl ?_
          refine x_getr (pc := 88) (10) dX2_step_88 fX2_30 (zat_b rfl rfl) rfl ?_
          refine x_aload_n (pc := 91) 0 dX2_step_91 rfl rfl ?_
          refine x_geti_l (pc := 92) dX2_step_92 fX2_77 (zat_b rfl rfl) rfl rfl ?_
          rw [i6]
          refine x_puti_l (pc := 95) dX2_step_95 pX2_111 (zat_b rfl rfl) rfl rfl ?_
          refine x_aload_n (pc := 98) 0 dX2_step_98 rfl rfl ?_
          refine x_getr (pc := 99) (10) dX2_step_99 fX2_30 (zat_b rfl rfl) rfl ?_
          refine x_aload_n (pc := 102) 0 dX2_step_102 rfl rfl ?_
          refine x_getr (pc := 103) (10) dX2_step_103 fX2_30 (zat_b rfl rfl) rfl ?_
          refine x_geti_l (pc := 106) dX2_step_106 fX2_108 (zat_b rfl rfl) rfl rfl ?_
          rw [zup_i (by decide), k_look_p (p := 10) (by decide)]
          refine x_puti_l (pc := 109) dX2_step_109 pX2_114 (zat_b rfl rfl) rfl rfl ?_
          refine x_iconst (pc := 112) (nI 1) dX2_step_112 (by decide) ?_
          refine x_iret (pc := 113) dX2_step_113 rfl ?_
          exact ⟨rfl, rfl⟩
/-- the row of steps -/
def k_runL (b : Int32) : Nat → (Nat → Nat → Int32) → ((Nat → Nat → Int64) × (Nat → Nat)) → Int32 × (Nat → Nat → Int32) × ((Nat → Nat → Int64) × (Nat → Nat))
  | 0, κ, τ => (-1, κ, τ)
  | n + 1, κ, τ => if (k_step κ τ b).1 = -1 then k_runL b n (k_step κ τ b).2.1 (k_step κ τ b).2.2 else k_step κ τ b
def krOK (b : Int32) : Nat → (Nat → Nat → Int32) → ((Nat → Nat → Int64) × (Nat → Nat)) → Prop
  | 0, _, _ => False
  | n + 1, κ, τ => ksOK κ τ ∧ ((k_step κ τ b).1 = -1 → krOK b n (k_step κ τ b).2.1 (k_step κ τ b).2.2) ∧ (¬ (k_step κ τ b).1 = -1 → ∃ t, kQ (k_step κ τ b).2.1 t)
def k_run0 (κ : Nat → Nat → Int32) : Nat → Nat → Int32 := zup (k_emt κ) 10 13 (nI 0)
def k_run (n : Nat) (κ : Nat → Nat → Int32) (τ : (Nat → Nat → Int64) × (Nat → Nat)) (b : Int32) : Int32 × (Nat → Nat → Int32) × ((Nat → Nat → Int64) × (Nat → Nat)) :=
  if κ 10 7 = 0 then ((k_runL b n (k_run0 κ) τ).1, zup (k_leave (k_runL b n (k_run0 κ) τ).2.1 (-1)) 10 12 (k_runL b n (k_run0 κ) τ).1, (k_runL b n (k_run0 κ) τ).2.2) else (nI 0, zup (k_leave (k_run0 κ) (-1)) 10 12 (nI 0), τ)
theorem l_krun (d : Nat) (b : Int32) : ∀ (n : Nat) (κ : Nat → Nat → Int32) (τ : (Nat → Nat → Int64) × (Nat → Nat)) (i : Nat), i + n ≤ 1000000 → krOK b n κ τ → zX E (d + 7) mX2_run 30 [some (.ref 3), some (.int b), some (.int (-1)), some (.int (nI i))] [] (κ, α, τ) (fun r ν => r = some (.int (k_runL b n κ τ).1) ∧ ν = (zup (k_leave (k_runL b n κ τ).2.1 (-1)) 10 12 (k_runL b n κ τ).1, α, (k_runL b n κ τ).2.2)) := by
  intro n
  induction n with
  | zero => intro κ τ i hi h; exact h.elim
  | succ n ih =>
    intro κ τ i hi h
    obtain ⟨h1, h2, h3⟩ := h
    unfold k_runL
    refine x_iload_n (pc := 30) 3 dX2_run_30 rfl rfl ?_
    refine x_ldc (pc := 31) (1000000) dX2_run_31 (zt_of 792 (by decide +kernel) (by decide +kernel)) ?_
    refine x_icmp_ge_f (pc := 33) 53 dX2_run_33 (by decide) (nI_ge (b := 1000000) (by omega) (by omega)) ?_
    refine x_iload_n (pc := 36) 2 dX2_run_36 rfl rfl ?_
    refine x_iconst (pc := 37) (-1) dX2_run_37 (by decide) ?_
    refine x_icmp_ne_f (pc := 38) 53 dX2_run_38 (by decide) (rfl) ?_
    refine x_aload_n (pc := 41) 0 dX2_run_41 rfl rfl ?_
    refine x_iload_n (pc := 42) 1 dX2_run_42 rfl rfl ?_
    refine x_callV1i (pc := 43) dX2_run_43 lX2_48 (zat_b rfl rfl) rfl (s_step d b h1) (Nat.le_of_ble_eq_true rfl) (Or.inr (zfr_ok rfl)) ?_
    generalize hs : k_step κ τ b = s at h2 h3 ⊢
    obtain ⟨r, κ', τ'⟩ := s
    by_cases h4 : r = -1
    · rw [if_pos h4]
      subst h4
      refine x_istore_n (pc := 46) 2 dX2_run_46 rfl (by decide) rfl ?_
      refine x_iinc (pc := 47) (nI (i + 1)) dX2_run_47 rfl (zinc _) (by decide) rfl ?_
      refine x_goto (pc := 50) 30 dX2_run_50 (by decide) ?_
      exact ih κ' τ' (i + 1) (by omega) (h2 rfl)
    · rw [if_neg h4]
      obtain ⟨t, hQ⟩ := h3 h4
      have hi' : i + 1 ≤ 1000000 := by omega
      refine x_istore_n (pc := 46) 2 dX2_run_46 rfl (by decide) rfl ?_
      refine x_iinc (pc := 47) (nI (i + 1)) dX2_run_47 rfl (zinc _) (by decide) rfl ?_
      refine x_goto (pc := 50) 30 dX2_run_50 (by decide) ?_
      refine x_iload_n (pc := 30) 3 dX2_run_30 rfl rfl ?_
      refine x_ldc (pc := 31) (1000000) dX2_run_31 (zt_of 792 (by decide +kernel) (by decide +kernel)) ?_
      by_cases h5 : i + 1 < 1000000
      ·
        refine x_icmp_ge_f (pc := 33) 53 dX2_run_33 (by decide) (nI_ge (b := 1000000) h5 (by omega)) ?_
        refine x_iload_n (pc := 36) 2 dX2_run_36 rfl rfl ?_
        refine x_iconst (pc := 37) (-1) dX2_run_37 (by decide) ?_
        refine x_icmp_ne_t (pc := 38) 53 dX2_run_38 (by decide) (h4) ?_
        refine x_aload_n (pc := 53) 0 dX2_run_53 rfl rfl ?_
        refine x_iconst (pc := 54) (-1) dX2_run_54 (by decide) ?_
        refine x_callV1v (pc := 55) dX2_run_55 lX2_52 (zat_b rfl rfl) rfl (s_leave (d + 4) (-1) hQ) (Nat.le_of_ble_eq_true rfl) (Or.inl zgr) ?_
        refine x_aload_n (pc := 58) 0 dX2_run_58 rfl rfl ?_
        refine x_getr (pc := 59) (10) dX2_run_59 fX2_30 (zat_b rfl rfl) rfl ?_
        refine x_iload_n (pc := 62) 2 dX2_run_62 rfl rfl ?_
        refine x_puti_l (pc := 63) dX2_run_63 pX2_55 (zat_b rfl rfl) rfl rfl ?_
        refine x_iload_n (pc := 66) 2 dX2_run_66 rfl rfl ?_
        refine x_iret (pc := 67) dX2_run_67 rfl ?_
        exact ⟨rfl, rfl⟩
      ·
        refine x_icmp_ge_t (pc := 33) 53 dX2_run_33 (by decide) (nI_le (a := 1000000) (by omega) (by omega)) ?_
        refine x_aload_n (pc := 53) 0 dX2_run_53 rfl rfl ?_
        refine x_iconst (pc := 54) (-1) dX2_run_54 (by decide) ?_
        refine x_callV1v (pc := 55) dX2_run_55 lX2_52 (zat_b rfl rfl) rfl (s_leave (d + 4) (-1) hQ) (Nat.le_of_ble_eq_true rfl) (Or.inl zgr) ?_
        refine x_aload_n (pc := 58) 0 dX2_run_58 rfl rfl ?_
        refine x_getr (pc := 59) (10) dX2_run_59 fX2_30 (zat_b rfl rfl) rfl ?_
        refine x_iload_n (pc := 62) 2 dX2_run_62 rfl rfl ?_
        refine x_puti_l (pc := 63) dX2_run_63 pX2_55 (zat_b rfl rfl) rfl rfl ?_
        refine x_iload_n (pc := 66) 2 dX2_run_66 rfl rfl ?_
        refine x_iret (pc := 67) dX2_run_67 rfl ?_
        exact ⟨rfl, rfl⟩
theorem s_run (d : Nat) (b : Int32) {n : Nat} (hn : n ≤ 1000000) (h : κ 10 7 = 0 → krOK b n (k_run0 κ) τ) : zTr E (d + 7) mX2_run [.ref 3, .int b] (κ, α, τ) (some (.int (k_run n κ τ b).1)) ((k_run n κ τ b).2.1, α, (k_run n κ τ b).2.2) := by
  refine zM.tr (zM_of [some (.ref 3), some (.int b), none, none] (by decide) rfl (Nat.le_of_ble_eq_true rfl) ?_)
  have e7 : k_emt κ 10 7 = κ 10 7 := by unfold k_emt; rw [zup_p (by decide), zup_p (by decide), zup_p (by decide), zup_p (by decide), zup_p (by decide), zup_p (by decide), zup_p (by decide)]
  refine x_aload_n (pc := 0) 0 dX2_run_0 rfl rfl ?_
  refine x_callV0v (pc := 1) dX2_run_1 lX2_34 (zat_b rfl rfl) rfl (s_startEmpty (d + 5)) (Nat.le_of_ble_eq_true rfl) (Or.inl zgr) ?_
  refine x_aload_n (pc := 4) 0 dX2_run_4 rfl rfl ?_
  refine x_getr (pc := 5) (10) dX2_run_5 fX2_30 (zat_b rfl rfl) rfl ?_
  refine x_geti_l (pc := 8) dX2_run_8 fX2_37 (zat_b rfl rfl) rfl rfl ?_
  rw [e7]
  unfold k_run
  by_cases h0 : κ 10 7 = 0
  · rw [if_pos h0]
    refine x_if_eq_t (pc := 11) 18 dX2_run_11 (by decide) (h0) ?_
    refine x_iconst (pc := 18) (-1) dX2_run_18 (by decide) ?_
    refine x_istore_n (pc := 19) 2 dX2_run_19 rfl (by decide) rfl ?_
    refine x_aload_n (pc := 20) 0 dX2_run_20 rfl rfl ?_
    refine x_getr (pc := 21) (10) dX2_run_21 fX2_30 (zat_b rfl rfl) rfl ?_
    refine x_iconst (pc := 24) (nI 0) dX2_run_24 (by decide) ?_
    refine x_puti_l (pc := 25) dX2_run_25 pX2_43 (zat_b rfl rfl) rfl rfl ?_
    refine x_iconst (pc := 28) (nI 0) dX2_run_28 (by decide) ?_
    refine x_istore_n (pc := 29) 3 dX2_run_29 rfl (by decide) rfl ?_
    exact l_krun d b n (k_run0 κ) τ 0 (by omega) (h h0)
  · rw [if_neg h0]
    have hQ : kQ (k_run0 κ) 0 := ⟨by unfold k_run0 k_emt; rw [zup_p (by decide), zup_i (by decide), zup_i (by decide), zup_i (by decide), zup_i (by decide), zup_i (by decide), zup_i (by decide), zup_same], by decide, fun i hi => by omega⟩
    refine x_if_eq_f (pc := 11) 18 dX2_run_11 (by decide) (h0) ?_
    refine x_iconst (pc := 14) (nI 0) dX2_run_14 (by decide) ?_
    refine x_goto (pc := 15) 19 dX2_run_15 (by decide) ?_
    refine x_istore_n (pc := 19) 2 dX2_run_19 rfl (by decide) rfl ?_
    refine x_aload_n (pc := 20) 0 dX2_run_20 rfl rfl ?_
    refine x_getr (pc := 21) (10) dX2_run_21 fX2_30 (zat_b rfl rfl) rfl ?_
    refine x_iconst (pc := 24) (nI 0) dX2_run_24 (by decide) ?_
    refine x_puti_l (pc := 25) dX2_run_25 pX2_43 (zat_b rfl rfl) rfl rfl ?_
    refine x_iconst (pc := 28) (nI 0) dX2_run_28 (by decide) ?_
    refine x_istore_n (pc := 29) 3 dX2_run_29 rfl (by decide) rfl ?_
    refine x_iload_n (pc := 30) 3 dX2_run_30 rfl rfl ?_
    refine x_ldc (pc := 31) (1000000) dX2_run_31 (zt_of 792 (by decide +kernel) (by decide +kernel)) ?_
    refine x_icmp_ge_f (pc := 33) 53 dX2_run_33 (by decide) (by decide) ?_
    refine x_iload_n (pc := 36) 2 dX2_run_36 rfl rfl ?_
    refine x_iconst (pc := 37) (-1) dX2_run_37 (by decide) ?_
    refine x_icmp_ne_t (pc := 38) 53 dX2_run_38 (by decide) (by decide) ?_
    refine x_aload_n (pc := 53) 0 dX2_run_53 rfl rfl ?_
    refine x_iconst (pc := 54) (-1) dX2_run_54 (by decide) ?_
    refine x_callV1v (pc := 55) dX2_run_55 lX2_52 (zat_b rfl rfl) rfl (s_leave (d + 4) (-1) hQ) (Nat.le_of_ble_eq_true rfl) (Or.inl zgr) ?_
    refine x_aload_n (pc := 58) 0 dX2_run_58 rfl rfl ?_
    refine x_getr (pc := 59) (10) dX2_run_59 fX2_30 (zat_b rfl rfl) rfl ?_
    refine x_iload_n (pc := 62) 2 dX2_run_62 rfl rfl ?_
    refine x_puti_l (pc := 63) dX2_run_63 pX2_55 (zat_b rfl rfl) rfl rfl ?_
    refine x_iload_n (pc := 66) 2 dX2_run_66 rfl rfl ?_
    refine x_iret (pc := 67) dX2_run_67 rfl ?_
    exact ⟨rfl, rfl⟩
/-- what b) alone draws -/
def k_daL : Nat → (Nat → Nat → Int32) → (Nat → Nat → Int32)
  | 0, κ => k_look κ
  | n + 1, κ => match k_drawn κ with
    | none => k_look κ
    | some c => k_daL n (k_sput (k_look κ) (k_olit κ c) (nI c))
def kdOK : Nat → (Nat → Nat → Int32) → Prop
  | 0, κ => κ 11 5 = nI (kN κ) ∧ kN κ ≤ 400
  | n + 1, κ => (κ 11 5 = nI (kN κ) ∧ kN κ ≤ 400) ∧ ∀ c, k_drawn κ = some c → (lok 30 (k_olit κ c) ∧ ∃ t, t < 30 ∧ κ 3 2 = nI t) ∧ kdOK n (k_sput (k_look κ) (k_olit κ c) (nI c))
theorem kdOK.n {n : Nat} {κ : Nat → Nat → Int32} (h : kdOK n κ) : κ 11 5 = nI (kN κ) ∧ kN κ ≤ 400 := by
  cases n with
  | zero => exact h
  | succ n => exact h.1
theorem l_drawAll (d : Nat) : ∀ (n : Nat) (κ : Nat → Nat → Int32), n ≤ 30 → kdOK n κ → zX E (d + 3) mX2_drawAll 10 [some (.ref 3), some (.int (nI (30 - n)))] [] (k_look κ, α, τ) (fun r ν => r = some (.int (zbo (decide (¬ k_daL n κ 3 9 = -1)))) ∧ ν = (k_daL n κ, α, τ)) := by
  intro n
  have fin : ∀ K : Nat → Nat → Int32, ∀ x1, zX E (d + 3) mX2_drawAll 50 [some (.ref 3), x1] [] (K, α, τ) (fun r ν => r = some (.int (zbo (decide (¬ K 3 9 = -1)))) ∧ ν = (K, α, τ)) := by
    intro K x1
    by_cases h : K 3 9 = -1
    · rw [decide_eq_false (p := ¬ K 3 9 = -1) (by simpa using h)]
      refine x_aload_n (pc := 50) 0 dX2_drawAll_50 rfl rfl ?_
      refine x_geti_l (pc := 51) dX2_drawAll_51 fX2_71 (zat_b rfl rfl) rfl rfl ?_
      refine x_iconst (pc := 54) (-1) dX2_drawAll_54 (by decide) ?_
      refine x_icmp_eq_t (pc := 55) 62 dX2_drawAll_55 (by decide) (h) ?_
      refine x_iconst (pc := 62) (nI 0) dX2_drawAll_62 (by decide) ?_
      refine x_zret (pc := 63) dX2_drawAll_63 rfl (by decide) ?_
      exact ⟨rfl, rfl⟩
    · rw [decide_eq_true h]
      refine x_aload_n (pc := 50) 0 dX2_drawAll_50 rfl rfl ?_
      refine x_geti_l (pc := 51) dX2_drawAll_51 fX2_71 (zat_b rfl rfl) rfl rfl ?_
      refine x_iconst (pc := 54) (-1) dX2_drawAll_54 (by decide) ?_
      refine x_icmp_eq_f (pc := 55) 62 dX2_drawAll_55 (by decide) (h) ?_
      refine x_iconst (pc := 58) (nI 1) dX2_drawAll_58 (by decide) ?_
      refine x_goto (pc := 59) 63 dX2_drawAll_59 (by decide) ?_
      refine x_zret (pc := 63) dX2_drawAll_63 rfl (by decide) ?_
      exact ⟨rfl, rfl⟩
  induction n with
  | zero =>
    intro κ hn h
    refine x_iload_n (pc := 10) 1 dX2_drawAll_10 rfl rfl ?_
    refine x_bipush (pc := 11) (nI 30) dX2_drawAll_11 (by decide) ?_
    refine x_icmp_ge_t (pc := 13) 50 dX2_drawAll_13 (by decide) (by decide) ?_
    exact fin (k_look κ) _
  | succ n ih =>
    intro κ hn h
    have e10 : k_look κ 3 10 = zon (k_drawn κ) := k_lk_10
    have i6 : k_look κ 3 6 = κ 3 6 := k_look_i (by decide) (by decide)
    have i7 : k_look κ 3 7 = κ 3 7 := k_look_i (by decide) (by decide)
    have i2 : k_look κ 3 2 = κ 3 2 := k_look_i (by decide) (by decide)
    have h4 := h.1.2
    refine x_iload_n (pc := 10) 1 dX2_drawAll_10 rfl rfl ?_
    refine x_bipush (pc := 11) (nI 30) dX2_drawAll_11 (by decide) ?_
    refine x_icmp_ge_f (pc := 13) 50 dX2_drawAll_13 (by decide) (nI_ge (b := 30) (by omega) (by omega)) ?_
    refine x_aload_n (pc := 16) 0 dX2_drawAll_16 rfl rfl ?_
    refine x_geti_l (pc := 17) dX2_drawAll_17 fX2_61 (zat_b rfl rfl) rfl rfl ?_
    rw [e10]
    cases hd : k_drawn κ with
    | none =>
      have hs : k_daL (n + 1) κ = k_look κ := by unfold k_daL; rw [hd]
      rw [hs]
      refine x_iconst (pc := 20) (-1) dX2_drawAll_20 (by decide) ?_
      refine x_icmp_eq_t (pc := 21) 50 dX2_drawAll_21 (by decide) (rfl) ?_
      exact fin (k_look κ) _
    | some c =>
      have c4 := (zfind_some hd).2.1
      rw [hd] at e10
      obtain ⟨⟨hl, t', t30, ht⟩, hK⟩ := h.2 c hd
      have hs : k_daL (n + 1) κ = k_daL n (k_sput (k_look κ) (k_olit κ c) (nI c)) := by show (match k_drawn κ with | none => k_look κ | some c => k_daL n (k_sput (k_look κ) (k_olit κ c) (nI c))) = _; rw [hd]
      rw [hs]
      refine x_iconst (pc := 20) (-1) dX2_drawAll_20 (by decide) ?_
      refine x_icmp_eq_f (pc := 21) 50 dX2_drawAll_21 (by decide) (nI_nem1 (by omega)) ?_
      refine x_aload_n (pc := 24) 0 dX2_drawAll_24 rfl rfl ?_
      refine x_aload_n (pc := 25) 0 dX2_drawAll_25 rfl rfl ?_
      refine x_aload_n (pc := 26) 0 dX2_drawAll_26 rfl rfl ?_
      refine x_geti_l (pc := 27) dX2_drawAll_27 fX2_61 (zat_b rfl rfl) rfl rfl ?_
      rw [e10]
      refine x_callV1i (pc := 30) dX2_drawAll_30 lX2_64 (zat_b rfl rfl) rfl (s_openLiteralOf (c := c) d (by omega)) (Nat.le_of_ble_eq_true rfl) (Or.inl zgr) ?_
      refine x_aload_n (pc := 33) 0 dX2_drawAll_33 rfl rfl ?_
      refine x_geti_l (pc := 34) dX2_drawAll_34 fX2_61 (zat_b rfl rfl) rfl rfl ?_
      rw [e10, k_olit_of (κ := κ) (k_look_p (by decide)) (k_look_p (by decide)) i6 i7]
      refine x_callV2v (pc := 37) dX2_drawAll_37 lX2_67 (zat_b rfl rfl) rfl (s_sput d (zon (some c)) hl (t := t') (by rw [i2]; exact ht) t30) (Nat.le_of_ble_eq_true rfl) (Or.inl zgr) ?_
      refine x_aload_n (pc := 40) 0 dX2_drawAll_40 rfl rfl ?_
      refine x_callV0v (pc := 41) dX2_drawAll_41 lX2_58 (zat_b rfl rfl) rfl (s_look (d + 1) hK.n.1 hK.n.2) (Nat.le_of_ble_eq_true rfl) (Or.inl zgr) ?_
      refine x_iinc (pc := 44) (nI (30 - n)) dX2_drawAll_44 rfl (by rw [zinc, show 30 - (n + 1) + 1 = 30 - n by omega]) (by decide) rfl ?_
      refine x_goto (pc := 47) 10 dX2_drawAll_47 (by decide) ?_
      exact ih _ (by omega) hK
theorem s_drawAll (d : Nat) (h : kdOK 30 (k_emt κ)) : zTr E (d + 3) mX2_drawAll [.ref 3] (κ, α, τ) (some (.int (zbo (decide (¬ k_daL 30 (k_emt κ) 3 9 = -1))))) (k_daL 30 (k_emt κ), α, τ) := by
  refine zM.tr (zM_of [some (.ref 3), none] (by decide) rfl (Nat.le_of_ble_eq_true rfl) ?_)
  refine x_aload_n (pc := 0) 0 dX2_drawAll_0 rfl rfl ?_
  refine x_callV0v (pc := 1) dX2_drawAll_1 lX2_34 (zat_b rfl rfl) rfl (s_startEmpty (d + 1)) (Nat.le_of_ble_eq_true rfl) (Or.inl zgr) ?_
  refine x_aload_n (pc := 4) 0 dX2_drawAll_4 rfl rfl ?_
  refine x_callV0v (pc := 5) dX2_drawAll_5 lX2_58 (zat_b rfl rfl) rfl (s_look (d + 1) h.n.1 h.n.2) (Nat.le_of_ble_eq_true rfl) (Or.inl zgr) ?_
  refine x_iconst (pc := 8) (nI 0) dX2_drawAll_8 (by decide) ?_
  refine x_istore_n (pc := 9) 1 dX2_drawAll_9 rfl (by decide) rfl ?_
  exact l_drawAll d 30 (k_emt κ) (Nat.le_refl _) h
end C11
