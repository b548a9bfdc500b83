/-! the class's search: conflicts, steps, runs -/
def k_mc1 (κ : Nat → Nat → Int32) : Nat → Nat → Int32 := zup (zup (zup κ 3 11 (κ 3 11 + nI 1)) 3 12 (κ 3 12 + nI 1)) 10 8 (κ 10 8 + nI 1)
def k_mc2 (κ : Nat → Nat → Int32) : Nat → Nat → Int32 := k_order (k_resolve (k_mc1 κ))
def k_mc3 (κ : Nat → Nat → Int32) : Nat → Nat → Int32 := k_raise (k_mc2 κ)
def k_mc4 (κ : Nat → Nat → Int32) (τ : (Nat → Nat → Int64) × (Nat → Nat)) : Nat → Nat → Int32 := k_anew (k_leap (k_mc3 κ) τ)
/-- what a conflict's steps rest on -/
def kmOK (κ : Nat → Nat → Int32) (τ : (Nat → Nat → Int64) × (Nat → Nat)) : Prop :=
  (∃ c, c < 400 ∧ κ 3 9 = nI c) ∧ kRv (k_resolve (k_mc1 κ)) ∧ (∃ n, 1 ≤ n ∧ n ≤ 30 ∧ k_mc3 κ 73 1 = nI n ∧ ∀ i, i < n → lok 30 (k_mc3 κ 74 i)) ∧ (∃ t1, t1 < 30 ∧ k_leave (k_mc3 κ) (k_leapT (k_mc3 κ)) 3 2 = nI t1) ∧ ∃ t2, kQ (k_leap (k_mc3 κ) τ) t2
def k_meet (κ : Nat → Nat → Int32) (τ : (Nat → Nat → Int64) × (Nat → Nat)) (b : Int32) : Int32 × (Nat → Nat → Int32) × ((Nat → Nat → Int64) × (Nat → Nat)) :=
  if κ 3 8 = 0 then (nI 0, zup κ 10 7 (nI 1), τ) else if 400 ≤ kN κ then (nI 3, κ, τ)
  else (if k_mc4 κ τ 3 11 < b then -1 else nI 2, k_mc4 κ τ, k_rmT τ (k_leapE (k_mc3 κ)))
/-- the fixed part of what the search rests on -/
def kB (κ : Nat → Nat → Int32) (τ : (Nat → Nat → Int64) × (Nat → Nat)) : Prop := kW κ τ ∧ (κ 10 4 = nI (kV κ) ∧ kV κ ≤ 30) ∧ (∃ t, kQ κ t ∧ kR κ t) ∧ (∃ n, n ≤ 30 ∧ κ 3 8 = nI n) ∧ ∃ a, a ≤ 300 ∧ κ 3 13 = nI a
section C10
variable {E : zEnv} {κ α : Nat → Nat → Int32} {τ : (Nat → Nat → Int64) × (Nat → Nat)}
theorem k_mc1_p {p : Nat} (h : p ≠ 3) (h2 : p ≠ 10) : k_mc1 κ p = κ p := by funext j; unfold k_mc1; rw [zup_p h2, zup_p h, zup_p h]
theorem k_mc1_i {p j : Nat} (h : j ≠ 8 ∨ p ≠ 10) (h1 : j ≠ 11) (h2 : j ≠ 12) : k_mc1 κ p j = κ p j := by
  unfold k_mc1
  rw [show ∀ f : Nat → Nat → Int32, zup f 10 8 (κ 10 8 + nI 1) p j = f p j from fun f => h.elim (fun h => zup_i h) (fun h => zup_p h), zup_i h2, zup_i h1]
theorem k_resolve_p {p : Nat} (h : p ≠ 3) : k_resolve κ p = κ p := by funext j; unfold k_resolve; rw [k_ls_p h, zup_p h]
theorem k_resolve_i {p j : Nat} (h1 : j ≠ 14) (h2 : j ≠ 15) (h3 : j ≠ 16) : k_resolve κ p j = κ p j := by unfold k_resolve; rw [k_ls_i h2 h3, zup_i h1]
theorem k_otL_of : ∀ n (a : Nat → Nat → Int32), kOf κ a → (∃ t, t ≤ 30 ∧ a 73 1 = nI t) → kOf κ (k_otL κ n a) ∧ ∃ t, t ≤ 30 ∧ k_otL κ n a 73 1 = nI t
  | 0, a, h1, h2 => ⟨h1, h2⟩
  | n + 1, a, h1, h2 => by
    obtain ⟨i1, i2⟩ := k_otI (l := nI (n + 1)) (kV κ) 1 a h1 h2
    exact k_otL_of n _ i1 i2
theorem k_order_of : kOf κ (k_order κ) ∧ ∃ t, t ≤ 30 ∧ k_order κ 73 1 = nI t := k_otL_of _ _ (fun p h1 h2 => k_emp_at h1) ⟨0, by omega, by unfold k_emp; rw [zup_i (by decide), zup_same]⟩
theorem k_scL_p {p : Nat} (h : p ≠ 21) : ∀ m v (a : Nat → Nat → Int32), zit (k_scF κ) v m a p = a p := by
  intro m
  induction m with
  | zero => intro v a; rfl
  | succ m ih =>
    intro v a
    show zit (k_scF κ) (v + 1) m (k_scF κ v a) p = a p
    rw [ih]
    funext j
    unfold k_scF
    rw [zup_p h]
theorem k_raise_p {p : Nat} (h : p ≠ 21) : k_raise κ p = κ p := k_scL_p h _ _ _
theorem k_mc3_p {p : Nat} (h1 : p ≠ 3) (h2 : p ≠ 10) (h3 : p ≠ 21) (h4 : p ≠ 73) (h5 : p ≠ 74) : k_mc3 κ p = κ p := by
  unfold k_mc3 k_mc2
  rw [k_raise_p h3, k_order_of.1 p h4 h5, k_resolve_p h1, k_mc1_p h1 h2]
theorem k_mc3_i {p j : Nat} (hp : p = 3 ∨ p = 10) (h : j ≠ 8 ∨ p ≠ 10) (h1 : j ≠ 11) (h2 : j ≠ 12) (h3 : j ≠ 14) (h4 : j ≠ 15) (h5 : j ≠ 16) : k_mc3 κ p j = κ p j := by
  unfold k_mc3 k_mc2
  rw [k_raise_p (by omega), k_order_of.1 p (by omega) (by omega), k_resolve_i h3 h4 h5, k_mc1_i h h1 h2]
theorem k_lv_3 {b : Int32} {j : Nat} (h1 : j ≠ 2) (h2 : j ≠ 6) (h3 : j ≠ 7) (h4 : j ≠ 8) : k_leave κ b 3 j = κ 3 j := k_lv_at (Or.inl (by decide)) (Or.inr ⟨h2, h3, h1⟩) (Or.inr h4)
theorem k_app_p {n t p : Nat} {b : Bool} (h1 : p ≠ 16) (h2 : p ≠ 12) (h3 : p ≠ 13) (h4 : p ≠ 14) (h5 : p ≠ 11) (h6 : p ≠ 15) : k_app κ 73 n t b p = κ p := by
  funext j
  unfold k_app k_apE
  rw [zup_p h6, zup_p h5, zup_p h5, zup_p h4, k_apL_at h1 h2 h3, zup_p h3, zup_p h2]
theorem k_sput_3 {l w : Int32} {j : Nat} (h1 : j ≠ 2) (h2 : j ≠ 6) (h3 : j ≠ 7) : k_sput κ l w 3 j = κ 3 j := by
  unfold k_sput k_sput0
  split
  · rw [zup_i h2, zup_p (by decide), zup_p (by decide), zup_i h1, zup_p (by decide)]
  · rw [zup_i h3, zup_p (by decide), zup_p (by decide), zup_i h1, zup_p (by decide)]
theorem k_sput_p {l w : Int32} {p : Nat} (h1 : p ≠ 3) (h2 : p ≠ 70) (h3 : p ≠ 71) (h4 : p ≠ 72) : k_sput κ l w p = κ p := by
  funext j
  unfold k_sput k_sput0
  split
  · rw [zup_p h1, zup_p h4, zup_p h3, zup_p h1, zup_p h2]
  · rw [zup_p h1, zup_p h4, zup_p h3, zup_p h1, zup_p h2]
theorem k_leap_3 {j : Nat} (h1 : j ≠ 2) (h2 : j ≠ 6) (h3 : j ≠ 7) (h4 : j ≠ 8) : k_leap κ τ 3 j = κ 3 j := by
  unfold k_leap k_leapA
  rw [k_sput_3 h1 h2 h3, k_app_p (by decide) (by decide) (by decide) (by decide) (by decide) (by decide), k_rmK_at (by decide), k_lv_3 h1 h2 h3 h4]
theorem s_meet (d : Nat) (b : Int32) (hB : kB κ τ) (hm : ¬ κ 3 8 = 0 → kN κ < 400 → kmOK κ τ) : zTr E (d + 5) mX2_meetConflict [.ref 3, .int b] (κ, α, τ) (some (.int (k_meet κ τ b).1)) ((k_meet κ τ b).2.1, α, (k_meet κ τ b).2.2) := by
  obtain ⟨hW, ⟨hV, hV30⟩, ⟨t, hQ, hR⟩, ⟨n, hn30, hn⟩, ⟨a, ha3, ha⟩⟩ := hB
  refine zM.tr (zM_of [some (.ref 3), some (.int b)] (by decide) rfl (Nat.le_of_ble_eq_true rfl) ?_)
  unfold k_meet
  by_cases h1 : κ 3 8 = 0
  · rw [if_pos h1]
    refine x_aload_n (pc := 0) 0 dX2_meetConflict_0 rfl rfl ?_
    refine x_geti_l (pc := 1) dX2_meetConflict_1 fX2_83 (zat_b rfl rfl) rfl rfl ?_
    refine x_if_ne_f (pc := 4) 17 dX2_meetConflict_4 (by decide) (h1) ?_
    refine x_aload_n (pc := 7) 0 dX2_meetConflict_7 rfl rfl ?_
    refine x_getr (pc := 8) (10) dX2_meetConflict_8 fX2_30 (zat_b rfl rfl) rfl ?_
    refine x_iconst (pc := 11) (nI 1) dX2_meetConflict_11 (by decide) ?_
    refine x_put0_l (pc := 12) dX2_meetConflict_12 pX2_37 (zat_b rfl rfl) rfl rfl (by decide) (by decide) ?_
    refine x_iconst (pc := 15) (nI 0) dX2_meetConflict_15 (by decide) ?_
    refine x_iret (pc := 16) dX2_meetConflict_16 rfl ?_
    exact ⟨rfl, rfl⟩
  · rw [if_neg h1]
    refine x_aload_n (pc := 0) 0 dX2_meetConflict_0 rfl rfl ?_
    refine x_geti_l (pc := 1) dX2_meetConflict_1 fX2_83 (zat_b rfl rfl) rfl rfl ?_
    refine x_if_ne_t (pc := 4) 17 dX2_meetConflict_4 (by decide) (h1) ?_
    refine x_aload_n (pc := 17) 0 dX2_meetConflict_17 rfl rfl ?_
    refine x_getr (pc := 18) (10) dX2_meetConflict_18 fX2_30 (zat_b rfl rfl) rfl ?_
    refine x_getr (pc := 21) (11) dX2_meetConflict_21 fX2_120 (zat_b rfl rfl) rfl ?_
    refine x_callV0i (pc := 24) dX2_meetConflict_24 lX2_187 (zat_b rfl rfl) rfl (s_storeFull (d + 3) hW.n hW.n400) (Nat.le_of_ble_eq_true rfl) (Or.inl zgr) ?_
    by_cases h2 : 400 ≤ kN κ
    · rw [if_pos h2, decide_eq_true h2]
      refine x_if_eq_f (pc := 27) 32 dX2_meetConflict_27 (by decide) (by decide) ?_
      refine x_iconst (pc := 30) (nI 3) dX2_meetConflict_30 (by decide) ?_
      refine x_iret (pc := 31) dX2_meetConflict_31 rfl ?_
      exact ⟨rfl, rfl⟩
    · rw [if_neg h2, decide_eq_false h2]
      obtain ⟨⟨c, c4, hc⟩, hRv, ⟨m, m1, m30, hm1, hml⟩, ⟨t1, t30, ht1⟩, ⟨t2, hQ2⟩⟩ := hm h1 (by omega)
      refine x_if_eq_t (pc := 27) 32 dX2_meetConflict_27 (by decide) (rfl) ?_
      refine x_aload_n (pc := 32) 0 dX2_meetConflict_32 rfl rfl ?_
      refine x_dup (pc := 33) dX2_meetConflict_33 rfl ?_
      refine x_geti_l (pc := 34) dX2_meetConflict_34 fX2_86 (zat_b rfl rfl) rfl rfl ?_
      refine x_iconst (pc := 37) (nI 1) dX2_meetConflict_37 (by decide) ?_
      refine x_iadd (pc := 38) dX2_meetConflict_38 ?_
      refine x_puti_l (pc := 39) dX2_meetConflict_39 pX2_86 (zat_b rfl rfl) rfl rfl ?_
      refine x_aload_n (pc := 42) 0 dX2_meetConflict_42 rfl rfl ?_
      refine x_dup (pc := 43) dX2_meetConflict_43 rfl ?_
      refine x_geti_l (pc := 44) dX2_meetConflict_44 fX2_89 (zat_b rfl rfl) rfl rfl ?_
      rw [zup_i (by decide)]
      refine x_iconst (pc := 47) (nI 1) dX2_meetConflict_47 (by decide) ?_
      refine x_iadd (pc := 48) dX2_meetConflict_48 ?_
      refine x_puti_l (pc := 49) dX2_meetConflict_49 pX2_89 (zat_b rfl rfl) rfl rfl ?_
      refine x_aload_n (pc := 52) 0 dX2_meetConflict_52 rfl rfl ?_
      refine x_getr (pc := 53) (10) dX2_meetConflict_53 fX2_30 (zat_b rfl rfl) rfl ?_
      refine x_dup (pc := 56) dX2_meetConflict_56 rfl ?_
      refine x_geti_l (pc := 57) dX2_meetConflict_57 fX2_191 (zat_b rfl rfl) rfl rfl ?_
      rw [zup_p (by decide), zup_p (by decide)]
      refine x_iconst (pc := 60) (nI 1) dX2_meetConflict_60 (by decide) ?_
      refine x_iadd (pc := 61) dX2_meetConflict_61 ?_
      refine x_puti_l (pc := 62) dX2_meetConflict_62 pX2_191 (zat_b rfl rfl) rfl rfl ?_
      refine x_aload_n (pc := 65) 0 dX2_meetConflict_65 rfl rfl ?_
      show zX E (d + 5) mX2_meetConflict _ _ _ (k_mc1 κ, α, τ) _
      have q1 : kQ (k_mc1 κ) t := hQ.of (k_mc1_i (Or.inr (by decide)) (by decide) (by decide)) (k_mc1_p (by decide) (by decide))
      have r1 : kR (k_mc1 κ) t := by unfold kR; rw [k_mc1_p (p := 72) (by decide) (by decide), k_mc1_p (p := 70) (by decide) (by decide)]; exact hR
      have v2 : kV (k_resolve (k_mc1 κ)) = kV κ := by unfold kV; rw [k_resolve_p (by decide), k_mc1_i (Or.inl (by decide)) (by decide) (by decide)]
      have e104 : k_resolve (k_mc1 κ) 10 4 = nI (kV κ) := by rw [k_resolve_p (by decide), k_mc1_i (Or.inl (by decide)) (by decide) (by decide)]; exact hV
      have v3 : kV (k_mc2 κ) = kV κ := by unfold kV k_mc2; rw [k_order_of.1 10 (by decide) (by decide), e104, nI_clamp (by omega)]; rfl
      have e104' : k_mc2 κ 10 4 = nI (kV κ) := by unfold k_mc2; rw [k_order_of.1 10 (by decide) (by decide)]; exact e104
      refine x_callV0v (pc := 66) dX2_meetConflict_66 lX2_194 (zat_b rfl rfl) rfl (s_resolve (d + 1) q1 r1 (by rw [k_mc1_i (Or.inr (by decide)) (by decide) (by decide)]; exact hc) c4) (Nat.le_of_ble_eq_true rfl) (Or.inl zgr) ?_
      refine x_aload_n (pc := 69) 0 dX2_meetConflict_69 rfl rfl ?_
      refine x_callV0v (pc := 70) dX2_meetConflict_70 lX2_197 (zat_b rfl rfl) rfl (s_order (d + 1) (by rw [v2]; exact e104) (by rw [v2]; exact hV30) hRv hn30 (by rw [k_resolve_i (by decide) (by decide) (by decide), k_mc1_i (Or.inr (by decide)) (by decide) (by decide)]; exact hn)) (Nat.le_of_ble_eq_true rfl) (Or.inl zgr) ?_
      refine x_aload_n (pc := 73) 0 dX2_meetConflict_73 rfl rfl ?_
      refine x_callV0v (pc := 74) dX2_meetConflict_74 lX2_200 (zat_b rfl rfl) rfl (s_raise (d + 2) (κ := k_mc2 κ) (by rw [v3]; exact e104') (by rw [v3]; exact hV30)) (Nat.le_of_ble_eq_true rfl) (Or.inl zgr) ?_
      refine x_aload_n (pc := 77) 0 dX2_meetConflict_77 rfl rfl ?_
      have q3 : kQ (k_mc3 κ) t := hQ.of (k_mc3_i (Or.inl rfl) (Or.inr (by decide)) (by decide) (by decide) (by decide) (by decide) (by decide)) (k_mc3_p (by decide) (by decide) (by decide) (by decide) (by decide))
      have w3 : kW (k_mc3 κ) τ := hW.of (k_mc3_p (by decide) (by decide) (by decide) (by decide) (by decide)) (k_mc3_p (by decide) (by decide) (by decide) (by decide) (by decide))
      have n3 : kN (k_mc3 κ) = kN κ := by unfold kN; rw [k_mc3_p (by decide) (by decide) (by decide) (by decide) (by decide)]
      refine x_callV0v (pc := 78) dX2_meetConflict_78 lX2_203 (zat_b rfl rfl) rfl (s_leap (κ := k_mc3 κ) d w3 (by rw [n3]; omega) q3 hm1 m1 m30 hml ht1 t30) (Nat.le_of_ble_eq_true rfl) (Or.inr (zfr_ok rfl)) ?_
      refine x_aload_n (pc := 81) 0 dX2_meetConflict_81 rfl rfl ?_
      have a4 : k_leap (k_mc3 κ) τ 3 13 = nI a := by rw [k_leap_3 (by decide) (by decide) (by decide) (by decide), k_mc3_i (Or.inl rfl) (Or.inr (by decide)) (by decide) (by decide) (by decide) (by decide) (by decide)]; exact ha
      refine x_callV0v (pc := 82) dX2_meetConflict_82 lX2_206 (zat_b rfl rfl) rfl (s_anew (d + 1) hQ2 a4 ha3) (Nat.le_of_ble_eq_true rfl) (Or.inl zgr) ?_
      refine x_aload_n (pc := 85) 0 dX2_meetConflict_85 rfl rfl ?_
      refine x_geti_l (pc := 86) dX2_meetConflict_86 fX2_86 (zat_b rfl rfl) rfl rfl ?_
      have e : k_anew (k_leap (k_mc3 κ) τ) = k_mc4 κ τ := rfl
      rw [e]
      clear e a4 w3 q3 n3 e104' v3 e104 v2 q1 r1 hRv hm1 hml ht1 hQ2
      generalize k_mc4 κ τ = K
      generalize k_rmT τ (k_leapE (k_mc3 κ)) = T
      by_cases h5 : K 3 11 < b
      · rw [if_pos h5]
        refine x_iload_n (pc := 89) 1 dX2_meetConflict_89 rfl rfl ?_
        refine x_icmp_lt_t (pc := 90) 97 dX2_meetConflict_90 (by decide) (h5) ?_
        refine x_iconst (pc := 97) (-1) dX2_meetConflict_97 (by decide) ?_
        refine x_iret (pc := 98) dX2_meetConflict_98 rfl ?_
        exact ⟨rfl, rfl⟩
      · rw [if_neg h5]
        refine x_iload_n (pc := 89) 1 dX2_meetConflict_89 rfl rfl ?_
        refine x_icmp_lt_f (pc := 90) 97 dX2_meetConflict_90 (by decide) (h5) ?_
        refine x_iconst (pc := 93) (nI 2) dX2_meetConflict_93 (by decide) ?_
        refine x_goto (pc := 94) 98 dX2_meetConflict_94 (by decide) ?_
        refine x_iret (pc := 98) dX2_meetConflict_98 rfl ?_
        exact ⟨rfl, rfl⟩
end C10
