/-! the class's search: assumptions, core, decisions, resolving -/
def kV (κ : Nat → Nat → Int32) : Nat := (κ 10 4).toNatClampNeg
def kAL (κ : Nat → Nat → Int32) : Prop := κ 19 1 = nI (kA κ) ∧ kA κ ≤ 8 ∧ ∀ i, i < kA κ → lok 30 (κ 20 i)
def k_abit (κ : Nat → Nat → Int32) (v : Nat) : Int32 := match zfind (fun i => Nat.beq (zv (κ 20 i)) v) 0 (kA κ) with
  | some k => nI 1 <<< (nI k &&& 31)
  | none => nI 0
/-- reasons on the trail are clauses -/
def kR (κ : Nat → Nat → Int32) (t : Nat) : Prop := ∀ i, i < t → ¬ κ 72 (zv (κ 70 i)) = -1 → ∃ c, c < 400 ∧ κ 72 (zv (κ 70 i)) = nI c
def k_coF (κ : Nat → Nat → Int32) (n : Nat) (x : Int32 × Int32) : Int32 × Int32 :=
  if x.2 &&& kb (nI (zv (κ 70 n))) = 0 then x
  else if κ 72 (zv (κ 70 n)) = -1 then (if 0 < κ 71 (zv (κ 70 n)) then (x.1 ||| k_abit κ (zv (κ 70 n)), x.2) else x)
  else (x.1, x.2 ||| kM κ (κ 72 (zv (κ 70 n))).toNatClampNeg)
def k_coL (κ : Nat → Nat → Int32) : Nat → Int32 × Int32 → Int32 × Int32
  | 0, x => x
  | n + 1, x => k_coL κ n (k_coF κ n x)
def k_core (κ : Nat → Nat → Int32) (k : Nat) : Int32 := (k_coL κ (κ 3 2).toNatClampNeg (nI 1 <<< (nI k &&& 31), kb (κ 20 k))).1
def k_chF (κ : Nat → Nat → Int32) (v b : Nat) : Nat := if (κ 3 6 ||| κ 3 7) &&& kb (nI v) = 0 ∧ (b = 0 ∨ κ 21 b < κ 21 v) then v else b
def k_choice (κ : Nat → Nat → Int32) : Nat := zit (k_chF κ) 1 (kV κ) 0
def k_decide (κ : Nat → Nat → Int32) : Nat → Nat → Int32 := k_sput (zup (zup κ 3 8 (κ 3 8 + nI 1)) 10 9 (κ 10 9 + nI 1)) (if k_phaseOf κ (nI (k_choice κ)) = true then nI (k_choice κ) else -(nI (k_choice κ))) (-1)
def k_vfF (κ : Nat → Nat → Int32) (b : Int32) (i : Nat) (f : Int32) : Int32 := if b ≤ κ 71 (zv (κ 70 i)) then f ||| kb (nI (zv (κ 70 i))) else f
def k_vf (κ : Nat → Nat → Int32) (b : Int32) : Int32 := zit (k_vfF κ b) 0 (κ 3 2).toNatClampNeg (nI 0)
def k_reF (κ : Nat → Nat → Int32) (ab : Int32) (n : Nat) (x : Int32 × Int32) : Int32 × Int32 :=
  if x.1 &&& kb (nI (zv (κ 70 n))) = 0 ∨ κ 72 (zv (κ 70 n)) = -1 then x
  else (x.1 &&& (kb (nI (zv (κ 70 n))) ^^^ (-1)) ||| kM κ (κ 72 (zv (κ 70 n))).toNatClampNeg &&& ab &&& (kb (nI (zv (κ 70 n))) ^^^ (-1)), x.2 ||| kM κ (κ 72 (zv (κ 70 n))).toNatClampNeg &&& ab &&& (kb (nI (zv (κ 70 n))) ^^^ (-1)))
def k_reL (κ : Nat → Nat → Int32) (nw ab : Int32) : Nat → Int32 × Int32 → Int32 × Int32
  | 0, x => x
  | n + 1, x => if kbc (x.1 &&& nw) < nI 2 then x else k_reL κ nw ab n (k_reF κ ab n x)
def k_ls (κ : Nat → Nat → Int32) (x y : Int32) : Nat → Nat → Int32 := zup (zup κ 3 15 x) 3 16 y
theorem k_ls_p {κ : Nat → Nat → Int32} {x y : Int32} {p j : Nat} (h : p ≠ 3) : k_ls κ x y p j = κ p j := by unfold k_ls; rw [zup_p h, zup_p h]
theorem k_ls_i {κ : Nat → Nat → Int32} {x y : Int32} {p j : Nat} (h : j ≠ 15) (h2 : j ≠ 16) : k_ls κ x y p j = κ p j := by unfold k_ls; rw [zup_i h2, zup_i h]
theorem k_ls_15 {κ : Nat → Nat → Int32} {x y : Int32} : k_ls κ x y 3 15 = x := by unfold k_ls; rw [zup_i (by decide), zup_same]
theorem k_ls_16 {κ : Nat → Nat → Int32} {x y : Int32} : k_ls κ x y 3 16 = y := by unfold k_ls; rw [zup_same]
theorem k_ls_s15 {κ : Nat → Nat → Int32} {x y z : Int32} : zup (k_ls κ x y) 3 15 z = k_ls κ z y := by unfold k_ls; rw [zup_comm (Or.inr (by decide)), zup_zup]
theorem k_ls_s16 {κ : Nat → Nat → Int32} {x y z : Int32} : zup (k_ls κ x y) 3 16 z = k_ls κ x z := by unfold k_ls; rw [zup_zup]
def k_rs (κ : Nat → Nat → Int32) : Int32 × Int32 := k_reL κ (k_vf κ (κ 3 8)) (k_vf κ (nI 1)) (κ 3 2).toNatClampNeg (kM κ (κ 3 9).toNatClampNeg &&& k_vf κ (nI 1), kM κ (κ 3 9).toNatClampNeg &&& k_vf κ (nI 1))
def k_resolve (κ : Nat → Nat → Int32) : Nat → Nat → Int32 := k_ls (zup κ 3 14 (k_vf κ (nI 1))) (k_rs κ).1 (k_rs κ).2
section C7
variable {E : zEnv} {κ α : Nat → Nat → Int32} {τ : (Nat → Nat → Int64) × (Nat → Nat)}
theorem l_abit (d : Nat) {v : Nat} (hv : v ≤ 30) (hA : kAL κ) : ∀ m i, i + m = kA κ → zX E (d + 2) mX2_assumptionBitOf 2 [some (.ref 3), some (.int (nI v)), some (.int (nI i))] [] (κ, α, τ) (fun r ν => r = some (.int (match zfind (fun i => Nat.beq (zv (κ 20 i)) v) i m with | some k => nI 1 <<< (nI k &&& 31) | none => nI 0)) ∧ ν = (κ, α, τ)) := by
  obtain ⟨a1, a2, a3⟩ := hA
  intro m
  induction m with
  | zero =>
    intro i hi
    refine x_iload_n (pc := 2) 2 dX2_assumptionBitOf_2 rfl rfl ?_
    refine x_aload_n (pc := 3) 0 dX2_assumptionBitOf_3 rfl rfl ?_
    refine x_getr (pc := 4) (10) dX2_assumptionBitOf_4 fX2_30 (zat_b rfl rfl) rfl ?_
    refine x_getr (pc := 7) (19) dX2_assumptionBitOf_7 fX2_162 (zat_b rfl rfl) rfl ?_
    refine x_geti_l (pc := 10) dX2_assumptionBitOf_10 fX2_165 (zat_b rfl rfl) rfl rfl ?_
    rw [a1]
    refine x_icmp_ge_t (pc := 13) 45 dX2_assumptionBitOf_13 (by decide) (nI_le (by omega) (by omega)) ?_
    refine x_iconst (pc := 45) (nI 0) dX2_assumptionBitOf_45 (by decide) ?_
    refine x_iret (pc := 46) dX2_assumptionBitOf_46 rfl ?_
    exact ⟨rfl, rfl⟩
  | succ m ih =>
    intro i hi
    obtain ⟨g1, g2, g3, g4, g5⟩ := (a3 i (by omega)).is (by decide)
    refine x_iload_n (pc := 2) 2 dX2_assumptionBitOf_2 rfl rfl ?_
    refine x_aload_n (pc := 3) 0 dX2_assumptionBitOf_3 rfl rfl ?_
    refine x_getr (pc := 4) (10) dX2_assumptionBitOf_4 fX2_30 (zat_b rfl rfl) rfl ?_
    refine x_getr (pc := 7) (19) dX2_assumptionBitOf_7 fX2_162 (zat_b rfl rfl) rfl ?_
    refine x_geti_l (pc := 10) dX2_assumptionBitOf_10 fX2_165 (zat_b rfl rfl) rfl rfl ?_
    rw [a1]
    refine x_icmp_ge_f (pc := 13) 45 dX2_assumptionBitOf_13 (by decide) (nI_ge (by omega) (by omega)) ?_
    refine x_aload_n (pc := 16) 0 dX2_assumptionBitOf_16 rfl rfl ?_
    refine x_getr (pc := 17) (10) dX2_assumptionBitOf_17 fX2_30 (zat_b rfl rfl) rfl ?_
    refine x_getr (pc := 20) (19) dX2_assumptionBitOf_20 fX2_162 (zat_b rfl rfl) rfl ?_
    refine x_getr (pc := 23) (20) dX2_assumptionBitOf_23 fX2_168 (zat_b rfl rfl) rfl ?_
    refine x_iload_n (pc := 26) 2 dX2_assumptionBitOf_26 rfl rfl ?_
    have hj27 : i < 8 := by omega
    refine x_iald_l (pc := 27) (i) dX2_assumptionBitOf_27 (zar_b rfl rfl rfl) rfl (by first | rfl | simp only [pk_mul, nI_add] | simp only [zon, pk_mul, nI_add]) hj27 (Nat.lt_of_lt_of_le hj27 (by decide)) ?_
    refine x_callN1i (pc := 28) dX2_assumptionBitOf_28 lX2_147 (s_variableOf d _) (Nat.le_of_ble_eq_true rfl) (Or.inl zgr) ?_
    rw [g3]
    have step : zfind (fun i => Nat.beq (zv (κ 20 i)) v) i (m + 1) = bif Nat.beq (zv (κ 20 i)) v then some i else zfind (fun i => Nat.beq (zv (κ 20 i)) v) (i + 1) m := rfl
    rw [step]
    cases h : Nat.beq (zv (κ 20 i)) v with
    | true =>
      refine x_iload_n (pc := 31) 1 dX2_assumptionBitOf_31 rfl rfl ?_
      refine x_icmp_ne_f (pc := 32) 39 dX2_assumptionBitOf_32 (by decide) (by rw [Nat.eq_of_beq_eq_true h]) ?_
      refine x_iconst (pc := 35) (nI 1) dX2_assumptionBitOf_35 (by decide) ?_
      refine x_iload_n (pc := 36) 2 dX2_assumptionBitOf_36 rfl rfl ?_
      refine x_ishl (pc := 37) dX2_assumptionBitOf_37 ?_
      refine x_iret (pc := 38) dX2_assumptionBitOf_38 rfl ?_
      exact ⟨rfl, rfl⟩
    | false =>
      refine x_iload_n (pc := 31) 1 dX2_assumptionBitOf_31 rfl rfl ?_
      refine x_icmp_ne_t (pc := 32) 39 dX2_assumptionBitOf_32 (by decide) (fun q => by rw [(nI_eq (by omega) (by omega)).mp q, Nat.beq_refl] at h; cases h) ?_
      refine x_iinc (pc := 39) (nI (i + 1)) dX2_assumptionBitOf_39 rfl (zinc _) (by decide) rfl ?_
      refine x_goto (pc := 42) 2 dX2_assumptionBitOf_42 (by decide) ?_
      exact ih (i + 1) (by omega)
theorem s_abit (d : Nat) {v : Nat} (hv : v ≤ 30) (hA : kAL κ) : zTr E (d + 2) mX2_assumptionBitOf [.ref 3, .int (nI v)] (κ, α, τ) (some (.int (k_abit κ v))) (κ, α, τ) := by
  refine zM.tr (zM_of [some (.ref 3), some (.int (nI v)), none] (by decide) rfl (Nat.le_of_ble_eq_true rfl) ?_)
  refine x_iconst (pc := 0) (nI 0) dX2_assumptionBitOf_0 (by decide) ?_
  refine x_istore_n (pc := 1) 2 dX2_assumptionBitOf_1 rfl (by decide) rfl ?_
  exact l_abit d hv hA (kA κ) 0 (by omega)
theorem l_kcore (d : Nat) {k t : Nat} (hA : kAL κ) (hQ : kQ κ t) (hR : kR κ t) : ∀ n x, n ≤ t → zX E (d + 3) mX2_coreOf 28 [some (.ref 3), some (.int (nI k)), some (.int x.1), some (.int x.2), some (.int (nI n - nI 1)), none] [] (κ, α, τ) (fun r ν => r = some (.int (k_coL κ n x).1) ∧ ν = (κ, α, τ)) := by
  have ht30 := hQ.2.1
  intro n
  induction n with
  | zero =>
    intro x hn
    refine x_iload (pc := 28) dX2_coreOf_28 rfl ?_
    refine x_if_lt_t (pc := 30) 117 dX2_coreOf_30 (by decide) (by decide) ?_
    refine x_iload_n (pc := 117) 2 dX2_coreOf_117 rfl rfl ?_
    refine x_iret (pc := 118) dX2_coreOf_118 rfl ?_
    exact ⟨rfl, rfl⟩
  | succ n ih =>
    intro x hn
    obtain ⟨g1, g2, g3, g4, g5⟩ := (hQ.2.2 n (by omega)).is (by decide)
    rw [show nI (n + 1) - nI 1 = nI n by rw [pk_sub (by omega)]; rfl]
    have step : k_coL κ (n + 1) x = k_coL κ n (k_coF κ n x) := rfl
    rw [step]
    have fin : ∀ y, k_coF κ n x = y → zX E (d + 3) mX2_coreOf 111 [some (.ref 3), some (.int (nI k)), some (.int y.1), some (.int y.2), some (.int (nI n)), some (.int (nI (zv (κ 70 n))))] [] (κ, α, τ) (fun r ν => r = some (.int (k_coL κ n (k_coF κ n x)).1) ∧ ν = (κ, α, τ)) := by
      intro y hy
      rw [hy]
      refine x_iinc (pc := 111) (nI n - nI 1) dX2_coreOf_111 rfl (zdec1 _) (by decide) rfl ?_
      refine x_goto (pc := 114) 28 dX2_coreOf_114 (by decide) ?_
      exact zX.sub (zs1 (zs1 (zs1 (zs1 (zs1 (zsn zse)))))) (ih y (by omega))
    refine x_iload (pc := 28) dX2_coreOf_28 rfl ?_
    refine x_if_lt_f (pc := 30) 117 dX2_coreOf_30 (by decide) (nI_pos (by omega)) ?_
    refine x_aload_n (pc := 33) 0 dX2_coreOf_33 rfl rfl ?_
    refine x_getr (pc := 34) (70) dX2_coreOf_34 fX2_9 (zat_b rfl rfl) rfl ?_
    refine x_iload (pc := 37) dX2_coreOf_37 rfl ?_
    have hj39 : n < 30 := by omega
    refine x_iald_l (pc := 39) (n) dX2_coreOf_39 (zar_b rfl rfl rfl) rfl (by first | rfl | simp only [pk_mul, nI_add] | simp only [zon, pk_mul, nI_add]) hj39 (Nat.lt_of_lt_of_le hj39 (by decide)) ?_
    refine x_callN1i (pc := 40) dX2_coreOf_40 lX2_147 (s_variableOf (d + 1) _) (Nat.le_of_ble_eq_true rfl) (Or.inl zgr) ?_
    rw [g3]
    refine x_istore (pc := 43) dX2_coreOf_43 (by decide) rfl ?_
    refine x_iload_n (pc := 45) 3 dX2_coreOf_45 rfl rfl ?_
    refine x_iload (pc := 46) dX2_coreOf_46 rfl ?_
    refine x_callN1i (pc := 48) dX2_coreOf_48 lX2_150 (s_bitOf (d + 1) _) (Nat.le_of_ble_eq_true rfl) (Or.inl zgr) ?_
    refine x_iand (pc := 51) dX2_coreOf_51 ?_
    by_cases h1 : x.2 &&& kb (nI (zv (κ 70 n))) = 0
    ·
      refine x_if_ne_f (pc := 52) 58 dX2_coreOf_52 (by decide) (h1) ?_
      refine x_goto (pc := 55) 111 dX2_coreOf_55 (by decide) ?_
      exact fin x (by unfold k_coF; rw [if_pos h1])
    ·
      refine x_if_ne_t (pc := 52) 58 dX2_coreOf_52 (by decide) (h1) ?_
      refine x_aload_n (pc := 58) 0 dX2_coreOf_58 rfl rfl ?_
      refine x_getr (pc := 59) (72) dX2_coreOf_59 fX2_18 (zat_b rfl rfl) rfl ?_
      refine x_iload (pc := 62) dX2_coreOf_62 rfl ?_
      have hj64 : zv (κ 70 n) < 31 := by omega
      refine x_iald_l (pc := 64) (zv (κ 70 n)) dX2_coreOf_64 (zar_b rfl rfl rfl) rfl (by first | rfl | simp only [pk_mul, nI_add] | simp only [zon, pk_mul, nI_add]) hj64 (Nat.lt_of_lt_of_le hj64 (by decide)) ?_
      refine x_iconst (pc := 65) (-1) dX2_coreOf_65 (by decide) ?_
      by_cases h2 : κ 72 (zv (κ 70 n)) = -1
      · by_cases h3 : 0 < κ 71 (zv (κ 70 n))
        ·
          refine x_icmp_eq_t (pc := 66) 92 dX2_coreOf_66 (by decide) (h2) ?_
          refine x_aload_n (pc := 92) 0 dX2_coreOf_92 rfl rfl ?_
          refine x_getr (pc := 93) (71) dX2_coreOf_93 fX2_15 (zat_b rfl rfl) rfl ?_
          refine x_iload (pc := 96) dX2_coreOf_96 rfl ?_
          have hj98 : zv (κ 70 n) < 31 := by omega
          refine x_iald_l (pc := 98) (zv (κ 70 n)) dX2_coreOf_98 (zar_b rfl rfl rfl) rfl (by first | rfl | simp only [pk_mul, nI_add] | simp only [zon, pk_mul, nI_add]) hj98 (Nat.lt_of_lt_of_le hj98 (by decide)) ?_
          refine x_if_le_f (pc := 99) 111 dX2_coreOf_99 (by decide) (Int32.not_le.mpr h3) ?_
          refine x_iload_n (pc := 102) 2 dX2_coreOf_102 rfl rfl ?_
          refine x_aload_n (pc := 103) 0 dX2_coreOf_103 rfl rfl ?_
          refine x_iload (pc := 104) dX2_coreOf_104 rfl ?_
          refine x_callV1i (pc := 106) dX2_coreOf_106 lX2_174 (zat_b rfl rfl) rfl (s_abit d (by omega) hA) (Nat.le_of_ble_eq_true rfl) (Or.inl zgr) ?_
          refine x_ior (pc := 109) dX2_coreOf_109 ?_
          refine x_istore_n (pc := 110) 2 dX2_coreOf_110 rfl (by decide) rfl ?_
          exact fin (x.1 ||| k_abit κ (zv (κ 70 n)), x.2) (by unfold k_coF; rw [if_neg h1, if_pos h2, if_pos h3])
        ·
          refine x_icmp_eq_t (pc := 66) 92 dX2_coreOf_66 (by decide) (h2) ?_
          refine x_aload_n (pc := 92) 0 dX2_coreOf_92 rfl rfl ?_
          refine x_getr (pc := 93) (71) dX2_coreOf_93 fX2_15 (zat_b rfl rfl) rfl ?_
          refine x_iload (pc := 96) dX2_coreOf_96 rfl ?_
          have hj98 : zv (κ 70 n) < 31 := by omega
          refine x_iald_l (pc := 98) (zv (κ 70 n)) dX2_coreOf_98 (zar_b rfl rfl rfl) rfl (by first | rfl | simp only [pk_mul, nI_add] | simp only [zon, pk_mul, nI_add]) hj98 (Nat.lt_of_lt_of_le hj98 (by decide)) ?_
          refine x_if_le_t (pc := 99) 111 dX2_coreOf_99 (by decide) (Int32.not_lt.mp h3) ?_
          exact fin x (by unfold k_coF; rw [if_neg h1, if_pos h2, if_neg h3])
      · obtain ⟨c, c1, c2⟩ := hR n (by omega) h2
        refine x_icmp_eq_f (pc := 66) 92 dX2_coreOf_66 (by decide) (h2) ?_
        refine x_iload_n (pc := 69) 3 dX2_coreOf_69 rfl rfl ?_
        refine x_aload_n (pc := 70) 0 dX2_coreOf_70 rfl rfl ?_
        refine x_getr (pc := 71) (10) dX2_coreOf_71 fX2_30 (zat_b rfl rfl) rfl ?_
        refine x_getr (pc := 74) (11) dX2_coreOf_74 fX2_120 (zat_b rfl rfl) rfl ?_
        refine x_aload_n (pc := 77) 0 dX2_coreOf_77 rfl rfl ?_
        refine x_getr (pc := 78) (72) dX2_coreOf_78 fX2_18 (zat_b rfl rfl) rfl ?_
        refine x_iload (pc := 81) dX2_coreOf_81 rfl ?_
        have hj83 : zv (κ 70 n) < 31 := by omega
        refine x_iald_l (pc := 83) (zv (κ 70 n)) dX2_coreOf_83 (zar_b rfl rfl rfl) rfl (by first | rfl | simp only [pk_mul, nI_add] | simp only [zon, pk_mul, nI_add]) hj83 (Nat.lt_of_lt_of_le hj83 (by decide)) ?_
        rw [c2]
        refine x_callV1i (pc := 84) dX2_coreOf_84 lX2_139 (zat_b rfl rfl) rfl (s_variablesOf (d + 1) c1) (Nat.le_of_ble_eq_true rfl) (Or.inl zgr) ?_
        refine x_ior (pc := 87) dX2_coreOf_87 ?_
        refine x_istore_n (pc := 88) 3 dX2_coreOf_88 rfl (by decide) rfl ?_
        refine x_goto (pc := 89) 111 dX2_coreOf_89 (by decide) ?_
        exact fin (x.1, x.2 ||| kM κ c) (by unfold k_coF; rw [if_neg h1, if_neg h2, c2, nI_clamp (by omega)])
theorem s_core (d : Nat) {k t : Nat} (hk : k < 8) (hA : kAL κ) (hQ : kQ κ t) (hR : kR κ t) : zTr E (d + 3) mX2_coreOf [.ref 3, .int (nI k)] (κ, α, τ) (some (.int (k_core κ k))) (κ, α, τ) := by
  have hcl : (κ 3 2).toNatClampNeg = t := by rw [hQ.1]; exact nI_clamp (by have := hQ.2.1; omega)
  refine zM.tr (zM_of [some (.ref 3), some (.int (nI k)), none, none, none, none] (by decide) rfl (Nat.le_of_ble_eq_true rfl) ?_)
  unfold k_core
  rw [hcl]
  refine x_iconst (pc := 0) (nI 1) dX2_coreOf_0 (by decide) ?_
  refine x_iload_n (pc := 1) 1 dX2_coreOf_1 rfl rfl ?_
  refine x_ishl (pc := 2) dX2_coreOf_2 ?_
  refine x_istore_n (pc := 3) 2 dX2_coreOf_3 rfl (by decide) rfl ?_
  refine x_aload_n (pc := 4) 0 dX2_coreOf_4 rfl rfl ?_
  refine x_getr (pc := 5) (10) dX2_coreOf_5 fX2_30 (zat_b rfl rfl) rfl ?_
  refine x_getr (pc := 8) (19) dX2_coreOf_8 fX2_162 (zat_b rfl rfl) rfl ?_
  refine x_getr (pc := 11) (20) dX2_coreOf_11 fX2_168 (zat_b rfl rfl) rfl ?_
  refine x_iload_n (pc := 14) 1 dX2_coreOf_14 rfl rfl ?_
  have hj15 : k < 8 := by omega
  refine x_iald_l (pc := 15) (k) dX2_coreOf_15 (zar_b rfl rfl rfl) rfl (by first | rfl | simp only [pk_mul, nI_add] | simp only [zon, pk_mul, nI_add]) hj15 (Nat.lt_of_lt_of_le hj15 (by decide)) ?_
  refine x_callN1i (pc := 16) dX2_coreOf_16 lX2_150 (s_bitOf (d + 1) _) (Nat.le_of_ble_eq_true rfl) (Or.inl zgr) ?_
  refine x_istore_n (pc := 19) 3 dX2_coreOf_19 rfl (by decide) rfl ?_
  refine x_aload_n (pc := 20) 0 dX2_coreOf_20 rfl rfl ?_
  refine x_geti_l (pc := 21) dX2_coreOf_21 fX2_74 (zat_b rfl rfl) rfl rfl ?_
  rw [hQ.1]
  refine x_iconst (pc := 24) (nI 1) dX2_coreOf_24 (by decide) ?_
  refine x_isub (pc := 25) dX2_coreOf_25 ?_
  refine x_istore (pc := 26) dX2_coreOf_26 (by decide) rfl ?_
  exact l_kcore d hA hQ hR t (nI 1 <<< (nI k &&& 31), kb (κ 20 k)) (Nat.le_refl _)
theorem s_takeOpen (d : Nat) {k t : Nat} (hk : k < 8) (hl : lok 30 (κ 20 k)) (ht : κ 3 2 = nI t) (ht30 : t < 30) (ho : (κ 3 6 ||| κ 3 7) &&& kb (κ 20 k) = 0) : zTr E (d + 4) mX2_takeAssumption [.ref 3, .int (nI k)] (κ, α, τ) (some (.int (-1))) (k_sput (zup κ 3 8 (κ 3 8 + nI 1)) (κ 20 k) (-1), α, τ) := by
  refine zM.tr (zM_of [some (.ref 3), some (.int (nI k)), none] (by decide) rfl (Nat.le_of_ble_eq_true rfl) ?_)
  refine x_aload_n (pc := 0) 0 dX2_takeAssumption_0 rfl rfl ?_
  refine x_getr (pc := 1) (10) dX2_takeAssumption_1 fX2_30 (zat_b rfl rfl) rfl ?_
  refine x_getr (pc := 4) (19) dX2_takeAssumption_4 fX2_162 (zat_b rfl rfl) rfl ?_
  refine x_getr (pc := 7) (20) dX2_takeAssumption_7 fX2_168 (zat_b rfl rfl) rfl ?_
  refine x_iload_n (pc := 10) 1 dX2_takeAssumption_10 rfl rfl ?_
  have hj11 : k < 8 := by omega
  refine x_iald_l (pc := 11) (k) dX2_takeAssumption_11 (zar_b rfl rfl rfl) rfl (by first | rfl | simp only [pk_mul, nI_add] | simp only [zon, pk_mul, nI_add]) hj11 (Nat.lt_of_lt_of_le hj11 (by decide)) ?_
  refine x_istore_n (pc := 12) 2 dX2_takeAssumption_12 rfl (by decide) rfl ?_
  refine x_aload_n (pc := 13) 0 dX2_takeAssumption_13 rfl rfl ?_
  refine x_geti_l (pc := 14) dX2_takeAssumption_14 fX2_77 (zat_b rfl rfl) rfl rfl ?_
  refine x_aload_n (pc := 17) 0 dX2_takeAssumption_17 rfl rfl ?_
  refine x_geti_l (pc := 18) dX2_takeAssumption_18 fX2_80 (zat_b rfl rfl) rfl rfl ?_
  refine x_ior (pc := 21) dX2_takeAssumption_21 ?_
  refine x_iload_n (pc := 22) 2 dX2_takeAssumption_22 rfl rfl ?_
  refine x_callN1i (pc := 23) dX2_takeAssumption_23 lX2_150 (s_bitOf (d + 2) _) (Nat.le_of_ble_eq_true rfl) (Or.inl zgr) ?_
  refine x_iand (pc := 26) dX2_takeAssumption_26 ?_
  refine x_if_ne_f (pc := 27) 48 dX2_takeAssumption_27 (by decide) (ho) ?_
  refine x_aload_n (pc := 30) 0 dX2_takeAssumption_30 rfl rfl ?_
  refine x_dup (pc := 31) dX2_takeAssumption_31 rfl ?_
  refine x_geti_l (pc := 32) dX2_takeAssumption_32 fX2_83 (zat_b rfl rfl) rfl rfl ?_
  refine x_iconst (pc := 35) (nI 1) dX2_takeAssumption_35 (by decide) ?_
  refine x_iadd (pc := 36) dX2_takeAssumption_36 ?_
  refine x_puti_l (pc := 37) dX2_takeAssumption_37 pX2_83 (zat_b rfl rfl) rfl rfl ?_
  refine x_aload_n (pc := 40) 0 dX2_takeAssumption_40 rfl rfl ?_
  refine x_iload_n (pc := 41) 2 dX2_takeAssumption_41 rfl rfl ?_
  refine x_iconst (pc := 42) (-1) dX2_takeAssumption_42 (by decide) ?_
  refine x_callV2v (pc := 43) dX2_takeAssumption_43 lX2_67 (zat_b rfl rfl) rfl (s_sput (t := t) (d + 1) (-1) hl (by rw [zup_i (by decide)]; exact ht) ht30) (Nat.le_of_ble_eq_true rfl) (Or.inl zgr) ?_
  refine x_iconst (pc := 46) (-1) dX2_takeAssumption_46 (by decide) ?_
  refine x_iret (pc := 47) dX2_takeAssumption_47 rfl ?_
  exact ⟨rfl, rfl⟩
theorem s_takeFail (d : Nat) {k t : Nat} (hk : k < 8) (hA : kAL κ) (hQ : kQ κ t) (hR : kR κ t) (ho : ¬ (κ 3 6 ||| κ 3 7) &&& kb (κ 20 k) = 0) : zTr E (d + 4) mX2_takeAssumption [.ref 3, .int (nI k)] (κ, α, τ) (some (.int (nI 0))) (zup κ 10 13 (k_core κ k), α, τ) := by
  refine zM.tr (zM_of [some (.ref 3), some (.int (nI k)), none] (by decide) rfl (Nat.le_of_ble_eq_true rfl) ?_)
  refine x_aload_n (pc := 0) 0 dX2_takeAssumption_0 rfl rfl ?_
  refine x_getr (pc := 1) (10) dX2_takeAssumption_1 fX2_30 (zat_b rfl rfl) rfl ?_
  refine x_getr (pc := 4) (19) dX2_takeAssumption_4 fX2_162 (zat_b rfl rfl) rfl ?_
  refine x_getr (pc := 7) (20) dX2_takeAssumption_7 fX2_168 (zat_b rfl rfl) rfl ?_
  refine x_iload_n (pc := 10) 1 dX2_takeAssumption_10 rfl rfl ?_
  have hj11 : k < 8 := by omega
  refine x_iald_l (pc := 11) (k) dX2_takeAssumption_11 (zar_b rfl rfl rfl) rfl (by first | rfl | simp only [pk_mul, nI_add] | simp only [zon, pk_mul, nI_add]) hj11 (Nat.lt_of_lt_of_le hj11 (by decide)) ?_
  refine x_istore_n (pc := 12) 2 dX2_takeAssumption_12 rfl (by decide) rfl ?_
  refine x_aload_n (pc := 13) 0 dX2_takeAssumption_13 rfl rfl ?_
  refine x_geti_l (pc := 14) dX2_takeAssumption_14 fX2_77 (zat_b rfl rfl) rfl rfl ?_
  refine x_aload_n (pc := 17) 0 dX2_takeAssumption_17 rfl rfl ?_
  refine x_geti_l (pc := 18) dX2_takeAssumption_18 fX2_80 (zat_b rfl rfl) rfl rfl ?_
  refine x_ior (pc := 21) dX2_takeAssumption_21 ?_
  refine x_iload_n (pc := 22) 2 dX2_takeAssumption_22 rfl rfl ?_
  refine x_callN1i (pc := 23) dX2_takeAssumption_23 lX2_150 (s_bitOf (d + 2) _) (Nat.le_of_ble_eq_true rfl) (Or.inl zgr) ?_
  refine x_iand (pc := 26) dX2_takeAssumption_26 ?_
  refine x_if_ne_t (pc := 27) 48 dX2_takeAssumption_27 (by decide) (ho) ?_
  refine x_aload_n (pc := 48) 0 dX2_takeAssumption_48 rfl rfl ?_
  refine x_getr (pc := 49) (10) dX2_takeAssumption_49 fX2_30 (zat_b rfl rfl) rfl ?_
  refine x_aload_n (pc := 52) 0 dX2_takeAssumption_52 rfl rfl ?_
  refine x_iload_n (pc := 53) 1 dX2_takeAssumption_53 rfl rfl ?_
  refine x_callV1i (pc := 54) dX2_takeAssumption_54 lX2_171 (zat_b rfl rfl) rfl (s_core d hk hA hQ hR) (Nat.le_of_ble_eq_true rfl) (Or.inl zgr) ?_
  refine x_puti_l (pc := 57) dX2_takeAssumption_57 pX2_43 (zat_b rfl rfl) rfl rfl ?_
  refine x_iconst (pc := 60) (nI 0) dX2_takeAssumption_60 (by decide) ?_
  refine x_iret (pc := 61) dX2_takeAssumption_61 rfl ?_
  exact ⟨rfl, rfl⟩
theorem l_decide (d : Nat) (hV : κ 10 4 = nI (kV κ)) (hV30 : kV κ ≤ 30) {t : Nat} (ht : κ 3 2 = nI t) (ht30 : t < 30) : ∀ m v b, v + m = kV κ + 1 → 1 ≤ v → b < v → 1 ≤ zit (k_chF κ) v m b → zX E (d + 3) mX2_decide 4 [some (.ref 3), some (.int (nI b)), some (.int (nI v)), none] [] (κ, α, τ) (fun r ν => r = none ∧ ν = (k_sput (zup (zup κ 3 8 (κ 3 8 + nI 1)) 10 9 (κ 10 9 + nI 1)) (if k_phaseOf κ (nI (zit (k_chF κ) v m b)) = true then nI (zit (k_chF κ) v m b) else -(nI (zit (k_chF κ) v m b))) (-1), α, τ)) := by
  intro m
  induction m with
  | zero =>
    intro v b hv h1 hb h0
    have h0 : 1 ≤ b := h0
    show zX E (d + 3) mX2_decide 4 _ _ _ (fun r ν => r = none ∧ ν = (k_sput (zup (zup κ 3 8 (κ 3 8 + nI 1)) 10 9 (κ 10 9 + nI 1)) (if k_phaseOf κ (nI b) = true then nI b else -(nI b)) (-1), α, τ))
    refine x_iload_n (pc := 4) 2 dX2_decide_4 rfl rfl ?_
    refine x_aload_n (pc := 5) 0 dX2_decide_5 rfl rfl ?_
    refine x_getr (pc := 6) (10) dX2_decide_6 fX2_30 (zat_b rfl rfl) rfl ?_
    refine x_geti_l (pc := 9) dX2_decide_9 fX2_108 (zat_b rfl rfl) rfl rfl ?_
    rw [hV]
    refine x_icmp_gt_t (pc := 12) 75 dX2_decide_12 (by decide) (nI_lt (by omega) (by omega)) ?_
    refine x_aload_n (pc := 75) 0 dX2_decide_75 rfl rfl ?_
    refine x_dup (pc := 76) dX2_decide_76 rfl ?_
    refine x_geti_l (pc := 77) dX2_decide_77 fX2_83 (zat_b rfl rfl) rfl rfl ?_
    refine x_iconst (pc := 80) (nI 1) dX2_decide_80 (by decide) ?_
    refine x_iadd (pc := 81) dX2_decide_81 ?_
    refine x_puti_l (pc := 82) dX2_decide_82 pX2_83 (zat_b rfl rfl) rfl rfl ?_
    refine x_aload_n (pc := 85) 0 dX2_decide_85 rfl rfl ?_
    refine x_getr (pc := 86) (10) dX2_decide_86 fX2_30 (zat_b rfl rfl) rfl ?_
    refine x_dup (pc := 89) dX2_decide_89 rfl ?_
    refine x_geti_l (pc := 90) dX2_decide_90 fX2_180 (zat_b rfl rfl) rfl rfl ?_
    rw [zup_p (by decide)]
    refine x_iconst (pc := 93) (nI 1) dX2_decide_93 (by decide) ?_
    refine x_iadd (pc := 94) dX2_decide_94 ?_
    refine x_puti_l (pc := 95) dX2_decide_95 pX2_180 (zat_b rfl rfl) rfl rfl ?_
    refine x_aload_n (pc := 98) 0 dX2_decide_98 rfl rfl ?_
    refine x_aload_n (pc := 99) 0 dX2_decide_99 rfl rfl ?_
    refine x_getr (pc := 100) (10) dX2_decide_100 fX2_30 (zat_b rfl rfl) rfl ?_
    refine x_iload_n (pc := 103) 1 dX2_decide_103 rfl rfl ?_
    refine x_callV1i (pc := 104) dX2_decide_104 lX2_183 (zat_b rfl rfl) rfl (s_phaseOf d _) (Nat.le_of_ble_eq_true rfl) (Or.inl zgr) ?_
    have hp : k_phaseOf (zup (zup κ 3 8 (κ 3 8 + nI 1)) 10 9 (κ 10 9 + nI 1)) (nI b) = k_phaseOf κ (nI b) := by unfold k_phaseOf; rw [zup_i (by decide), zup_p (by decide)]
    have ht' : zup (zup κ 3 8 (κ 3 8 + nI 1)) 10 9 (κ 10 9 + nI 1) 3 2 = nI t := by rw [zup_p (by decide), zup_i (by decide)]; exact ht
    rw [hp]
    cases h : k_phaseOf κ (nI b) with
    | true =>
      rw [if_pos rfl]
      refine x_if_eq_f (pc := 107) 114 dX2_decide_107 (by decide) (by decide) ?_
      refine x_iload_n (pc := 110) 1 dX2_decide_110 rfl rfl ?_
      refine x_goto (pc := 111) 116 dX2_decide_111 (by decide) ?_
      refine x_iconst (pc := 116) (-1) dX2_decide_116 (by decide) ?_
      refine x_callV2v (pc := 117) dX2_decide_117 lX2_67 (zat_b rfl rfl) rfl (s_sput (d) (-1) ⟨b, h0, by omega, Or.inl rfl⟩ ht' ht30) (Nat.le_of_ble_eq_true rfl) (Or.inl zgr) ?_
      refine x_vret (pc := 120) dX2_decide_120 rfl ?_
      exact ⟨rfl, rfl⟩
    | false =>
      rw [if_neg (by decide)]
      refine x_if_eq_t (pc := 107) 114 dX2_decide_107 (by decide) (rfl) ?_
      refine x_iload_n (pc := 114) 1 dX2_decide_114 rfl rfl ?_
      refine x_ineg (pc := 115) dX2_decide_115 ?_
      refine x_iconst (pc := 116) (-1) dX2_decide_116 (by decide) ?_
      refine x_callV2v (pc := 117) dX2_decide_117 lX2_67 (zat_b rfl rfl) rfl (s_sput (d) (-1) ⟨b, h0, by omega, Or.inr rfl⟩ ht' ht30) (Nat.le_of_ble_eq_true rfl) (Or.inl zgr) ?_
      refine x_vret (pc := 120) dX2_decide_120 rfl ?_
      exact ⟨rfl, rfl⟩
  | succ m ih =>
    intro v b hv h1 hb h0
    have step : zit (k_chF κ) v (m + 1) b = zit (k_chF κ) (v + 1) m (k_chF κ v b) := rfl
    rw [step] at h0 ⊢
    have fin : ∀ b' x3, k_chF κ v b = b' → b' ≤ v → zX E (d + 3) mX2_decide 69 [some (.ref 3), some (.int (nI b')), some (.int (nI v)), x3] [] (κ, α, τ) (fun r ν => r = none ∧ ν = (k_sput (zup (zup κ 3 8 (κ 3 8 + nI 1)) 10 9 (κ 10 9 + nI 1)) (if k_phaseOf κ (nI (zit (k_chF κ) (v + 1) m (k_chF κ v b))) = true then nI (zit (k_chF κ) (v + 1) m (k_chF κ v b)) else -(nI (zit (k_chF κ) (v + 1) m (k_chF κ v b)))) (-1), α, τ)) := by
      intro b' x3 e hb'
      rw [e] at h0 ⊢
      refine x_iinc (pc := 69) (nI (v + 1)) dX2_decide_69 rfl (zinc _) (by decide) rfl ?_
      refine x_goto (pc := 72) 4 dX2_decide_72 (by decide) ?_
      exact zX.sub (zs1 (zs1 (zs1 (zsn zse)))) (ih (v + 1) b' (by omega) (by omega) (by omega) h0)
    refine x_iload_n (pc := 4) 2 dX2_decide_4 rfl rfl ?_
    refine x_aload_n (pc := 5) 0 dX2_decide_5 rfl rfl ?_
    refine x_getr (pc := 6) (10) dX2_decide_6 fX2_30 (zat_b rfl rfl) rfl ?_
    refine x_geti_l (pc := 9) dX2_decide_9 fX2_108 (zat_b rfl rfl) rfl rfl ?_
    rw [hV]
    refine x_icmp_gt_f (pc := 12) 75 dX2_decide_12 (by decide) (nI_nlt (by omega) (by omega)) ?_
    refine x_aload_n (pc := 15) 0 dX2_decide_15 rfl rfl ?_
    refine x_geti_l (pc := 16) dX2_decide_16 fX2_77 (zat_b rfl rfl) rfl rfl ?_
    refine x_aload_n (pc := 19) 0 dX2_decide_19 rfl rfl ?_
    refine x_geti_l (pc := 20) dX2_decide_20 fX2_80 (zat_b rfl rfl) rfl rfl ?_
    refine x_ior (pc := 23) dX2_decide_23 ?_
    refine x_iload_n (pc := 24) 2 dX2_decide_24 rfl rfl ?_
    refine x_callN1i (pc := 25) dX2_decide_25 lX2_150 (s_bitOf (d + 1) _) (Nat.le_of_ble_eq_true rfl) (Or.inl zgr) ?_
    refine x_iand (pc := 28) dX2_decide_28 ?_
    by_cases h2 : (κ 3 6 ||| κ 3 7) &&& kb (nI v) = 0
    ·
      refine x_if_ne_f (pc := 29) 36 dX2_decide_29 (by decide) (h2) ?_
      refine x_iconst (pc := 32) (nI 1) dX2_decide_32 (by decide) ?_
      refine x_goto (pc := 33) 37 dX2_decide_33 (by decide) ?_
      refine x_istore_n (pc := 37) 3 dX2_decide_37 rfl (by decide) rfl ?_
      refine x_iload_n (pc := 38) 3 dX2_decide_38 rfl rfl ?_
      refine x_if_eq_f (pc := 39) 69 dX2_decide_39 (by decide) (by decide) ?_
      by_cases h3 : b = 0
      ·
        refine x_iload_n (pc := 42) 1 dX2_decide_42 rfl rfl ?_
        refine x_if_eq_t (pc := 43) 67 dX2_decide_43 (by decide) (by rw [h3]; rfl) ?_
        refine x_iload_n (pc := 67) 2 dX2_decide_67 rfl rfl ?_
        refine x_istore_n (pc := 68) 1 dX2_decide_68 rfl (by decide) rfl ?_
        exact fin v _ (by unfold k_chF; rw [if_pos ⟨h2, Or.inl h3⟩]) (Nat.le_refl _)
      · by_cases h4 : κ 21 b < κ 21 v
        ·
          refine x_iload_n (pc := 42) 1 dX2_decide_42 rfl rfl ?_
          refine x_if_eq_f (pc := 43) 67 dX2_decide_43 (by decide) (nI_ne0 (by omega) (by omega)) ?_
          refine x_aload_n (pc := 46) 0 dX2_decide_46 rfl rfl ?_
          refine x_getr (pc := 47) (10) dX2_decide_47 fX2_30 (zat_b rfl rfl) rfl ?_
          refine x_getr (pc := 50) (21) dX2_decide_50 fX2_177 (zat_b rfl rfl) rfl ?_
          refine x_iload_n (pc := 53) 2 dX2_decide_53 rfl rfl ?_
          have hj54 : v < 31 := by omega
          refine x_iald_l (pc := 54) (v) dX2_decide_54 (zar_b rfl rfl rfl) rfl (by first | rfl | simp only [pk_mul, nI_add] | simp only [zon, pk_mul, nI_add]) hj54 (Nat.lt_of_lt_of_le hj54 (by decide)) ?_
          refine x_aload_n (pc := 55) 0 dX2_decide_55 rfl rfl ?_
          refine x_getr (pc := 56) (10) dX2_decide_56 fX2_30 (zat_b rfl rfl) rfl ?_
          refine x_getr (pc := 59) (21) dX2_decide_59 fX2_177 (zat_b rfl rfl) rfl ?_
          refine x_iload_n (pc := 62) 1 dX2_decide_62 rfl rfl ?_
          have hj63 : b < 31 := by omega
          refine x_iald_l (pc := 63) (b) dX2_decide_63 (zar_b rfl rfl rfl) rfl (by first | rfl | simp only [pk_mul, nI_add] | simp only [zon, pk_mul, nI_add]) hj63 (Nat.lt_of_lt_of_le hj63 (by decide)) ?_
          refine x_icmp_le_f (pc := 64) 69 dX2_decide_64 (by decide) (Int32.not_le.mpr h4) ?_
          refine x_iload_n (pc := 67) 2 dX2_decide_67 rfl rfl ?_
          refine x_istore_n (pc := 68) 1 dX2_decide_68 rfl (by decide) rfl ?_
          exact fin v _ (by unfold k_chF; rw [if_pos ⟨h2, Or.inr h4⟩]) (Nat.le_refl _)
        ·
          refine x_iload_n (pc := 42) 1 dX2_decide_42 rfl rfl ?_
          refine x_if_eq_f (pc := 43) 67 dX2_decide_43 (by decide) (nI_ne0 (by omega) (by omega)) ?_
          refine x_aload_n (pc := 46) 0 dX2_decide_46 rfl rfl ?_
          refine x_getr (pc := 47) (10) dX2_decide_47 fX2_30 (zat_b rfl rfl) rfl ?_
          refine x_getr (pc := 50) (21) dX2_decide_50 fX2_177 (zat_b rfl rfl) rfl ?_
          refine x_iload_n (pc := 53) 2 dX2_decide_53 rfl rfl ?_
          have hj54 : v < 31 := by omega
          refine x_iald_l (pc := 54) (v) dX2_decide_54 (zar_b rfl rfl rfl) rfl (by first | rfl | simp only [pk_mul, nI_add] | simp only [zon, pk_mul, nI_add]) hj54 (Nat.lt_of_lt_of_le hj54 (by decide)) ?_
          refine x_aload_n (pc := 55) 0 dX2_decide_55 rfl rfl ?_
          refine x_getr (pc := 56) (10) dX2_decide_56 fX2_30 (zat_b rfl rfl) rfl ?_
          refine x_getr (pc := 59) (21) dX2_decide_59 fX2_177 (zat_b rfl rfl) rfl ?_
          refine x_iload_n (pc := 62) 1 dX2_decide_62 rfl rfl ?_
          have hj63 : b < 31 := by omega
          refine x_iald_l (pc := 63) (b) dX2_decide_63 (zar_b rfl rfl rfl) rfl (by first | rfl | simp only [pk_mul, nI_add] | simp only [zon, pk_mul, nI_add]) hj63 (Nat.lt_of_lt_of_le hj63 (by decide)) ?_
          refine x_icmp_le_t (pc := 64) 69 dX2_decide_64 (by decide) (Int32.not_lt.mp h4) ?_
          exact fin b _ (by unfold k_chF; rw [if_neg (fun q => q.2.elim h3 h4)]) (by omega)
    ·
      refine x_if_ne_t (pc := 29) 36 dX2_decide_29 (by decide) (h2) ?_
      refine x_iconst (pc := 36) (nI 0) dX2_decide_36 (by decide) ?_
      refine x_istore_n (pc := 37) 3 dX2_decide_37 rfl (by decide) rfl ?_
      refine x_iload_n (pc := 38) 3 dX2_decide_38 rfl rfl ?_
      refine x_if_eq_t (pc := 39) 69 dX2_decide_39 (by decide) (rfl) ?_
      exact fin b _ (by unfold k_chF; rw [if_neg (fun q => h2 q.1)]) (by omega)
theorem s_decide (d : Nat) (hV : κ 10 4 = nI (kV κ)) (hV30 : kV κ ≤ 30) {t : Nat} (ht : κ 3 2 = nI t) (ht30 : t < 30) (h : 1 ≤ k_choice κ) : zTr E (d + 3) mX2_decide [.ref 3] (κ, α, τ) none (k_decide κ, α, τ) := by
  refine zM.tr (zM_of [some (.ref 3), none, none, none] (by decide) rfl (Nat.le_of_ble_eq_true rfl) ?_)
  refine x_iconst (pc := 0) (nI 0) dX2_decide_0 (by decide) ?_
  refine x_istore_n (pc := 1) 1 dX2_decide_1 rfl (by decide) rfl ?_
  refine x_iconst (pc := 2) (nI 1) dX2_decide_2 (by decide) ?_
  refine x_istore_n (pc := 3) 2 dX2_decide_3 rfl (by decide) rfl ?_
  exact l_decide d hV hV30 ht ht30 (kV κ) 1 0 (by omega) (by omega) (by omega) h
theorem l_vf (d : Nat) (b : Int32) {t : Nat} (hQ : kQ κ t) : ∀ m i f, i + m = t → zX E (d + 2) mX2_variablesFrom 4 [some (.ref 3), some (.int b), some (.int f), some (.int (nI i)), none] [] (κ, α, τ) (fun r ν => r = some (.int (zit (k_vfF κ b) i m f)) ∧ ν = (κ, α, τ)) := by
  have ht30 := hQ.2.1
  intro m
  induction m with
  | zero =>
    intro i f hi
    refine x_iload_n (pc := 4) 3 dX2_variablesFrom_4 rfl rfl ?_
    refine x_aload_n (pc := 5) 0 dX2_variablesFrom_5 rfl rfl ?_
    refine x_geti_l (pc := 6) dX2_variablesFrom_6 fX2_74 (zat_b rfl rfl) rfl rfl ?_
    rw [hQ.1]
    refine x_icmp_ge_t (pc := 9) 48 dX2_variablesFrom_9 (by decide) (nI_le (by omega) (by omega)) ?_
    refine x_iload_n (pc := 48) 2 dX2_variablesFrom_48 rfl rfl ?_
    refine x_iret (pc := 49) dX2_variablesFrom_49 rfl ?_
    exact ⟨rfl, rfl⟩
  | succ m ih =>
    intro i f hi
    obtain ⟨g1, g2, g3, g4, g5⟩ := (hQ.2.2 i (by omega)).is (by decide)
    have step : zit (k_vfF κ b) i (m + 1) f = zit (k_vfF κ b) (i + 1) m (k_vfF κ b i f) := rfl
    rw [step]
    refine x_iload_n (pc := 4) 3 dX2_variablesFrom_4 rfl rfl ?_
    refine x_aload_n (pc := 5) 0 dX2_variablesFrom_5 rfl rfl ?_
    refine x_geti_l (pc := 6) dX2_variablesFrom_6 fX2_74 (zat_b rfl rfl) rfl rfl ?_
    rw [hQ.1]
    refine x_icmp_ge_f (pc := 9) 48 dX2_variablesFrom_9 (by decide) (nI_ge (by omega) (by omega)) ?_
    refine x_aload_n (pc := 12) 0 dX2_variablesFrom_12 rfl rfl ?_
    refine x_getr (pc := 13) (70) dX2_variablesFrom_13 fX2_9 (zat_b rfl rfl) rfl ?_
    refine x_iload_n (pc := 16) 3 dX2_variablesFrom_16 rfl rfl ?_
    have hj17 : i < 30 := by omega
    refine x_iald_l (pc := 17) (i) dX2_variablesFrom_17 (zar_b rfl rfl rfl) rfl (by first | rfl | simp only [pk_mul, nI_add] | simp only [zon, pk_mul, nI_add]) hj17 (Nat.lt_of_lt_of_le hj17 (by decide)) ?_
    refine x_callN1i (pc := 18) dX2_variablesFrom_18 lX2_147 (s_variableOf d _) (Nat.le_of_ble_eq_true rfl) (Or.inl zgr) ?_
    rw [g3]
    unfold k_vfF
    by_cases h : b ≤ κ 71 (zv (κ 70 i))
    · rw [if_pos h]
      refine x_istore (pc := 21) dX2_variablesFrom_21 (by decide) rfl ?_
      refine x_aload_n (pc := 23) 0 dX2_variablesFrom_23 rfl rfl ?_
      refine x_getr (pc := 24) (71) dX2_variablesFrom_24 fX2_15 (zat_b rfl rfl) rfl ?_
      refine x_iload (pc := 27) dX2_variablesFrom_27 rfl ?_
      have hj29 : zv (κ 70 i) < 31 := by omega
      refine x_iald_l (pc := 29) (zv (κ 70 i)) dX2_variablesFrom_29 (zar_b rfl rfl rfl) rfl (by first | rfl | simp only [pk_mul, nI_add] | simp only [zon, pk_mul, nI_add]) hj29 (Nat.lt_of_lt_of_le hj29 (by decide)) ?_
      refine x_iload_n (pc := 30) 1 dX2_variablesFrom_30 rfl rfl ?_
      refine x_icmp_lt_f (pc := 31) 42 dX2_variablesFrom_31 (by decide) (Int32.not_lt.mpr h) ?_
      refine x_iload_n (pc := 34) 2 dX2_variablesFrom_34 rfl rfl ?_
      refine x_iload (pc := 35) dX2_variablesFrom_35 rfl ?_
      refine x_callN1i (pc := 37) dX2_variablesFrom_37 lX2_150 (s_bitOf d _) (Nat.le_of_ble_eq_true rfl) (Or.inl zgr) ?_
      refine x_ior (pc := 40) dX2_variablesFrom_40 ?_
      refine x_istore_n (pc := 41) 2 dX2_variablesFrom_41 rfl (by decide) rfl ?_
      refine x_iinc (pc := 42) (nI (i + 1)) dX2_variablesFrom_42 rfl (zinc _) (by decide) rfl ?_
      refine x_goto (pc := 45) 4 dX2_variablesFrom_45 (by decide) ?_
      exact zX.sub (zs1 (zs1 (zs1 (zs1 (zsn zse))))) (ih (i + 1) _ (by omega))
    · rw [if_neg h]
      refine x_istore (pc := 21) dX2_variablesFrom_21 (by decide) rfl ?_
      refine x_aload_n (pc := 23) 0 dX2_variablesFrom_23 rfl rfl ?_
      refine x_getr (pc := 24) (71) dX2_variablesFrom_24 fX2_15 (zat_b rfl rfl) rfl ?_
      refine x_iload (pc := 27) dX2_variablesFrom_27 rfl ?_
      have hj29 : zv (κ 70 i) < 31 := by omega
      refine x_iald_l (pc := 29) (zv (κ 70 i)) dX2_variablesFrom_29 (zar_b rfl rfl rfl) rfl (by first | rfl | simp only [pk_mul, nI_add] | simp only [zon, pk_mul, nI_add]) hj29 (Nat.lt_of_lt_of_le hj29 (by decide)) ?_
      refine x_iload_n (pc := 30) 1 dX2_variablesFrom_30 rfl rfl ?_
      refine x_icmp_lt_t (pc := 31) 42 dX2_variablesFrom_31 (by decide) (Int32.not_le.mp h) ?_
      refine x_iinc (pc := 42) (nI (i + 1)) dX2_variablesFrom_42 rfl (zinc _) (by decide) rfl ?_
      refine x_goto (pc := 45) 4 dX2_variablesFrom_45 (by decide) ?_
      exact zX.sub (zs1 (zs1 (zs1 (zs1 (zsn zse))))) (ih (i + 1) _ (by omega))
theorem s_vf (d : Nat) (b : Int32) {t : Nat} (hQ : kQ κ t) : zTr E (d + 2) mX2_variablesFrom [.ref 3, .int b] (κ, α, τ) (some (.int (k_vf κ b))) (κ, α, τ) := by
  have hcl : (κ 3 2).toNatClampNeg = t := by rw [hQ.1]; exact nI_clamp (by have := hQ.2.1; omega)
  refine zM.tr (zM_of [some (.ref 3), some (.int b), none, none, none] (by decide) rfl (Nat.le_of_ble_eq_true rfl) ?_)
  unfold k_vf
  rw [hcl]
  refine x_iconst (pc := 0) (nI 0) dX2_variablesFrom_0 (by decide) ?_
  refine x_istore_n (pc := 1) 2 dX2_variablesFrom_1 rfl (by decide) rfl ?_
  refine x_iconst (pc := 2) (nI 0) dX2_variablesFrom_2 (by decide) ?_
  refine x_istore_n (pc := 3) 3 dX2_variablesFrom_3 rfl (by decide) rfl ?_
  exact l_vf d b hQ t 0 (nI 0) (by omega)
theorem l_resolve (d : Nat) (nw ab : Int32) {t : Nat} (hQ : kQ κ t) (hR : kR κ t) : ∀ n x, n ≤ t → zX E (d + 3) mX2_resolve 56 [some (.ref 3), some (.int nw), some (.int (nI n - nI 1)), none, none, none] [] (k_ls (zup κ 3 14 ab) x.1 x.2, α, τ) (fun r ν => r = none ∧ ν = (k_ls (zup κ 3 14 ab) (k_reL κ nw ab n x).1 (k_reL κ nw ab n x).2, α, τ)) := by
  have ht30 := hQ.2.1
  intro n
  induction n with
  | zero =>
    intro x hn
    refine x_iload_n (pc := 56) 2 dX2_resolve_56 rfl rfl ?_
    refine x_if_lt_t (pc := 57) 173 dX2_resolve_57 (by decide) (by decide) ?_
    refine x_vret (pc := 173) dX2_resolve_173 rfl ?_
    exact ⟨rfl, rfl⟩
  | succ n ih =>
    intro x hn
    obtain ⟨g1, g2, g3, g4, g5⟩ := (hQ.2.2 n (by omega)).is (by decide)
    rw [show nI (n + 1) - nI 1 = nI n by rw [pk_sub (by omega)]; rfl]
    have z : ∀ p j, p ≠ 3 → k_ls (zup κ 3 14 ab) x.1 x.2 p j = κ p j := fun p j h => by rw [k_ls_p h, zup_p h]
    unfold k_reL
    refine x_iload_n (pc := 56) 2 dX2_resolve_56 rfl rfl ?_
    refine x_if_lt_f (pc := 57) 173 dX2_resolve_57 (by decide) (nI_pos (by omega)) ?_
    refine x_aload_n (pc := 60) 0 dX2_resolve_60 rfl rfl ?_
    refine x_geti_l (pc := 61) dX2_resolve_61 fX2_215 (zat_b rfl rfl) rfl rfl ?_
    rw [k_ls_15]
    refine x_iload_n (pc := 64) 1 dX2_resolve_64 rfl rfl ?_
    refine x_iand (pc := 65) dX2_resolve_65 ?_
    refine x_callS1i (pc := 66) dX2_resolve_66 lX2_142 (s_bitCount (d + 1) _) (Nat.le_of_ble_eq_true rfl) (Or.inl zgr) ?_
    by_cases h0 : kbc (x.1 &&& nw) < nI 2
    · rw [if_pos h0]
      refine x_iconst (pc := 69) (nI 2) dX2_resolve_69 (by decide) ?_
      refine x_icmp_lt_t (pc := 70) 173 dX2_resolve_70 (by decide) (h0) ?_
      refine x_vret (pc := 173) dX2_resolve_173 rfl ?_
      exact ⟨rfl, rfl⟩
    · rw [if_neg h0]
      have fin : ∀ y x3 x4 x5, k_reF κ ab n x = y → zX E (d + 3) mX2_resolve 167 [some (.ref 3), some (.int nw), some (.int (nI n)), x3, x4, x5] [] (k_ls (zup κ 3 14 ab) y.1 y.2, α, τ) (fun r ν => r = none ∧ ν = (k_ls (zup κ 3 14 ab) (k_reL κ nw ab n (k_reF κ ab n x)).1 (k_reL κ nw ab n (k_reF κ ab n x)).2, α, τ)) := by
        intro y x3 x4 x5 hy
        rw [hy]
        refine x_iinc (pc := 167) (nI n - nI 1) dX2_resolve_167 rfl (zdec1 _) (by decide) rfl ?_
        refine x_goto (pc := 170) 56 dX2_resolve_170 (by decide) ?_
        exact zX.sub (zs1 (zs1 (zs1 (zsn (zsn (zsn zse)))))) (ih y (by omega))
      refine x_iconst (pc := 69) (nI 2) dX2_resolve_69 (by decide) ?_
      refine x_icmp_lt_f (pc := 70) 173 dX2_resolve_70 (by decide) (h0) ?_
      refine x_aload_n (pc := 73) 0 dX2_resolve_73 rfl rfl ?_
      refine x_getr (pc := 74) (70) dX2_resolve_74 fX2_9 (zat_b rfl rfl) rfl ?_
      refine x_iload_n (pc := 77) 2 dX2_resolve_77 rfl rfl ?_
      have hj78 : n < 30 := by omega
      refine x_iald_l (pc := 78) (n) dX2_resolve_78 (zar_b rfl rfl rfl) rfl (by first | rfl | simp only [pk_mul, nI_add] | simp only [zon, pk_mul, nI_add]) hj78 (Nat.lt_of_lt_of_le hj78 (by decide)) ?_
      rw [z 70 n (by decide)]
      refine x_callN1i (pc := 79) dX2_resolve_79 lX2_147 (s_variableOf (d + 1) _) (Nat.le_of_ble_eq_true rfl) (Or.inl zgr) ?_
      rw [g3]
      refine x_istore_n (pc := 82) 3 dX2_resolve_82 rfl (by decide) rfl ?_
      refine x_iload_n (pc := 83) 3 dX2_resolve_83 rfl rfl ?_
      refine x_callN1i (pc := 84) dX2_resolve_84 lX2_150 (s_bitOf (d + 1) _) (Nat.le_of_ble_eq_true rfl) (Or.inl zgr) ?_
      refine x_istore (pc := 87) dX2_resolve_87 (by decide) rfl ?_
      refine x_aload_n (pc := 89) 0 dX2_resolve_89 rfl rfl ?_
      refine x_geti_l (pc := 90) dX2_resolve_90 fX2_215 (zat_b rfl rfl) rfl rfl ?_
      rw [k_ls_15]
      by_cases h1 : x.1 &&& kb (nI (zv (κ 70 n))) = 0
      ·
        refine x_iload (pc := 93) dX2_resolve_93 rfl ?_
        refine x_iand (pc := 95) dX2_resolve_95 ?_
        refine x_if_eq_t (pc := 96) 167 dX2_resolve_96 (by decide) (h1) ?_
        exact fin x _ _ _ (by unfold k_reF; rw [if_pos (Or.inl h1)])
      ·
        refine x_iload (pc := 93) dX2_resolve_93 rfl ?_
        refine x_iand (pc := 95) dX2_resolve_95 ?_
        refine x_if_eq_f (pc := 96) 167 dX2_resolve_96 (by decide) (h1) ?_
        refine x_aload_n (pc := 99) 0 dX2_resolve_99 rfl rfl ?_
        refine x_getr (pc := 100) (72) dX2_resolve_100 fX2_18 (zat_b rfl rfl) rfl ?_
        refine x_iload_n (pc := 103) 3 dX2_resolve_103 rfl rfl ?_
        have hj104 : zv (κ 70 n) < 31 := by omega
        refine x_iald_l (pc := 104) (zv (κ 70 n)) dX2_resolve_104 (zar_b rfl rfl rfl) rfl (by first | rfl | simp only [pk_mul, nI_add] | simp only [zon, pk_mul, nI_add]) hj104 (Nat.lt_of_lt_of_le hj104 (by decide)) ?_
        rw [z 72 _ (by decide)]
        by_cases h2 : κ 72 (zv (κ 70 n)) = -1
        ·
          refine x_iconst (pc := 105) (-1) dX2_resolve_105 (by decide) ?_
          refine x_icmp_ne_f (pc := 106) 112 dX2_resolve_106 (by decide) (h2) ?_
          refine x_goto (pc := 109) 167 dX2_resolve_109 (by decide) ?_
          exact fin x _ _ _ (by unfold k_reF; rw [if_pos (Or.inr h2)])
        · obtain ⟨c, c1, c2⟩ := hR n (by omega) h2
          have e : k_reF κ ab n x = (x.1 &&& (kb (nI (zv (κ 70 n))) ^^^ (-1)) ||| kM κ c &&& ab &&& (kb (nI (zv (κ 70 n))) ^^^ (-1)), x.2 ||| kM κ c &&& ab &&& (kb (nI (zv (κ 70 n))) ^^^ (-1))) := by
            unfold k_reF
            rw [if_neg (fun q => q.elim h1 h2), c2, nI_clamp (by omega)]
          refine x_iconst (pc := 105) (-1) dX2_resolve_105 (by decide) ?_
          refine x_icmp_ne_t (pc := 106) 112 dX2_resolve_106 (by decide) (h2) ?_
          refine x_aload_n (pc := 112) 0 dX2_resolve_112 rfl rfl ?_
          refine x_getr (pc := 113) (10) dX2_resolve_113 fX2_30 (zat_b rfl rfl) rfl ?_
          refine x_getr (pc := 116) (11) dX2_resolve_116 fX2_120 (zat_b rfl rfl) rfl ?_
          refine x_aload_n (pc := 119) 0 dX2_resolve_119 rfl rfl ?_
          refine x_getr (pc := 120) (72) dX2_resolve_120 fX2_18 (zat_b rfl rfl) rfl ?_
          refine x_iload_n (pc := 123) 3 dX2_resolve_123 rfl rfl ?_
          have hj124 : zv (κ 70 n) < 31 := by omega
          refine x_iald_l (pc := 124) (zv (κ 70 n)) dX2_resolve_124 (zar_b rfl rfl rfl) rfl (by first | rfl | simp only [pk_mul, nI_add] | simp only [zon, pk_mul, nI_add]) hj124 (Nat.lt_of_lt_of_le hj124 (by decide)) ?_
          rw [z 72 _ (by decide), c2]
          refine x_callV1i (pc := 125) dX2_resolve_125 lX2_139 (zat_b rfl rfl) rfl (s_variablesOf (d + 1) c1) (Nat.le_of_ble_eq_true rfl) (Or.inl zgr) ?_
          refine x_aload_n (pc := 128) 0 dX2_resolve_128 rfl rfl ?_
          refine x_geti_l (pc := 129) dX2_resolve_129 fX2_212 (zat_b rfl rfl) rfl rfl ?_
          rw [k_ls_i (by decide) (by decide), zup_same, show kM (k_ls (zup κ 3 14 ab) x.1 x.2) c = kM κ c by unfold kM; rw [z 12 c (by decide), z 13 c (by decide)]]
          refine x_iand (pc := 132) dX2_resolve_132 ?_
          refine x_iload (pc := 133) dX2_resolve_133 rfl ?_
          refine x_iconst (pc := 135) (-1) dX2_resolve_135 (by decide) ?_
          refine x_ixor (pc := 136) dX2_resolve_136 ?_
          refine x_iand (pc := 137) dX2_resolve_137 ?_
          refine x_istore (pc := 138) dX2_resolve_138 (by decide) rfl ?_
          refine x_aload_n (pc := 140) 0 dX2_resolve_140 rfl rfl ?_
          refine x_aload_n (pc := 141) 0 dX2_resolve_141 rfl rfl ?_
          refine x_geti_l (pc := 142) dX2_resolve_142 fX2_215 (zat_b rfl rfl) rfl rfl ?_
          rw [k_ls_15]
          refine x_iload (pc := 145) dX2_resolve_145 rfl ?_
          refine x_iconst (pc := 147) (-1) dX2_resolve_147 (by decide) ?_
          refine x_ixor (pc := 148) dX2_resolve_148 ?_
          refine x_iand (pc := 149) dX2_resolve_149 ?_
          refine x_iload (pc := 150) dX2_resolve_150 rfl ?_
          refine x_ior (pc := 152) dX2_resolve_152 ?_
          refine x_puti_l (pc := 153) dX2_resolve_153 pX2_215 (zat_b rfl rfl) rfl rfl ?_
          rw [k_ls_s15]
          refine x_aload_n (pc := 156) 0 dX2_resolve_156 rfl rfl ?_
          refine x_dup (pc := 157) dX2_resolve_157 rfl ?_
          refine x_geti_l (pc := 158) dX2_resolve_158 fX2_218 (zat_b rfl rfl) rfl rfl ?_
          rw [k_ls_16]
          refine x_iload (pc := 161) dX2_resolve_161 rfl ?_
          refine x_ior (pc := 163) dX2_resolve_163 ?_
          refine x_puti_l (pc := 164) dX2_resolve_164 pX2_218 (zat_b rfl rfl) rfl rfl ?_
          rw [k_ls_s16]
          exact fin (x.1 &&& (kb (nI (zv (κ 70 n))) ^^^ (-1)) ||| kM κ c &&& ab &&& (kb (nI (zv (κ 70 n))) ^^^ (-1)), x.2 ||| kM κ c &&& ab &&& (kb (nI (zv (κ 70 n))) ^^^ (-1))) _ _ _ e
theorem s_resolve (d : Nat) {t c : Nat} (hQ : kQ κ t) (hR : kR κ t) (hc : κ 3 9 = nI c) (hc4 : c < 400) : zTr E (d + 3) mX2_resolve [.ref 3] (κ, α, τ) none (k_resolve κ, α, τ) := by
  have hcl : (κ 3 2).toNatClampNeg = t := by rw [hQ.1]; exact nI_clamp (by have := hQ.2.1; omega)
  have hcc : (κ 3 9).toNatClampNeg = c := by rw [hc]; exact nI_clamp (by omega)
  refine zM.tr (zM_of [some (.ref 3), none, none, none, none, none] (by decide) rfl (Nat.le_of_ble_eq_true rfl) ?_)
  unfold k_resolve k_rs
  rw [hcl, hcc]
  refine x_aload_n (pc := 0) 0 dX2_resolve_0 rfl rfl ?_
  refine x_aload_n (pc := 1) 0 dX2_resolve_1 rfl rfl ?_
  refine x_geti_l (pc := 2) dX2_resolve_2 fX2_83 (zat_b rfl rfl) rfl rfl ?_
  refine x_callV1i (pc := 5) dX2_resolve_5 lX2_209 (zat_b rfl rfl) rfl (s_vf d _ hQ) (Nat.le_of_ble_eq_true rfl) (Or.inl zgr) ?_
  refine x_istore_n (pc := 8) 1 dX2_resolve_8 rfl (by decide) rfl ?_
  refine x_aload_n (pc := 9) 0 dX2_resolve_9 rfl rfl ?_
  refine x_aload_n (pc := 10) 0 dX2_resolve_10 rfl rfl ?_
  refine x_iconst (pc := 11) (nI 1) dX2_resolve_11 (by decide) ?_
  refine x_callV1i (pc := 12) dX2_resolve_12 lX2_209 (zat_b rfl rfl) rfl (s_vf d _ hQ) (Nat.le_of_ble_eq_true rfl) (Or.inl zgr) ?_
  refine x_puti_l (pc := 15) dX2_resolve_15 pX2_212 (zat_b rfl rfl) rfl rfl ?_
  refine x_aload_n (pc := 18) 0 dX2_resolve_18 rfl rfl ?_
  refine x_aload_n (pc := 19) 0 dX2_resolve_19 rfl rfl ?_
  refine x_getr (pc := 20) (10) dX2_resolve_20 fX2_30 (zat_b rfl rfl) rfl ?_
  refine x_getr (pc := 23) (11) dX2_resolve_23 fX2_120 (zat_b rfl rfl) rfl ?_
  refine x_aload_n (pc := 26) 0 dX2_resolve_26 rfl rfl ?_
  refine x_geti_l (pc := 27) dX2_resolve_27 fX2_71 (zat_b rfl rfl) rfl rfl ?_
  rw [zup_i (by decide), hc]
  refine x_callV1i (pc := 30) dX2_resolve_30 lX2_139 (zat_b rfl rfl) rfl (s_variablesOf (d + 1) hc4) (Nat.le_of_ble_eq_true rfl) (Or.inl zgr) ?_
  refine x_aload_n (pc := 33) 0 dX2_resolve_33 rfl rfl ?_
  refine x_geti_l (pc := 34) dX2_resolve_34 fX2_212 (zat_b rfl rfl) rfl rfl ?_
  rw [zup_same, show kM (zup κ 3 14 (k_vf κ (nI 1))) c = kM κ c by unfold kM; rw [zup_p (by decide), zup_p (by decide)]]
  refine x_iand (pc := 37) dX2_resolve_37 ?_
  refine x_puti_l (pc := 38) dX2_resolve_38 pX2_215 (zat_b rfl rfl) rfl rfl ?_
  refine x_aload_n (pc := 41) 0 dX2_resolve_41 rfl rfl ?_
  refine x_aload_n (pc := 42) 0 dX2_resolve_42 rfl rfl ?_
  refine x_geti_l (pc := 43) dX2_resolve_43 fX2_215 (zat_b rfl rfl) rfl rfl ?_
  rw [zup_same]
  refine x_puti_l (pc := 46) dX2_resolve_46 pX2_218 (zat_b rfl rfl) rfl rfl ?_
  refine x_aload_n (pc := 49) 0 dX2_resolve_49 rfl rfl ?_
  refine x_geti_l (pc := 50) dX2_resolve_50 fX2_74 (zat_b rfl rfl) rfl rfl ?_
  rw [zup_i (by decide), zup_i (by decide), zup_i (by decide), hQ.1]
  refine x_iconst (pc := 53) (nI 1) dX2_resolve_53 (by decide) ?_
  refine x_isub (pc := 54) dX2_resolve_54 ?_
  refine x_istore_n (pc := 55) 2 dX2_resolve_55 rfl (by decide) rfl ?_
  exact l_resolve d (k_vf κ (κ 3 8)) (k_vf κ (nI 1)) hQ hR t (kM κ c &&& k_vf κ (nI 1), kM κ c &&& k_vf κ (nI 1)) (Nat.le_refl _)
end C7
