/-! the reference: its small calls -/
/-- thrown is cleared -/
def a0 (α : Nat → Nat → Int32) : Nat → Nat → Int32 := zup α 100 0 (nI 0)
theorem a0_at {α : Nat → Nat → Int32} {p i : Nat} (h : ¬ p = 100 ∨ ¬ i = 0) : a0 α p i = α p i := by unfold a0 zup; rw [if_neg (fun q => h.elim (fun z => z q.1) (fun z => z q.2))]
theorem zidx {v : Int32} {N : Nat} (hN : N < 2 ^ 30) : (decide (nI 0 ≤ v) && decide (v ≤ nI N - nI 1)) = true ↔ ∃ j, j < N ∧ v = nI j := by
  simp only [Bool.and_eq_true, decide_eq_true_eq]
  have hm : (nI N - nI 1).toInt = (N : Int) - 1 := pk_sub_toInt (a := N) (b := 1) hN (by decide)
  constructor
  · rintro ⟨h1, h2⟩
    obtain ⟨j, hj, rfl⟩ := nI_of (x := v) (Int32.not_lt.mpr h1)
    refine ⟨j, ?_, rfl⟩
    have h3 := Int32.le_iff_toInt_le.mp h2
    rw [nI_toInt hj, hm] at h3
    omega
  · rintro ⟨j, hj, rfl⟩
    refine ⟨nI_le (Nat.zero_le j) (by omega), Int32.le_iff_toInt_le.mpr ?_⟩
    rw [nI_toInt (by omega), hm]
    omega
theorem zidx1 {v : Int32} {N : Nat} (hN : N < 2 ^ 30) : (decide (nI 1 ≤ v) && decide (v ≤ nI N)) = true ↔ ∃ j, 1 ≤ j ∧ j ≤ N ∧ v = nI j := by
  simp only [Bool.and_eq_true, decide_eq_true_eq]
  constructor
  · rintro ⟨h1, h2⟩
    obtain ⟨j, hj, rfl⟩ := nI_of (x := v) (Int32.not_lt.mpr (Int32.le_trans (by decide) h1))
    exact ⟨j, (nI_leI (by omega) hj).mp h1, (nI_leI hj (by omega)).mp h2, rfl⟩
  · rintro ⟨j, h1, h2, rfl⟩
    exact ⟨nI_le h1 (by omega), nI_le h2 (by omega)⟩
theorem zbf {b : Bool} (h : ¬ b = true) : b = false := by cases b <;> simp_all
section M12
variable {E : zEnv} {κ α : Nat → Nat → Int32} {τ : (Nat → Nat → Int64) × (Nat → Nat)}
theorem l_add (d : Nat) {l : Int32} {D : Nat} {β : Nat → Nat → Int32} (hD : β 101 4 = nI D) (hD8 : D ≤ 8) (P : Option Value → zMem → Prop) (K : ∀ k', zfind (fun k => decide (zab (β 101 (24 + k)) = zab l)) 0 D = none → zX E (d + 4) mX9_add 65 [some (.ref 100), some (.int l), some k'] [] (κ, β, τ) P) (K2 : ¬ zfind (fun k => decide (zab (β 101 (24 + k)) = zab l)) 0 D = none → P (some (.int (-1))) (κ, β, τ)) : ∀ m k, k + m = D → zfind (fun k => decide (zab (β 101 (24 + k)) = zab l)) k m = zfind (fun k => decide (zab (β 101 (24 + k)) = zab l)) 0 D → zX E (d + 4) mX9_add 28 [some (.ref 100), some (.int l), some (.int (nI k))] [] (κ, β, τ) P := by
  intro m
  induction m with
  | zero =>
    intro k hk he
    refine x_iload_n (pc := 28) 2 dX9_add_28 rfl rfl ?_
    refine x_aload_n (pc := 29) 0 dX9_add_29 rfl rfl ?_
    refine x_getr (pc := 30) (101) dX9_add_30 fX9_7 (zat_b rfl rfl) rfl ?_
    refine x_iconst (pc := 33) (nI 4) dX9_add_33 (by decide) ?_
    have hj34 : 4 < 13326 := by omega
    refine x_iald_h (pc := 34) (4) dX9_add_34 (zar_b rfl rfl rfl) rfl (by first | rfl | simp only [pk_mul, nI_add] | simp only [zon, pk_mul, nI_add]) hj34 (Nat.lt_of_lt_of_le hj34 (by decide)) ?_
    rw [hD]
    refine x_icmp_ge_t (pc := 35) 65 dX9_add_35 (by decide) (nI_le (by omega) (by omega)) ?_
    exact K _ he.symm
  | succ m ih =>
    intro k hk he
    refine x_iload_n (pc := 28) 2 dX9_add_28 rfl rfl ?_
    refine x_aload_n (pc := 29) 0 dX9_add_29 rfl rfl ?_
    refine x_getr (pc := 30) (101) dX9_add_30 fX9_7 (zat_b rfl rfl) rfl ?_
    refine x_iconst (pc := 33) (nI 4) dX9_add_33 (by decide) ?_
    have hj34 : 4 < 13326 := by omega
    refine x_iald_h (pc := 34) (4) dX9_add_34 (zar_b rfl rfl rfl) rfl (by first | rfl | simp only [pk_mul, nI_add] | simp only [zon, pk_mul, nI_add]) hj34 (Nat.lt_of_lt_of_le hj34 (by decide)) ?_
    rw [hD]
    refine x_icmp_ge_f (pc := 35) 65 dX9_add_35 (by decide) (nI_ge (by omega) (by omega)) ?_
    refine x_aload_n (pc := 38) 0 dX9_add_38 rfl rfl ?_
    refine x_getr (pc := 39) (101) dX9_add_39 fX9_7 (zat_b rfl rfl) rfl ?_
    refine x_bipush (pc := 42) (nI 24) dX9_add_42 (by decide) ?_
    refine x_iload_n (pc := 44) 2 dX9_add_44 rfl rfl ?_
    refine x_iadd (pc := 45) dX9_add_45 ?_
    have hj46 : 24 + k < 13326 := by omega
    refine x_iald_h (pc := 46) (24 + k) dX9_add_46 (zar_b rfl rfl rfl) rfl (by first | rfl | simp only [pk_mul, nI_add] | simp only [zon, pk_mul, nI_add]) hj46 (Nat.lt_of_lt_of_le hj46 (by decide)) ?_
    refine x_callS1i (pc := 47) dX9_add_47 lX9_71 (t_size (d + 2) _) (Nat.le_of_ble_eq_true rfl) (Or.inl zgr) ?_
    refine x_iload_n (pc := 50) 1 dX9_add_50 rfl rfl ?_
    refine x_callS1i (pc := 51) dX9_add_51 lX9_71 (t_size (d + 2) _) (Nat.le_of_ble_eq_true rfl) (Or.inl zgr) ?_
    have step : zfind (fun k => decide (zab (β 101 (24 + k)) = zab l)) k (m + 1) = bif decide (zab (β 101 (24 + k)) = zab l) then some k else zfind (fun k => decide (zab (β 101 (24 + k)) = zab l)) (k + 1) m := rfl
    rw [step] at he
    by_cases h : zab (β 101 (24 + k)) = zab l
    · rw [decide_eq_true h] at he
      refine x_icmp_ne_f (pc := 54) 59 dX9_add_54 (by decide) (h) ?_
      refine x_iconst (pc := 57) (-1) dX9_add_57 (by decide) ?_
      refine x_iret (pc := 58) dX9_add_58 rfl ?_
      exact K2 (by rw [← he]; simp)
    · rw [decide_eq_false h] at he
      refine x_icmp_ne_t (pc := 54) 59 dX9_add_54 (by decide) (h) ?_
      refine x_iinc (pc := 59) (nI (k + 1)) dX9_add_59 rfl (zinc _) (by decide) rfl ?_
      refine x_goto (pc := 62) 28 dX9_add_62 (by decide) ?_
      exact ih (k + 1) (by omega) he
def a_add (α : Nat → Nat → Int32) (l : Int32) : Int32 × (Nat → Nat → Int32) :=
  if α 101 4 = nI 8 ∨ a_isLit α l = false ∨ ¬ zfind (fun k => decide (zab (α 101 (24 + k)) = zab l)) 0 (α 101 4).toNatClampNeg = none then (-1, a0 α)
  else (nI ((α 101 4).toNatClampNeg + 1), zup (zup (a0 α) 101 (24 + (α 101 4).toNatClampNeg) l) 101 4 (nI ((α 101 4).toNatClampNeg + 1)))
theorem t_add (d : Nat) (l : Int32) {D : Nat} (hD : α 101 4 = nI D) (hD8 : D ≤ 8) : zTr E (d + 4) mX9_add [.ref 100, .int l] (κ, α, τ) (some (.int (a_add α l).1)) (κ, (a_add α l).2, τ) := by
  have hDc : (α 101 4).toNatClampNeg = D := by rw [hD]; exact nI_clamp (by omega)
  have z : ∀ i, a0 α 101 i = α 101 i := fun i => zup_p (by decide)
  have hD0 : a0 α 101 4 = nI D := by rw [z]; exact hD
  have hL : a_isLit (a0 α) l = a_isLit α l := by unfold a_isLit a_isVar; rw [z]
  refine zM.tr (zM_of [some (.ref 100), some (.int l), none] (by decide) rfl (Nat.le_of_ble_eq_true rfl) ?_)
  unfold a_add
  rw [hDc]
  refine x_aload_n (pc := 0) 0 dX9_add_0 rfl rfl ?_
  refine x_iconst (pc := 1) (nI 0) dX9_add_1 (by decide) ?_
  refine x_puti_h (pc := 2) dX9_add_2 pX9_63 (zat_b rfl rfl) rfl rfl ?_
  refine x_aload_n (pc := 5) 0 dX9_add_5 rfl rfl ?_
  refine x_getr (pc := 6) (101) dX9_add_6 fX9_7 (zat_b rfl rfl) rfl ?_
  refine x_iconst (pc := 9) (nI 4) dX9_add_9 (by decide) ?_
  have hj10 : 4 < 13326 := by omega
  refine x_iald_h (pc := 10) (4) dX9_add_10 (zar_b rfl rfl rfl) rfl (by first | rfl | simp only [pk_mul, nI_add] | simp only [zon, pk_mul, nI_add]) hj10 (Nat.lt_of_lt_of_le hj10 (by decide)) ?_
  rw [show zup α 100 0 (nI 0) = a0 α from rfl, z, hD]
  by_cases h1 : nI D = nI 8
  ·
    refine x_bipush (pc := 11) (nI 8) dX9_add_11 (by decide) ?_
    refine x_icmp_eq_t (pc := 13) 24 dX9_add_13 (by decide) (h1) ?_
    refine x_iconst (pc := 24) (-1) dX9_add_24 (by decide) ?_
    refine x_iret (pc := 25) dX9_add_25 rfl ?_
    exact ⟨by rw [if_pos (Or.inl h1)], by rw [if_pos (Or.inl h1)]⟩
  ·
    refine x_bipush (pc := 11) (nI 8) dX9_add_11 (by decide) ?_
    refine x_icmp_eq_f (pc := 13) 24 dX9_add_13 (by decide) (h1) ?_
    refine x_aload_n (pc := 16) 0 dX9_add_16 rfl rfl ?_
    refine x_iload_n (pc := 17) 1 dX9_add_17 rfl rfl ?_
    refine x_callV1i (pc := 18) dX9_add_18 lX9_82 (zat_b rfl rfl) rfl (t_isLiteral d l) (Nat.le_of_ble_eq_true rfl) (Or.inl zgr) ?_
    show zX E (d + 4) mX9_add 21 _ [.int (zbo (a_isLit (a0 α) l))] (κ, a0 α, τ) _
    rw [hL]
    cases h2 : a_isLit α l with
    | false =>
      refine x_if_ne_f (pc := 21) 26 dX9_add_21 (by decide) (rfl) ?_
      refine x_iconst (pc := 24) (-1) dX9_add_24 (by decide) ?_
      refine x_iret (pc := 25) dX9_add_25 rfl ?_
      exact ⟨by rw [if_pos (Or.inr (Or.inl rfl))], by rw [if_pos (Or.inr (Or.inl rfl))]⟩
    | true =>
      refine x_if_ne_t (pc := 21) 26 dX9_add_21 (by decide) (by decide) ?_
      refine x_iconst (pc := 26) (nI 0) dX9_add_26 (by decide) ?_
      refine x_istore_n (pc := 27) 2 dX9_add_27 rfl (by decide) rfl ?_
      have hz : zfind (fun k => decide (zab (a0 α 101 (24 + k)) = zab l)) 0 D = zfind (fun k => decide (zab (α 101 (24 + k)) = zab l)) 0 D := by simp only [z]
      have hD7 : D < 8 := by
        rcases Nat.lt_or_ge D 8 with q | q
        · exact q
        · exact absurd (by rw [show D = 8 by omega]) h1
      refine l_add d hD0 hD8 _ (fun k' hk' => ?_) (fun hk' => ?_) D 0 (by omega) rfl
      · rw [hz] at hk'
        have hno : ¬ (nI D = nI 8 ∨ true = false ∨ ¬ zfind (fun k => decide (zab (α 101 (24 + k)) = zab l)) 0 D = none) := by simp [h1, hk']
        refine x_aload_n (pc := 65) 0 dX9_add_65 rfl rfl ?_
        refine x_getr (pc := 66) (101) dX9_add_66 fX9_7 (zat_b rfl rfl) rfl ?_
        refine x_bipush (pc := 69) (nI 24) dX9_add_69 (by decide) ?_
        refine x_aload_n (pc := 71) 0 dX9_add_71 rfl rfl ?_
        refine x_getr (pc := 72) (101) dX9_add_72 fX9_7 (zat_b rfl rfl) rfl ?_
        refine x_iconst (pc := 75) (nI 4) dX9_add_75 (by decide) ?_
        have hj76 : 4 < 13326 := by omega
        refine x_iald_h (pc := 76) (4) dX9_add_76 (zar_b rfl rfl rfl) rfl (by first | rfl | simp only [pk_mul, nI_add] | simp only [zon, pk_mul, nI_add]) hj76 (Nat.lt_of_lt_of_le hj76 (by decide)) ?_
        rw [hD0]
        refine x_iadd (pc := 77) dX9_add_77 ?_
        refine x_iload_n (pc := 78) 1 dX9_add_78 rfl rfl ?_
        have hj79 : 24 + D < 13326 := by omega
        refine x_iast_h (pc := 79) (24 + D) dX9_add_79 (zar_b rfl rfl rfl) rfl (by first | rfl | simp only [pk_mul, nI_add] | simp only [zon, pk_mul, nI_add]) hj79 (Nat.lt_of_lt_of_le hj79 (by decide)) ?_
        refine x_aload_n (pc := 80) 0 dX9_add_80 rfl rfl ?_
        refine x_getr (pc := 81) (101) dX9_add_81 fX9_7 (zat_b rfl rfl) rfl ?_
        refine x_iconst (pc := 84) (nI 4) dX9_add_84 (by decide) ?_
        refine x_dup2 (pc := 85) dX9_add_85 rfl rfl ?_
        have hj86 : 4 < 13326 := by omega
        refine x_iald_h (pc := 86) (4) dX9_add_86 (zar_b rfl rfl rfl) rfl (by first | rfl | simp only [pk_mul, nI_add] | simp only [zon, pk_mul, nI_add]) hj86 (Nat.lt_of_lt_of_le hj86 (by decide)) ?_
        rw [zup_i (by omega), hD0]
        refine x_iconst (pc := 87) (nI 1) dX9_add_87 (by decide) ?_
        refine x_iadd (pc := 88) dX9_add_88 ?_
        rw [nI_add]
        have hj89 : 4 < 13326 := by omega
        refine x_iast_h (pc := 89) (4) dX9_add_89 (zar_b rfl rfl rfl) rfl (by first | rfl | simp only [pk_mul, nI_add] | simp only [zon, pk_mul, nI_add]) hj89 (Nat.lt_of_lt_of_le hj89 (by decide)) ?_
        refine x_aload_n (pc := 90) 0 dX9_add_90 rfl rfl ?_
        refine x_getr (pc := 91) (101) dX9_add_91 fX9_7 (zat_b rfl rfl) rfl ?_
        refine x_iconst (pc := 94) (nI 4) dX9_add_94 (by decide) ?_
        have hj95 : 4 < 13326 := by omega
        refine x_iald_h (pc := 95) (4) dX9_add_95 (zar_b rfl rfl rfl) rfl (by first | rfl | simp only [pk_mul, nI_add] | simp only [zon, pk_mul, nI_add]) hj95 (Nat.lt_of_lt_of_le hj95 (by decide)) ?_
        rw [zup_same]
        refine x_iret (pc := 96) dX9_add_96 rfl ?_
        exact ⟨by rw [if_neg hno], by rw [if_neg hno]⟩
      · rw [hz] at hk'
        exact ⟨by rw [if_pos (Or.inr (Or.inr hk'))], by rw [if_pos (Or.inr (Or.inr hk'))]⟩
theorem l_assume (d : Nat) {l : Int32} {D : Nat} {β : Nat → Nat → Int32} (hD : β 101 3 = nI D) (hD8 : D ≤ 8) (P : Option Value → zMem → Prop) (K : ∀ k', zfind (fun k => decide (zab (β 101 (16 + k)) = zab l)) 0 D = none → zX E (d + 4) mX9_assume 65 [some (.ref 100), some (.int l), some k'] [] (κ, β, τ) P) (K2 : ¬ zfind (fun k => decide (zab (β 101 (16 + k)) = zab l)) 0 D = none → P (some (.int (-1))) (κ, β, τ)) : ∀ m k, k + m = D → zfind (fun k => decide (zab (β 101 (16 + k)) = zab l)) k m = zfind (fun k => decide (zab (β 101 (16 + k)) = zab l)) 0 D → zX E (d + 4) mX9_assume 28 [some (.ref 100), some (.int l), some (.int (nI k))] [] (κ, β, τ) P := by
  intro m
  induction m with
  | zero =>
    intro k hk he
    refine x_iload_n (pc := 28) 2 dX9_assume_28 rfl rfl ?_
    refine x_aload_n (pc := 29) 0 dX9_assume_29 rfl rfl ?_
    refine x_getr (pc := 30) (101) dX9_assume_30 fX9_7 (zat_b rfl rfl) rfl ?_
    refine x_iconst (pc := 33) (nI 3) dX9_assume_33 (by decide) ?_
    have hj34 : 3 < 13326 := by omega
    refine x_iald_h (pc := 34) (3) dX9_assume_34 (zar_b rfl rfl rfl) rfl (by first | rfl | simp only [pk_mul, nI_add] | simp only [zon, pk_mul, nI_add]) hj34 (Nat.lt_of_lt_of_le hj34 (by decide)) ?_
    rw [hD]
    refine x_icmp_ge_t (pc := 35) 65 dX9_assume_35 (by decide) (nI_le (by omega) (by omega)) ?_
    exact K _ he.symm
  | succ m ih =>
    intro k hk he
    refine x_iload_n (pc := 28) 2 dX9_assume_28 rfl rfl ?_
    refine x_aload_n (pc := 29) 0 dX9_assume_29 rfl rfl ?_
    refine x_getr (pc := 30) (101) dX9_assume_30 fX9_7 (zat_b rfl rfl) rfl ?_
    refine x_iconst (pc := 33) (nI 3) dX9_assume_33 (by decide) ?_
    have hj34 : 3 < 13326 := by omega
    refine x_iald_h (pc := 34) (3) dX9_assume_34 (zar_b rfl rfl rfl) rfl (by first | rfl | simp only [pk_mul, nI_add] | simp only [zon, pk_mul, nI_add]) hj34 (Nat.lt_of_lt_of_le hj34 (by decide)) ?_
    rw [hD]
    refine x_icmp_ge_f (pc := 35) 65 dX9_assume_35 (by decide) (nI_ge (by omega) (by omega)) ?_
    refine x_aload_n (pc := 38) 0 dX9_assume_38 rfl rfl ?_
    refine x_getr (pc := 39) (101) dX9_assume_39 fX9_7 (zat_b rfl rfl) rfl ?_
    refine x_bipush (pc := 42) (nI 16) dX9_assume_42 (by decide) ?_
    refine x_iload_n (pc := 44) 2 dX9_assume_44 rfl rfl ?_
    refine x_iadd (pc := 45) dX9_assume_45 ?_
    have hj46 : 16 + k < 13326 := by omega
    refine x_iald_h (pc := 46) (16 + k) dX9_assume_46 (zar_b rfl rfl rfl) rfl (by first | rfl | simp only [pk_mul, nI_add] | simp only [zon, pk_mul, nI_add]) hj46 (Nat.lt_of_lt_of_le hj46 (by decide)) ?_
    refine x_callS1i (pc := 47) dX9_assume_47 lX9_71 (t_size (d + 2) _) (Nat.le_of_ble_eq_true rfl) (Or.inl zgr) ?_
    refine x_iload_n (pc := 50) 1 dX9_assume_50 rfl rfl ?_
    refine x_callS1i (pc := 51) dX9_assume_51 lX9_71 (t_size (d + 2) _) (Nat.le_of_ble_eq_true rfl) (Or.inl zgr) ?_
    have step : zfind (fun k => decide (zab (β 101 (16 + k)) = zab l)) k (m + 1) = bif decide (zab (β 101 (16 + k)) = zab l) then some k else zfind (fun k => decide (zab (β 101 (16 + k)) = zab l)) (k + 1) m := rfl
    rw [step] at he
    by_cases h : zab (β 101 (16 + k)) = zab l
    · rw [decide_eq_true h] at he
      refine x_icmp_ne_f (pc := 54) 59 dX9_assume_54 (by decide) (h) ?_
      refine x_iconst (pc := 57) (-1) dX9_assume_57 (by decide) ?_
      refine x_iret (pc := 58) dX9_assume_58 rfl ?_
      exact K2 (by rw [← he]; simp)
    · rw [decide_eq_false h] at he
      refine x_icmp_ne_t (pc := 54) 59 dX9_assume_54 (by decide) (h) ?_
      refine x_iinc (pc := 59) (nI (k + 1)) dX9_assume_59 rfl (zinc _) (by decide) rfl ?_
      refine x_goto (pc := 62) 28 dX9_assume_62 (by decide) ?_
      exact ih (k + 1) (by omega) he
def a_assume (α : Nat → Nat → Int32) (l : Int32) : Int32 × (Nat → Nat → Int32) :=
  if α 101 3 = nI 8 ∨ a_isLit α l = false ∨ ¬ zfind (fun k => decide (zab (α 101 (16 + k)) = zab l)) 0 (α 101 3).toNatClampNeg = none then (-1, a0 α)
  else (nI ((α 101 3).toNatClampNeg + 1), zup (zup (a0 α) 101 (16 + (α 101 3).toNatClampNeg) l) 101 3 (nI ((α 101 3).toNatClampNeg + 1)))
theorem t_assume (d : Nat) (l : Int32) {D : Nat} (hD : α 101 3 = nI D) (hD8 : D ≤ 8) : zTr E (d + 4) mX9_assume [.ref 100, .int l] (κ, α, τ) (some (.int (a_assume α l).1)) (κ, (a_assume α l).2, τ) := by
  have hDc : (α 101 3).toNatClampNeg = D := by rw [hD]; exact nI_clamp (by omega)
  have z : ∀ i, a0 α 101 i = α 101 i := fun i => zup_p (by decide)
  have hD0 : a0 α 101 3 = nI D := by rw [z]; exact hD
  have hL : a_isLit (a0 α) l = a_isLit α l := by unfold a_isLit a_isVar; rw [z]
  refine zM.tr (zM_of [some (.ref 100), some (.int l), none] (by decide) rfl (Nat.le_of_ble_eq_true rfl) ?_)
  unfold a_assume
  rw [hDc]
  refine x_aload_n (pc := 0) 0 dX9_assume_0 rfl rfl ?_
  refine x_iconst (pc := 1) (nI 0) dX9_assume_1 (by decide) ?_
  refine x_puti_h (pc := 2) dX9_assume_2 pX9_63 (zat_b rfl rfl) rfl rfl ?_
  refine x_aload_n (pc := 5) 0 dX9_assume_5 rfl rfl ?_
  refine x_getr (pc := 6) (101) dX9_assume_6 fX9_7 (zat_b rfl rfl) rfl ?_
  refine x_iconst (pc := 9) (nI 3) dX9_assume_9 (by decide) ?_
  have hj10 : 3 < 13326 := by omega
  refine x_iald_h (pc := 10) (3) dX9_assume_10 (zar_b rfl rfl rfl) rfl (by first | rfl | simp only [pk_mul, nI_add] | simp only [zon, pk_mul, nI_add]) hj10 (Nat.lt_of_lt_of_le hj10 (by decide)) ?_
  rw [show zup α 100 0 (nI 0) = a0 α from rfl, z, hD]
  by_cases h1 : nI D = nI 8
  ·
    refine x_bipush (pc := 11) (nI 8) dX9_assume_11 (by decide) ?_
    refine x_icmp_eq_t (pc := 13) 24 dX9_assume_13 (by decide) (h1) ?_
    refine x_iconst (pc := 24) (-1) dX9_assume_24 (by decide) ?_
    refine x_iret (pc := 25) dX9_assume_25 rfl ?_
    exact ⟨by rw [if_pos (Or.inl h1)], by rw [if_pos (Or.inl h1)]⟩
  ·
    refine x_bipush (pc := 11) (nI 8) dX9_assume_11 (by decide) ?_
    refine x_icmp_eq_f (pc := 13) 24 dX9_assume_13 (by decide) (h1) ?_
    refine x_aload_n (pc := 16) 0 dX9_assume_16 rfl rfl ?_
    refine x_iload_n (pc := 17) 1 dX9_assume_17 rfl rfl ?_
    refine x_callV1i (pc := 18) dX9_assume_18 lX9_82 (zat_b rfl rfl) rfl (t_isLiteral d l) (Nat.le_of_ble_eq_true rfl) (Or.inl zgr) ?_
    show zX E (d + 4) mX9_assume 21 _ [.int (zbo (a_isLit (a0 α) l))] (κ, a0 α, τ) _
    rw [hL]
    cases h2 : a_isLit α l with
    | false =>
      refine x_if_ne_f (pc := 21) 26 dX9_assume_21 (by decide) (rfl) ?_
      refine x_iconst (pc := 24) (-1) dX9_assume_24 (by decide) ?_
      refine x_iret (pc := 25) dX9_assume_25 rfl ?_
      exact ⟨by rw [if_pos (Or.inr (Or.inl rfl))], by rw [if_pos (Or.inr (Or.inl rfl))]⟩
    | true =>
      refine x_if_ne_t (pc := 21) 26 dX9_assume_21 (by decide) (by decide) ?_
      refine x_iconst (pc := 26) (nI 0) dX9_assume_26 (by decide) ?_
      refine x_istore_n (pc := 27) 2 dX9_assume_27 rfl (by decide) rfl ?_
      have hz : zfind (fun k => decide (zab (a0 α 101 (16 + k)) = zab l)) 0 D = zfind (fun k => decide (zab (α 101 (16 + k)) = zab l)) 0 D := by simp only [z]
      have hD7 : D < 8 := by
        rcases Nat.lt_or_ge D 8 with q | q
        · exact q
        · exact absurd (by rw [show D = 8 by omega]) h1
      refine l_assume d hD0 hD8 _ (fun k' hk' => ?_) (fun hk' => ?_) D 0 (by omega) rfl
      · rw [hz] at hk'
        have hno : ¬ (nI D = nI 8 ∨ true = false ∨ ¬ zfind (fun k => decide (zab (α 101 (16 + k)) = zab l)) 0 D = none) := by simp [h1, hk']
        refine x_aload_n (pc := 65) 0 dX9_assume_65 rfl rfl ?_
        refine x_getr (pc := 66) (101) dX9_assume_66 fX9_7 (zat_b rfl rfl) rfl ?_
        refine x_bipush (pc := 69) (nI 16) dX9_assume_69 (by decide) ?_
        refine x_aload_n (pc := 71) 0 dX9_assume_71 rfl rfl ?_
        refine x_getr (pc := 72) (101) dX9_assume_72 fX9_7 (zat_b rfl rfl) rfl ?_
        refine x_iconst (pc := 75) (nI 3) dX9_assume_75 (by decide) ?_
        have hj76 : 3 < 13326 := by omega
        refine x_iald_h (pc := 76) (3) dX9_assume_76 (zar_b rfl rfl rfl) rfl (by first | rfl | simp only [pk_mul, nI_add] | simp only [zon, pk_mul, nI_add]) hj76 (Nat.lt_of_lt_of_le hj76 (by decide)) ?_
        rw [hD0]
        refine x_iadd (pc := 77) dX9_assume_77 ?_
        refine x_iload_n (pc := 78) 1 dX9_assume_78 rfl rfl ?_
        have hj79 : 16 + D < 13326 := by omega
        refine x_iast_h (pc := 79) (16 + D) dX9_assume_79 (zar_b rfl rfl rfl) rfl (by first | rfl | simp only [pk_mul, nI_add] | simp only [zon, pk_mul, nI_add]) hj79 (Nat.lt_of_lt_of_le hj79 (by decide)) ?_
        refine x_aload_n (pc := 80) 0 dX9_assume_80 rfl rfl ?_
        refine x_getr (pc := 81) (101) dX9_assume_81 fX9_7 (zat_b rfl rfl) rfl ?_
        refine x_iconst (pc := 84) (nI 3) dX9_assume_84 (by decide) ?_
        refine x_dup2 (pc := 85) dX9_assume_85 rfl rfl ?_
        have hj86 : 3 < 13326 := by omega
        refine x_iald_h (pc := 86) (3) dX9_assume_86 (zar_b rfl rfl rfl) rfl (by first | rfl | simp only [pk_mul, nI_add] | simp only [zon, pk_mul, nI_add]) hj86 (Nat.lt_of_lt_of_le hj86 (by decide)) ?_
        rw [zup_i (by omega), hD0]
        refine x_iconst (pc := 87) (nI 1) dX9_assume_87 (by decide) ?_
        refine x_iadd (pc := 88) dX9_assume_88 ?_
        rw [nI_add]
        have hj89 : 3 < 13326 := by omega
        refine x_iast_h (pc := 89) (3) dX9_assume_89 (zar_b rfl rfl rfl) rfl (by first | rfl | simp only [pk_mul, nI_add] | simp only [zon, pk_mul, nI_add]) hj89 (Nat.lt_of_lt_of_le hj89 (by decide)) ?_
        refine x_aload_n (pc := 90) 0 dX9_assume_90 rfl rfl ?_
        refine x_getr (pc := 91) (101) dX9_assume_91 fX9_7 (zat_b rfl rfl) rfl ?_
        refine x_iconst (pc := 94) (nI 3) dX9_assume_94 (by decide) ?_
        have hj95 : 3 < 13326 := by omega
        refine x_iald_h (pc := 95) (3) dX9_assume_95 (zar_b rfl rfl rfl) rfl (by first | rfl | simp only [pk_mul, nI_add] | simp only [zon, pk_mul, nI_add]) hj95 (Nat.lt_of_lt_of_le hj95 (by decide)) ?_
        rw [zup_same]
        refine x_iret (pc := 96) dX9_assume_96 rfl ?_
        exact ⟨by rw [if_neg hno], by rw [if_neg hno]⟩
      · rw [hz] at hk'
        exact ⟨by rw [if_pos (Or.inr (Or.inr hk'))], by rw [if_pos (Or.inr (Or.inr hk'))]⟩
def a_grows (α : Nat → Nat → Int32) (n : Int32) : Int32 × (Nat → Nat → Int32) := if nI 1 ≤ n ∧ n ≤ nI 30 - α 101 0 then (α 101 0 + n, zup α 101 0 (α 101 0 + n)) else (-1, α)
theorem t_grows (d : Nat) (n : Int32) : zTr E (d + 1) mX9_grows [.ref 100, .int n] (κ, α, τ) (some (.int (a_grows α n).1)) (κ, (a_grows α n).2, τ) := by
  refine zM.tr (zM_of [some (.ref 100), some (.int n)] (by decide) rfl (Nat.le_of_ble_eq_true rfl) ?_)
  unfold a_grows
  by_cases h1 : nI 1 ≤ n
  · by_cases h2 : n ≤ nI 30 - α 101 0
    · rw [if_pos ⟨h1, h2⟩]
      refine x_iload_n (pc := 0) 1 dX9_grows_0 rfl rfl ?_
      refine x_iconst (pc := 1) (nI 1) dX9_grows_1 (by decide) ?_
      refine x_icmp_lt_f (pc := 2) 18 dX9_grows_2 (by decide) (Int32.not_lt.mpr h1) ?_
      refine x_iload_n (pc := 5) 1 dX9_grows_5 rfl rfl ?_
      refine x_bipush (pc := 6) (nI 30) dX9_grows_6 (by decide) ?_
      refine x_aload_n (pc := 8) 0 dX9_grows_8 rfl rfl ?_
      refine x_getr (pc := 9) (101) dX9_grows_9 fX9_7 (zat_b rfl rfl) rfl ?_
      refine x_iconst (pc := 12) (nI 0) dX9_grows_12 (by decide) ?_
      have hj13 : 0 < 13326 := by omega
      refine x_iald_h (pc := 13) (0) dX9_grows_13 (zar_b rfl rfl rfl) rfl (by first | rfl | simp only [pk_mul, nI_add] | simp only [zon, pk_mul, nI_add]) hj13 (Nat.lt_of_lt_of_le hj13 (by decide)) ?_
      refine x_isub (pc := 14) dX9_grows_14 ?_
      refine x_icmp_le_t (pc := 15) 20 dX9_grows_15 (by decide) (h2) ?_
      refine x_aload_n (pc := 20) 0 dX9_grows_20 rfl rfl ?_
      refine x_getr (pc := 21) (101) dX9_grows_21 fX9_7 (zat_b rfl rfl) rfl ?_
      refine x_iconst (pc := 24) (nI 0) dX9_grows_24 (by decide) ?_
      refine x_dup2 (pc := 25) dX9_grows_25 rfl rfl ?_
      have hj26 : 0 < 13326 := by omega
      refine x_iald_h (pc := 26) (0) dX9_grows_26 (zar_b rfl rfl rfl) rfl (by first | rfl | simp only [pk_mul, nI_add] | simp only [zon, pk_mul, nI_add]) hj26 (Nat.lt_of_lt_of_le hj26 (by decide)) ?_
      refine x_iload_n (pc := 27) 1 dX9_grows_27 rfl rfl ?_
      refine x_iadd (pc := 28) dX9_grows_28 ?_
      have hj29 : 0 < 13326 := by omega
      refine x_iast_h (pc := 29) (0) dX9_grows_29 (zar_b rfl rfl rfl) rfl (by first | rfl | simp only [pk_mul, nI_add] | simp only [zon, pk_mul, nI_add]) hj29 (Nat.lt_of_lt_of_le hj29 (by decide)) ?_
      refine x_aload_n (pc := 30) 0 dX9_grows_30 rfl rfl ?_
      refine x_getr (pc := 31) (101) dX9_grows_31 fX9_7 (zat_b rfl rfl) rfl ?_
      refine x_iconst (pc := 34) (nI 0) dX9_grows_34 (by decide) ?_
      have hj35 : 0 < 13326 := by omega
      refine x_iald_h (pc := 35) (0) dX9_grows_35 (zar_b rfl rfl rfl) rfl (by first | rfl | simp only [pk_mul, nI_add] | simp only [zon, pk_mul, nI_add]) hj35 (Nat.lt_of_lt_of_le hj35 (by decide)) ?_
      rw [zup_same]
      refine x_iret (pc := 36) dX9_grows_36 rfl ?_
      exact ⟨rfl, rfl⟩
    · rw [if_neg (fun q => h2 q.2)]
      refine x_iload_n (pc := 0) 1 dX9_grows_0 rfl rfl ?_
      refine x_iconst (pc := 1) (nI 1) dX9_grows_1 (by decide) ?_
      refine x_icmp_lt_f (pc := 2) 18 dX9_grows_2 (by decide) (Int32.not_lt.mpr h1) ?_
      refine x_iload_n (pc := 5) 1 dX9_grows_5 rfl rfl ?_
      refine x_bipush (pc := 6) (nI 30) dX9_grows_6 (by decide) ?_
      refine x_aload_n (pc := 8) 0 dX9_grows_8 rfl rfl ?_
      refine x_getr (pc := 9) (101) dX9_grows_9 fX9_7 (zat_b rfl rfl) rfl ?_
      refine x_iconst (pc := 12) (nI 0) dX9_grows_12 (by decide) ?_
      have hj13 : 0 < 13326 := by omega
      refine x_iald_h (pc := 13) (0) dX9_grows_13 (zar_b rfl rfl rfl) rfl (by first | rfl | simp only [pk_mul, nI_add] | simp only [zon, pk_mul, nI_add]) hj13 (Nat.lt_of_lt_of_le hj13 (by decide)) ?_
      refine x_isub (pc := 14) dX9_grows_14 ?_
      refine x_icmp_le_f (pc := 15) 20 dX9_grows_15 (by decide) (h2) ?_
      refine x_iconst (pc := 18) (-1) dX9_grows_18 (by decide) ?_
      refine x_iret (pc := 19) dX9_grows_19 rfl ?_
      exact ⟨rfl, rfl⟩
  · rw [if_neg (fun q => h1 q.1)]
    refine x_iload_n (pc := 0) 1 dX9_grows_0 rfl rfl ?_
    refine x_iconst (pc := 1) (nI 1) dX9_grows_1 (by decide) ?_
    refine x_icmp_lt_t (pc := 2) 18 dX9_grows_2 (by decide) (Int32.not_le.mp h1) ?_
    refine x_iconst (pc := 18) (-1) dX9_grows_18 (by decide) ?_
    refine x_iret (pc := 19) dX9_grows_19 rfl ?_
    exact ⟨rfl, rfl⟩
theorem t_grow (d : Nat) (n : Int32) : zTr E (d + 2) mX9_grow [.ref 100, .int n] (κ, α, τ) (some (.int (a_grows (a0 α) n).1)) (κ, (a_grows (a0 α) n).2, τ) := by
  refine zM.tr (zM_of [some (.ref 100), some (.int n)] (by decide) rfl (Nat.le_of_ble_eq_true rfl) ?_)
  refine x_aload_n (pc := 0) 0 dX9_grow_0 rfl rfl ?_
  refine x_iconst (pc := 1) (nI 0) dX9_grow_1 (by decide) ?_
  refine x_puti_h (pc := 2) dX9_grow_2 pX9_63 (zat_b rfl rfl) rfl rfl ?_
  refine x_aload_n (pc := 5) 0 dX9_grow_5 rfl rfl ?_
  refine x_iload_n (pc := 6) 1 dX9_grow_6 rfl rfl ?_
  refine x_callV1i (pc := 7) dX9_grow_7 lX9_79 (zat_b rfl rfl) rfl (t_grows d n) (Nat.le_of_ble_eq_true rfl) (Or.inl zgr) ?_
  refine x_iret (pc := 10) dX9_grow_10 rfl ?_
  exact ⟨rfl, rfl⟩
theorem t_free (d : Nat) : zTr E (d + 1) mX9_free [.ref 100] (κ, α, τ) (some (.int (α 101 3))) (κ, zup (a0 α) 101 3 (nI 0), τ) := by
  refine zM.tr (zM_of [some (.ref 100), none] (by decide) rfl (Nat.le_of_ble_eq_true rfl) ?_)
  refine x_aload_n (pc := 0) 0 dX9_free_0 rfl rfl ?_
  refine x_iconst (pc := 1) (nI 0) dX9_free_1 (by decide) ?_
  refine x_puti_h (pc := 2) dX9_free_2 pX9_63 (zat_b rfl rfl) rfl rfl ?_
  refine x_aload_n (pc := 5) 0 dX9_free_5 rfl rfl ?_
  refine x_getr (pc := 6) (101) dX9_free_6 fX9_7 (zat_b rfl rfl) rfl ?_
  refine x_iconst (pc := 9) (nI 3) dX9_free_9 (by decide) ?_
  have hj10 : 3 < 13326 := by omega
  refine x_iald_h (pc := 10) (3) dX9_free_10 (zar_b rfl rfl rfl) rfl (by first | rfl | simp only [pk_mul, nI_add] | simp only [zon, pk_mul, nI_add]) hj10 (Nat.lt_of_lt_of_le hj10 (by decide)) ?_
  refine x_istore_n (pc := 11) 1 dX9_free_11 rfl (by decide) rfl ?_
  refine x_aload_n (pc := 12) 0 dX9_free_12 rfl rfl ?_
  refine x_getr (pc := 13) (101) dX9_free_13 fX9_7 (zat_b rfl rfl) rfl ?_
  refine x_iconst (pc := 16) (nI 3) dX9_free_16 (by decide) ?_
  refine x_iconst (pc := 17) (nI 0) dX9_free_17 (by decide) ?_
  have hj18 : 3 < 13326 := by omega
  refine x_iast_h (pc := 18) (3) dX9_free_18 (zar_b rfl rfl rfl) rfl (by first | rfl | simp only [pk_mul, nI_add] | simp only [zon, pk_mul, nI_add]) hj18 (Nat.lt_of_lt_of_le hj18 (by decide)) ?_
  refine x_iload_n (pc := 19) 1 dX9_free_19 rfl rfl ?_
  refine x_iret (pc := 20) dX9_free_20 rfl ?_
  exact ⟨by rw [zup_p (by decide)], rfl⟩
theorem t_core (d : Nat) : zTr E (d + 1) mX9_core [.ref 100] (κ, α, τ) (some (.int (α 101 13))) (κ, a0 α, τ) := by
  refine zM.tr (zM_of [some (.ref 100)] (by decide) rfl (Nat.le_of_ble_eq_true rfl) ?_)
  refine x_aload_n (pc := 0) 0 dX9_core_0 rfl rfl ?_
  refine x_iconst (pc := 1) (nI 0) dX9_core_1 (by decide) ?_
  refine x_puti_h (pc := 2) dX9_core_2 pX9_63 (zat_b rfl rfl) rfl rfl ?_
  refine x_aload_n (pc := 5) 0 dX9_core_5 rfl rfl ?_
  refine x_getr (pc := 6) (101) dX9_core_6 fX9_7 (zat_b rfl rfl) rfl ?_
  refine x_bipush (pc := 9) (nI 13) dX9_core_9 (by decide) ?_
  have hj11 : 13 < 13326 := by omega
  refine x_iald_h (pc := 11) (13) dX9_core_11 (zar_b rfl rfl rfl) rfl (by first | rfl | simp only [pk_mul, nI_add] | simp only [zon, pk_mul, nI_add]) hj11 (Nat.lt_of_lt_of_le hj11 (by decide)) ?_
  refine x_iret (pc := 12) dX9_core_12 rfl ?_
  exact ⟨by rw [zup_p (by decide)], rfl⟩
theorem t_closed (d : Nat) : zTr E (d + 1) mX9_closed [.ref 100] (κ, α, τ) (some (.int (α 101 15))) (κ, a0 α, τ) := by
  refine zM.tr (zM_of [some (.ref 100)] (by decide) rfl (Nat.le_of_ble_eq_true rfl) ?_)
  refine x_aload_n (pc := 0) 0 dX9_closed_0 rfl rfl ?_
  refine x_iconst (pc := 1) (nI 0) dX9_closed_1 (by decide) ?_
  refine x_puti_h (pc := 2) dX9_closed_2 pX9_63 (zat_b rfl rfl) rfl rfl ?_
  refine x_aload_n (pc := 5) 0 dX9_closed_5 rfl rfl ?_
  refine x_getr (pc := 6) (101) dX9_closed_6 fX9_7 (zat_b rfl rfl) rfl ?_
  refine x_bipush (pc := 9) (nI 15) dX9_closed_9 (by decide) ?_
  have hj11 : 15 < 13326 := by omega
  refine x_iald_h (pc := 11) (15) dX9_closed_11 (zar_b rfl rfl rfl) rfl (by first | rfl | simp only [pk_mul, nI_add] | simp only [zon, pk_mul, nI_add]) hj11 (Nat.lt_of_lt_of_le hj11 (by decide)) ?_
  refine x_iret (pc := 12) dX9_closed_12 rfl ?_
  exact ⟨by rw [zup_p (by decide)], rfl⟩
theorem t_fault (d : Nat) : zTr E (d + 1) mX9_fault [.ref 100] (κ, α, τ) (some (.int (α 100 25))) (κ, a0 α, τ) := by
  refine zM.tr (zM_of [some (.ref 100)] (by decide) rfl (Nat.le_of_ble_eq_true rfl) ?_)
  refine x_aload_n (pc := 0) 0 dX9_fault_0 rfl rfl ?_
  refine x_iconst (pc := 1) (nI 0) dX9_fault_1 (by decide) ?_
  refine x_puti_h (pc := 2) dX9_fault_2 pX9_63 (zat_b rfl rfl) rfl rfl ?_
  refine x_aload_n (pc := 5) 0 dX9_fault_5 rfl rfl ?_
  refine x_geti_h (pc := 6) dX9_fault_6 fX9_220 (zat_b rfl rfl) rfl rfl ?_
  refine x_iret (pc := 9) dX9_fault_9 rfl ?_
  exact ⟨by rw [zup_i (by decide)], rfl⟩
theorem t_thrown (d : Nat) : zTr E (d + 1) mX9_thrown [.ref 100] (κ, α, τ) (some (.int (α 100 0))) (κ, α, τ) := by
  refine zM.tr (zM_of [some (.ref 100)] (by decide) rfl (Nat.le_of_ble_eq_true rfl) ?_)
  refine x_aload_n (pc := 0) 0 dX9_thrown_0 rfl rfl ?_
  refine x_geti_h (pc := 1) dX9_thrown_1 fX9_63 (zat_b rfl rfl) rfl rfl ?_
  refine x_iret (pc := 4) dX9_thrown_4 rfl ?_
  exact ⟨rfl, rfl⟩
def a_end (α : Nat → Nat → Int32) (n : Int32) : Int32 × (Nat → Nat → Int32) := if (decide (nI 0 ≤ n) && decide (n ≤ α 100 22)) = true then (nI 1, zup (a0 α) 100 22 n) else (nI 0, a0 α)
theorem t_end (d : Nat) (n : Int32) : zTr E (d + 2) mX9_end [.ref 100, .int n] (κ, α, τ) (some (.int (a_end α n).1)) (κ, (a_end α n).2, τ) := by
  refine zM.tr (zM_of [some (.ref 100), some (.int n)] (by decide) rfl (Nat.le_of_ble_eq_true rfl) ?_)
  unfold a_end
  refine x_aload_n (pc := 0) 0 dX9_end_0 rfl rfl ?_
  refine x_iconst (pc := 1) (nI 0) dX9_end_1 (by decide) ?_
  refine x_puti_h (pc := 2) dX9_end_2 pX9_63 (zat_b rfl rfl) rfl rfl ?_
  refine x_iload_n (pc := 5) 1 dX9_end_5 rfl rfl ?_
  refine x_iconst (pc := 6) (nI 0) dX9_end_6 (by decide) ?_
  refine x_aload_n (pc := 7) 0 dX9_end_7 rfl rfl ?_
  refine x_geti_h (pc := 8) dX9_end_8 fX9_192 (zat_b rfl rfl) rfl rfl ?_
  rw [zup_i (by decide)]
  refine x_callS3i (pc := 11) dX9_end_11 lX9_67 (t_isIn d _ _ _) (Nat.le_of_ble_eq_true rfl) (Or.inl zgr) ?_
  by_cases h : (decide (nI 0 ≤ n) && decide (n ≤ α 100 22)) = true
  · rw [if_pos h, h]
    refine x_if_ne_t (pc := 14) 19 dX9_end_14 (by decide) (by decide) ?_
    refine x_aload_n (pc := 19) 0 dX9_end_19 rfl rfl ?_
    refine x_iload_n (pc := 20) 1 dX9_end_20 rfl rfl ?_
    refine x_puti_h (pc := 21) dX9_end_21 pX9_192 (zat_b rfl rfl) rfl rfl ?_
    refine x_iconst (pc := 24) (nI 1) dX9_end_24 (by decide) ?_
    refine x_zret (pc := 25) dX9_end_25 rfl (by decide) ?_
    exact ⟨rfl, rfl⟩
  · rw [if_neg h, zbf h]
    refine x_if_ne_f (pc := 14) 19 dX9_end_14 (by decide) (rfl) ?_
    refine x_iconst (pc := 17) (nI 0) dX9_end_17 (by decide) ?_
    refine x_zret (pc := 18) dX9_end_18 rfl (by decide) ?_
    exact ⟨rfl, rfl⟩
def a_unit (α : Nat → Nat → Int32) (n : Int32) : Int32 × (Nat → Nat → Int32) := if (decide (nI 0 ≤ n) && decide (n ≤ nI 50)) = true ∧ ¬ α 101 5 = n then (nI 1, zup (a0 α) 101 5 n) else (nI 0, a0 α)
theorem t_unit (d : Nat) (n : Int32) : zTr E (d + 2) mX9_unit [.ref 100, .int n] (κ, α, τ) (some (.int (a_unit α n).1)) (κ, (a_unit α n).2, τ) := by
  refine zM.tr (zM_of [some (.ref 100), some (.int n)] (by decide) rfl (Nat.le_of_ble_eq_true rfl) ?_)
  unfold a_unit
  refine x_aload_n (pc := 0) 0 dX9_unit_0 rfl rfl ?_
  refine x_iconst (pc := 1) (nI 0) dX9_unit_1 (by decide) ?_
  refine x_puti_h (pc := 2) dX9_unit_2 pX9_63 (zat_b rfl rfl) rfl rfl ?_
  refine x_iload_n (pc := 5) 1 dX9_unit_5 rfl rfl ?_
  refine x_iconst (pc := 6) (nI 0) dX9_unit_6 (by decide) ?_
  refine x_bipush (pc := 7) (nI 50) dX9_unit_7 (by decide) ?_
  refine x_callS3i (pc := 9) dX9_unit_9 lX9_67 (t_isIn d _ _ _) (Nat.le_of_ble_eq_true rfl) (Or.inl zgr) ?_
  by_cases h : (decide (nI 0 ≤ n) && decide (n ≤ nI 50)) = true
  · rw [h]
    refine x_if_eq_f (pc := 12) 25 dX9_unit_12 (by decide) (by decide) ?_
    refine x_aload_n (pc := 15) 0 dX9_unit_15 rfl rfl ?_
    refine x_getr (pc := 16) (101) dX9_unit_16 fX9_7 (zat_b rfl rfl) rfl ?_
    refine x_iconst (pc := 19) (nI 5) dX9_unit_19 (by decide) ?_
    have hj20 : 5 < 13326 := by omega
    refine x_iald_h (pc := 20) (5) dX9_unit_20 (zar_b rfl rfl rfl) rfl (by first | rfl | simp only [pk_mul, nI_add] | simp only [zon, pk_mul, nI_add]) hj20 (Nat.lt_of_lt_of_le hj20 (by decide)) ?_
    rw [zup_p (by decide)]
    by_cases h2 : α 101 5 = n
    · rw [if_neg (fun q => q.2 h2)]
      refine x_iload_n (pc := 21) 1 dX9_unit_21 rfl rfl ?_
      refine x_icmp_ne_f (pc := 22) 27 dX9_unit_22 (by decide) (h2) ?_
      refine x_iconst (pc := 25) (nI 0) dX9_unit_25 (by decide) ?_
      refine x_zret (pc := 26) dX9_unit_26 rfl (by decide) ?_
      exact ⟨rfl, rfl⟩
    · rw [if_pos ⟨rfl, h2⟩]
      refine x_iload_n (pc := 21) 1 dX9_unit_21 rfl rfl ?_
      refine x_icmp_ne_t (pc := 22) 27 dX9_unit_22 (by decide) (h2) ?_
      refine x_aload_n (pc := 27) 0 dX9_unit_27 rfl rfl ?_
      refine x_getr (pc := 28) (101) dX9_unit_28 fX9_7 (zat_b rfl rfl) rfl ?_
      refine x_iconst (pc := 31) (nI 5) dX9_unit_31 (by decide) ?_
      refine x_iload_n (pc := 32) 1 dX9_unit_32 rfl rfl ?_
      have hj33 : 5 < 13326 := by omega
      refine x_iast_h (pc := 33) (5) dX9_unit_33 (zar_b rfl rfl rfl) rfl (by first | rfl | simp only [pk_mul, nI_add] | simp only [zon, pk_mul, nI_add]) hj33 (Nat.lt_of_lt_of_le hj33 (by decide)) ?_
      refine x_iconst (pc := 34) (nI 1) dX9_unit_34 (by decide) ?_
      refine x_zret (pc := 35) dX9_unit_35 rfl (by decide) ?_
      exact ⟨rfl, rfl⟩
  · rw [if_neg (fun q => h q.1), zbf h]
    refine x_if_eq_t (pc := 12) 25 dX9_unit_12 (by decide) (rfl) ?_
    refine x_iconst (pc := 25) (nI 0) dX9_unit_25 (by decide) ?_
    refine x_zret (pc := 26) dX9_unit_26 rfl (by decide) ?_
    exact ⟨rfl, rfl⟩
theorem a_isLit_lok {l : Int32} (hV : α 101 0 = nI (aV α)) (h30 : aV α ≤ 30) : a_isLit α l = true ↔ lok (aV α) l := by
  have tab : ∀ x : Int32, zab x = x ∨ zab x = -x := fun x => by unfold zab; split <;> simp
  unfold a_isLit a_isVar
  rw [hV]
  constructor
  · intro h
    simp only [Bool.and_eq_true, decide_eq_true_eq] at h
    obtain ⟨⟨h1, h2⟩, h3, h4⟩ := h
    obtain ⟨j, hj1, hj2, hj⟩ := (zidx1 (v := zab l) (N := aV α) (by omega)).mp (by simp [h3, h4])
    refine ⟨j, hj1, hj2, ?_⟩
    rcases tab l with e | e
    · exact Or.inl (e.symm.trans hj)
    · refine Or.inr ?_
      rw [← hj, e, Int32.neg_neg]
  · rintro ⟨v, h1, h2, h3⟩
    have t1 := zv_tab1 v (by omega)
    have tb : ∀ w < 31, -30 ≤ nI w ∧ nI w ≤ nI 30 ∧ -30 ≤ -(nI w) ∧ -(nI w) ≤ nI 30 := by decide +kernel
    obtain ⟨b1, b2, b3, b4⟩ := tb v (by omega)
    have hz := (zidx1 (v := nI v) (N := aV α) (by omega)).mpr ⟨v, h1, h2, rfl⟩
    rcases h3 with rfl | rfl
    · rw [t1.1, hz]; simp [b1, b2]
    · rw [t1.2.1, hz]; simp [b3, b4]
def a_phase (α : Nat → Nat → Int32) (l : Int32) : Int32 × (Nat → Nat → Int32) :=
  if a_isLit α l = true ∧ ¬ α 101 (32 + zv l) = (if 0 < l then nI 1 else nI 0) then (nI 1, zup (a0 α) 101 (32 + zv l) (if 0 < l then nI 1 else nI 0)) else (nI 0, a0 α)
theorem t_phase (d : Nat) (l : Int32) (hV : α 101 0 = nI (aV α)) (h30 : aV α ≤ 30) : zTr E (d + 4) mX9_phase [.ref 100, .int l] (κ, α, τ) (some (.int (a_phase α l).1)) (κ, (a_phase α l).2, τ) := by
  have z : ∀ i, a0 α 101 i = α 101 i := fun i => zup_p (by decide)
  have hL : a_isLit (a0 α) l = a_isLit α l := by unfold a_isLit a_isVar; rw [z]
  refine zM.tr (zM_of [some (.ref 100), some (.int l)] (by decide) rfl (Nat.le_of_ble_eq_true rfl) ?_)
  unfold a_phase
  refine x_aload_n (pc := 0) 0 dX9_phase_0 rfl rfl ?_
  refine x_iconst (pc := 1) (nI 0) dX9_phase_1 (by decide) ?_
  refine x_puti_h (pc := 2) dX9_phase_2 pX9_63 (zat_b rfl rfl) rfl rfl ?_
  refine x_aload_n (pc := 5) 0 dX9_phase_5 rfl rfl ?_
  refine x_iload_n (pc := 6) 1 dX9_phase_6 rfl rfl ?_
  refine x_callV1i (pc := 7) dX9_phase_7 lX9_82 (zat_b rfl rfl) rfl (t_isLiteral d l) (Nat.le_of_ble_eq_true rfl) (Or.inl zgr) ?_
  show zX E (d + 4) mX9_phase 10 _ [.int (zbo (a_isLit (a0 α) l))] (κ, a0 α, τ) _
  rw [hL]
  cases h : a_isLit α l with
  | false =>
    rw [if_neg (fun q => by cases q.1)]
    refine x_if_eq_t (pc := 10) 37 dX9_phase_10 (by decide) (rfl) ?_
    refine x_iconst (pc := 37) (nI 0) dX9_phase_37 (by decide) ?_
    refine x_zret (pc := 38) dX9_phase_38 rfl (by decide) ?_
    exact ⟨rfl, rfl⟩
  | true =>
    obtain ⟨g1, g2, g3, g4, g5⟩ := ((a_isLit_lok hV h30).mp h).is h30
    refine x_if_eq_f (pc := 10) 37 dX9_phase_10 (by decide) (by decide) ?_
    refine x_aload_n (pc := 13) 0 dX9_phase_13 rfl rfl ?_
    refine x_getr (pc := 14) (101) dX9_phase_14 fX9_7 (zat_b rfl rfl) rfl ?_
    refine x_bipush (pc := 17) (nI 32) dX9_phase_17 (by decide) ?_
    refine x_iload_n (pc := 19) 1 dX9_phase_19 rfl rfl ?_
    refine x_callS1i (pc := 20) dX9_phase_20 lX9_71 (t_size (d + 2) _) (Nat.le_of_ble_eq_true rfl) (Or.inl zgr) ?_
    refine x_iadd (pc := 23) dX9_phase_23 ?_
    have hj24 : 32 + zv l < 13326 := by omega
    refine x_iald_h (pc := 24) (32 + zv l) dX9_phase_24 (zar_b rfl rfl rfl) rfl (by rw [g3, nI_add]) hj24 (Nat.lt_of_lt_of_le hj24 (by decide)) ?_
    rw [z]
    by_cases h3 : 0 < l
    · rw [if_pos h3]
      by_cases h4 : α 101 (32 + zv l) = nI 1
      · rw [if_neg (fun q => q.2 h4)]
        refine x_iload_n (pc := 25) 1 dX9_phase_25 rfl rfl ?_
        refine x_if_le_f (pc := 26) 33 dX9_phase_26 (by decide) (Int32.not_le.mpr h3) ?_
        refine x_iconst (pc := 29) (nI 1) dX9_phase_29 (by decide) ?_
        refine x_goto (pc := 30) 34 dX9_phase_30 (by decide) ?_
        refine x_icmp_ne_f (pc := 34) 39 dX9_phase_34 (by decide) (h4) ?_
        refine x_iconst (pc := 37) (nI 0) dX9_phase_37 (by decide) ?_
        refine x_zret (pc := 38) dX9_phase_38 rfl (by decide) ?_
        exact ⟨rfl, rfl⟩
      · rw [if_pos ⟨rfl, h4⟩]
        refine x_iload_n (pc := 25) 1 dX9_phase_25 rfl rfl ?_
        refine x_if_le_f (pc := 26) 33 dX9_phase_26 (by decide) (Int32.not_le.mpr h3) ?_
        refine x_iconst (pc := 29) (nI 1) dX9_phase_29 (by decide) ?_
        refine x_goto (pc := 30) 34 dX9_phase_30 (by decide) ?_
        refine x_icmp_ne_t (pc := 34) 39 dX9_phase_34 (by decide) (h4) ?_
        refine x_aload_n (pc := 39) 0 dX9_phase_39 rfl rfl ?_
        refine x_getr (pc := 40) (101) dX9_phase_40 fX9_7 (zat_b rfl rfl) rfl ?_
        refine x_bipush (pc := 43) (nI 32) dX9_phase_43 (by decide) ?_
        refine x_iload_n (pc := 45) 1 dX9_phase_45 rfl rfl ?_
        refine x_callS1i (pc := 46) dX9_phase_46 lX9_71 (t_size (d + 2) _) (Nat.le_of_ble_eq_true rfl) (Or.inl zgr) ?_
        refine x_iadd (pc := 49) dX9_phase_49 ?_
        refine x_iload_n (pc := 50) 1 dX9_phase_50 rfl rfl ?_
        refine x_if_le_f (pc := 51) 58 dX9_phase_51 (by decide) (Int32.not_le.mpr h3) ?_
        refine x_iconst (pc := 54) (nI 1) dX9_phase_54 (by decide) ?_
        refine x_goto (pc := 55) 59 dX9_phase_55 (by decide) ?_
        have hj59 : 32 + zv l < 13326 := by omega
        refine x_iast_h (pc := 59) (32 + zv l) dX9_phase_59 (zar_b rfl rfl rfl) rfl (by rw [g3, nI_add]) hj59 (Nat.lt_of_lt_of_le hj59 (by decide)) ?_
        refine x_iconst (pc := 60) (nI 1) dX9_phase_60 (by decide) ?_
        refine x_zret (pc := 61) dX9_phase_61 rfl (by decide) ?_
        exact ⟨rfl, rfl⟩
    · rw [if_neg h3]
      by_cases h4 : α 101 (32 + zv l) = nI 0
      · rw [if_neg (fun q => q.2 h4)]
        refine x_iload_n (pc := 25) 1 dX9_phase_25 rfl rfl ?_
        refine x_if_le_t (pc := 26) 33 dX9_phase_26 (by decide) (Int32.not_lt.mp h3) ?_
        refine x_iconst (pc := 33) (nI 0) dX9_phase_33 (by decide) ?_
        refine x_icmp_ne_f (pc := 34) 39 dX9_phase_34 (by decide) (h4) ?_
        refine x_iconst (pc := 37) (nI 0) dX9_phase_37 (by decide) ?_
        refine x_zret (pc := 38) dX9_phase_38 rfl (by decide) ?_
        exact ⟨rfl, rfl⟩
      · rw [if_pos ⟨rfl, h4⟩]
        refine x_iload_n (pc := 25) 1 dX9_phase_25 rfl rfl ?_
        refine x_if_le_t (pc := 26) 33 dX9_phase_26 (by decide) (Int32.not_lt.mp h3) ?_
        refine x_iconst (pc := 33) (nI 0) dX9_phase_33 (by decide) ?_
        refine x_icmp_ne_t (pc := 34) 39 dX9_phase_34 (by decide) (h4) ?_
        refine x_aload_n (pc := 39) 0 dX9_phase_39 rfl rfl ?_
        refine x_getr (pc := 40) (101) dX9_phase_40 fX9_7 (zat_b rfl rfl) rfl ?_
        refine x_bipush (pc := 43) (nI 32) dX9_phase_43 (by decide) ?_
        refine x_iload_n (pc := 45) 1 dX9_phase_45 rfl rfl ?_
        refine x_callS1i (pc := 46) dX9_phase_46 lX9_71 (t_size (d + 2) _) (Nat.le_of_ble_eq_true rfl) (Or.inl zgr) ?_
        refine x_iadd (pc := 49) dX9_phase_49 ?_
        refine x_iload_n (pc := 50) 1 dX9_phase_50 rfl rfl ?_
        refine x_if_le_t (pc := 51) 58 dX9_phase_51 (by decide) (Int32.not_lt.mp h3) ?_
        refine x_iconst (pc := 58) (nI 0) dX9_phase_58 (by decide) ?_
        have hj59 : 32 + zv l < 13326 := by omega
        refine x_iast_h (pc := 59) (32 + zv l) dX9_phase_59 (zar_b rfl rfl rfl) rfl (by rw [g3, nI_add]) hj59 (Nat.lt_of_lt_of_le hj59 (by decide)) ?_
        refine x_iconst (pc := 60) (nI 1) dX9_phase_60 (by decide) ?_
        refine x_zret (pc := 61) dX9_phase_61 rfl (by decide) ?_
        exact ⟨rfl, rfl⟩
end M12
