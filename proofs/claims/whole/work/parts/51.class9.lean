/-! the class's search: luby's row, leaps, starts anew -/
def k_leapT (κ : Nat → Nat → Int32) : Int32 := if κ 73 1 ≤ nI 1 then nI 0 else κ 71 (zv (κ 74 1))
def k_leapE (κ : Nat → Nat → Int32) : Nat := kS κ (kN κ) + (κ 73 1).toNatClampNeg
def k_leapA (κ : Nat → Nat → Int32) (τ : (Nat → Nat → Int64) × (Nat → Nat)) : Nat → Nat → Int32 := k_app (k_rmK (k_leave κ (k_leapT κ)) τ (k_leapE κ)) 73 (kN κ) (κ 73 1).toNatClampNeg true
def k_leap (κ : Nat → Nat → Int32) (τ : (Nat → Nat → Int64) × (Nat → Nat)) : Nat → Nat → Int32 := k_sput (k_leapA κ τ) (κ 74 0) (nI (kN κ))
def k_anew (κ : Nat → Nat → Int32) : Nat → Nat → Int32 := if κ 10 6 = 0 ∨ κ 3 12 < κ 10 6 * nI (k_lub ((κ 3 13).toNatClampNeg + 1)) then κ else k_leave (zup (zup (zup κ 10 11 (κ 10 11 + nI 1)) 3 13 (κ 3 13 + nI 1)) 3 12 (nI 0)) (nI 0)
theorem k_pw_ge : ∀ n r p, 1 ≤ p → p ≤ r + 1 → 1 ≤ k_pwL n r p ∧ k_pwL n r p ≤ r + 1
  | 0, r, p, h1, h2 => ⟨h1, h2⟩
  | n + 1, r, p, h1, h2 => by
    unfold k_pwL
    by_cases h : 2 * p - 1 ≤ r
    · rw [if_pos h]; exact k_pw_ge n r (2 * p) (by omega) (by omega)
    · rw [if_neg h]; exact ⟨h1, h2⟩
section C9
variable {E : zEnv} {κ α : Nat → Nat → Int32} {τ : (Nat → Nat → Int64) × (Nat → Nat)}
theorem kQ.of {κ' : Nat → Nat → Int32} {t : Nat} (h : kQ κ t) (h1 : κ' 3 2 = κ 3 2) (h2 : κ' 70 = κ 70) : kQ κ' t := by
  unfold kQ at h ⊢
  rw [h1, h2]
  exact h
theorem l_pw (d : Nat) {x : Int32} {r i : Nat} (hr : r ≤ 400) (P : Option Value → zMem → Prop) : ∀ n p, n ≤ 30 → 1 ≤ p → p ≤ r + 1 → zX E (d + 1) mX2_luby 41 [some (.int x), some (.int (nI r)), some (.int (nI i)), some (.int (nI (k_pwL n r p))), none] [] (κ, α, τ) P → zX E (d + 1) mX2_luby 15 [some (.int x), some (.int (nI r)), some (.int (nI i)), some (.int (nI p)), some (.int (nI (30 - n)))] [] (κ, α, τ) P := by
  intro n
  induction n with
  | zero =>
    intro p hn h1 h2 k
    refine x_iload (pc := 15) dX2_luby_15 rfl ?_
    refine x_bipush (pc := 17) (nI 30) dX2_luby_17 (by decide) ?_
    refine x_icmp_ge_t (pc := 19) 41 dX2_luby_19 (by decide) (by decide) ?_
    exact zX.sub (zs1 (zs1 (zs1 (zs1 (zsn zse))))) k
  | succ n ih =>
    intro p hn h1 h2 k
    unfold k_pwL at k
    refine x_iload (pc := 15) dX2_luby_15 rfl ?_
    refine x_bipush (pc := 17) (nI 30) dX2_luby_17 (by decide) ?_
    refine x_icmp_ge_f (pc := 19) 41 dX2_luby_19 (by decide) (nI_ge (b := 30) (by omega) (by omega)) ?_
    refine x_iconst (pc := 22) (nI 2) dX2_luby_22 (by decide) ?_
    refine x_iload_n (pc := 23) 3 dX2_luby_23 rfl rfl ?_
    refine x_imul (pc := 24) dX2_luby_24 ?_
    refine x_iconst (pc := 25) (nI 1) dX2_luby_25 (by decide) ?_
    refine x_isub (pc := 26) dX2_luby_26 ?_
    rw [pk_mul, pk_sub (by omega)]
    by_cases h : 2 * p - 1 ≤ r
    · rw [if_pos h] at k
      refine x_iload_n (pc := 27) 1 dX2_luby_27 rfl rfl ?_
      refine x_icmp_gt_f (pc := 28) 41 dX2_luby_28 (by decide) (nI_nlt (by omega) (by omega)) ?_
      refine x_iload_n (pc := 31) 3 dX2_luby_31 rfl rfl ?_
      refine x_iconst (pc := 32) (nI 2) dX2_luby_32 (by decide) ?_
      refine x_imul (pc := 33) dX2_luby_33 ?_
      rw [pk_mul, Nat.mul_comm p 2]
      refine x_istore_n (pc := 34) 3 dX2_luby_34 rfl (by decide) rfl ?_
      refine x_iinc (pc := 35) (nI (30 - n)) dX2_luby_35 rfl (by rw [zinc, show 30 - (n + 1) + 1 = 30 - n by omega]) (by decide) rfl ?_
      refine x_goto (pc := 38) 15 dX2_luby_38 (by decide) ?_
      exact ih (2 * p) (by omega) (by omega) (by omega) k
    · rw [if_neg h] at k
      refine x_iload_n (pc := 27) 1 dX2_luby_27 rfl rfl ?_
      refine x_icmp_gt_t (pc := 28) 41 dX2_luby_28 (by decide) (nI_lt (by omega) (by omega)) ?_
      exact zX.sub (zs1 (zs1 (zs1 (zs1 (zsn zse))))) k
theorem l_lub (d : Nat) {x : Int32} : ∀ n r, n ≤ 32 → 1 ≤ r → r ≤ 400 → zX E (d + 1) mX2_luby 4 [some (.int x), some (.int (nI r)), some (.int (nI (32 - n))), none, none] [] (κ, α, τ) (fun v ν => v = some (.int (nI (k_lubL n r))) ∧ ν = (κ, α, τ)) := by
  intro n
  induction n with
  | zero =>
    intro r hn h1 hr
    refine x_iload_n (pc := 4) 2 dX2_luby_4 rfl rfl ?_
    refine x_bipush (pc := 5) (nI 32) dX2_luby_5 (by decide) ?_
    refine x_icmp_ge_t (pc := 7) 64 dX2_luby_7 (by decide) (by decide) ?_
    refine x_iconst (pc := 64) (nI 1) dX2_luby_64 (by decide) ?_
    refine x_iret (pc := 65) dX2_luby_65 rfl ?_
    exact ⟨rfl, rfl⟩
  | succ n ih =>
    intro r hn h1 hr
    obtain ⟨b1, b2⟩ := k_pw_ge 30 r 1 (Nat.le_refl _) (by omega)
    unfold k_lubL
    refine x_iload_n (pc := 4) 2 dX2_luby_4 rfl rfl ?_
    refine x_bipush (pc := 5) (nI 32) dX2_luby_5 (by decide) ?_
    refine x_icmp_ge_f (pc := 7) 64 dX2_luby_7 (by decide) (nI_ge (b := 32) (by omega) (by omega)) ?_
    refine x_iconst (pc := 10) (nI 1) dX2_luby_10 (by decide) ?_
    refine x_istore_n (pc := 11) 3 dX2_luby_11 rfl (by decide) rfl ?_
    refine x_iconst (pc := 12) (nI 0) dX2_luby_12 (by decide) ?_
    refine x_istore (pc := 13) dX2_luby_13 (by decide) rfl ?_
    refine l_pw d hr _ 30 1 (Nat.le_refl _) (Nat.le_refl _) (by omega) ?_
    generalize hp : k_pwL 30 r 1 = p at b1 b2 ⊢
    refine x_iload_n (pc := 41) 3 dX2_luby_41 rfl rfl ?_
    refine x_iconst (pc := 42) (nI 1) dX2_luby_42 (by decide) ?_
    refine x_isub (pc := 43) dX2_luby_43 ?_
    rw [pk_sub b1]
    by_cases h : p - 1 = r
    · rw [if_pos h]
      refine x_iload_n (pc := 44) 1 dX2_luby_44 rfl rfl ?_
      refine x_icmp_ne_f (pc := 45) 52 dX2_luby_45 (by decide) (by rw [h]) ?_
      refine x_iload_n (pc := 48) 3 dX2_luby_48 rfl rfl ?_
      refine x_iconst (pc := 49) (nI 2) dX2_luby_49 (by decide) ?_
      refine x_idiv (pc := 50) dX2_luby_50 (by decide) ?_
      rw [pk_div (by omega) (by decide) (by decide)]
      refine x_iret (pc := 51) dX2_luby_51 rfl ?_
      exact ⟨rfl, rfl⟩
    · rw [if_neg h]
      refine x_iload_n (pc := 44) 1 dX2_luby_44 rfl rfl ?_
      refine x_icmp_ne_t (pc := 45) 52 dX2_luby_45 (by decide) (fun q => h ((nI_eq (by omega) (by omega)).mp q)) ?_
      refine x_iload_n (pc := 52) 1 dX2_luby_52 rfl rfl ?_
      refine x_iload_n (pc := 53) 3 dX2_luby_53 rfl rfl ?_
      refine x_iconst (pc := 54) (nI 1) dX2_luby_54 (by decide) ?_
      refine x_isub (pc := 55) dX2_luby_55 ?_
      refine x_isub (pc := 56) dX2_luby_56 ?_
      rw [pk_sub b1, pk_sub (by omega)]
      refine x_istore_n (pc := 57) 1 dX2_luby_57 rfl (by decide) rfl ?_
      refine x_iinc (pc := 58) (nI (32 - n)) dX2_luby_58 rfl (by rw [zinc, show 32 - (n + 1) + 1 = 32 - n by omega]) (by decide) rfl ?_
      refine x_goto (pc := 61) 4 dX2_luby_61 (by decide) ?_
      exact zX.sub (zs1 (zs1 (zs1 (zsn (zsn zse))))) (ih (r - (p - 1)) (by omega) (by omega) (by omega))
theorem s_klub (d : Nat) {r : Nat} (h1 : 1 ≤ r) (hr : r ≤ 400) : zTr E (d + 1) mX2_luby [.int (nI r)] (κ, α, τ) (some (.int (nI (k_lub r)))) (κ, α, τ) := by
  refine zM.tr (zM_of [some (.int (nI r)), none, none, none, none] (by decide) rfl (Nat.le_of_ble_eq_true rfl) ?_)
  refine x_iload_n (pc := 0) 0 dX2_luby_0 rfl rfl ?_
  refine x_istore_n (pc := 1) 1 dX2_luby_1 rfl (by decide) rfl ?_
  refine x_iconst (pc := 2) (nI 0) dX2_luby_2 (by decide) ?_
  refine x_istore_n (pc := 3) 2 dX2_luby_3 rfl (by decide) rfl ?_
  exact l_lub d 32 r (Nat.le_refl _) h1 hr
theorem s_anew (d : Nat) {t a : Nat} (hQ : kQ κ t) (ha : κ 3 13 = nI a) (ha3 : a ≤ 300) : zTr E (d + 3) mX2_startAnewIfDue [.ref 3] (κ, α, τ) none (k_anew κ, α, τ) := by
  have hc : (κ 3 13).toNatClampNeg = a := by rw [ha]; exact nI_clamp (by omega)
  refine zM.tr (zM_of [some (.ref 3)] (by decide) rfl (Nat.le_of_ble_eq_true rfl) ?_)
  unfold k_anew
  rw [hc, ha]
  by_cases h1 : κ 10 6 = 0
  · rw [if_pos (Or.inl h1)]
    refine x_aload_n (pc := 0) 0 dX2_startAnewIfDue_0 rfl rfl ?_
    refine x_getr (pc := 1) (10) dX2_startAnewIfDue_1 fX2_30 (zat_b rfl rfl) rfl ?_
    refine x_geti_l (pc := 4) dX2_startAnewIfDue_4 fX2_233 (zat_b rfl rfl) rfl rfl ?_
    refine x_if_eq_t (pc := 7) 34 dX2_startAnewIfDue_7 (by decide) (h1) ?_
    refine x_vret (pc := 34) dX2_startAnewIfDue_34 rfl ?_
    exact ⟨rfl, rfl⟩
  ·
    refine x_aload_n (pc := 0) 0 dX2_startAnewIfDue_0 rfl rfl ?_
    refine x_getr (pc := 1) (10) dX2_startAnewIfDue_1 fX2_30 (zat_b rfl rfl) rfl ?_
    refine x_geti_l (pc := 4) dX2_startAnewIfDue_4 fX2_233 (zat_b rfl rfl) rfl rfl ?_
    refine x_if_eq_f (pc := 7) 34 dX2_startAnewIfDue_7 (by decide) (h1) ?_
    refine x_aload_n (pc := 10) 0 dX2_startAnewIfDue_10 rfl rfl ?_
    refine x_geti_l (pc := 11) dX2_startAnewIfDue_11 fX2_89 (zat_b rfl rfl) rfl rfl ?_
    refine x_aload_n (pc := 14) 0 dX2_startAnewIfDue_14 rfl rfl ?_
    refine x_getr (pc := 15) (10) dX2_startAnewIfDue_15 fX2_30 (zat_b rfl rfl) rfl ?_
    refine x_geti_l (pc := 18) dX2_startAnewIfDue_18 fX2_233 (zat_b rfl rfl) rfl rfl ?_
    refine x_aload_n (pc := 21) 0 dX2_startAnewIfDue_21 rfl rfl ?_
    refine x_geti_l (pc := 22) dX2_startAnewIfDue_22 fX2_92 (zat_b rfl rfl) rfl rfl ?_
    rw [ha]
    refine x_iconst (pc := 25) (nI 1) dX2_startAnewIfDue_25 (by decide) ?_
    refine x_iadd (pc := 26) dX2_startAnewIfDue_26 ?_
    rw [nI_add]
    refine x_callS1i (pc := 27) dX2_startAnewIfDue_27 lX2_236 (s_klub (d + 1) (by omega) (by omega)) (Nat.le_of_ble_eq_true rfl) (Or.inl zgr) ?_
    refine x_imul (pc := 30) dX2_startAnewIfDue_30 ?_
    by_cases h2 : κ 3 12 < κ 10 6 * nI (k_lub (a + 1))
    · rw [if_pos (Or.inr h2)]
      refine x_icmp_ge_f (pc := 31) 35 dX2_startAnewIfDue_31 (by decide) (Int32.not_le.mpr h2) ?_
      refine x_vret (pc := 34) dX2_startAnewIfDue_34 rfl ?_
      exact ⟨rfl, rfl⟩
    · rw [if_neg (fun q => q.elim h1 h2)]
      refine x_icmp_ge_t (pc := 31) 35 dX2_startAnewIfDue_31 (by decide) (Int32.not_lt.mp h2) ?_
      refine x_aload_n (pc := 35) 0 dX2_startAnewIfDue_35 rfl rfl ?_
      refine x_getr (pc := 36) (10) dX2_startAnewIfDue_36 fX2_30 (zat_b rfl rfl) rfl ?_
      refine x_dup (pc := 39) dX2_startAnewIfDue_39 rfl ?_
      refine x_geti_l (pc := 40) dX2_startAnewIfDue_40 fX2_239 (zat_b rfl rfl) rfl rfl ?_
      refine x_iconst (pc := 43) (nI 1) dX2_startAnewIfDue_43 (by decide) ?_
      refine x_iadd (pc := 44) dX2_startAnewIfDue_44 ?_
      refine x_puti_l (pc := 45) dX2_startAnewIfDue_45 pX2_239 (zat_b rfl rfl) rfl rfl ?_
      refine x_aload_n (pc := 48) 0 dX2_startAnewIfDue_48 rfl rfl ?_
      refine x_dup (pc := 49) dX2_startAnewIfDue_49 rfl ?_
      refine x_geti_l (pc := 50) dX2_startAnewIfDue_50 fX2_92 (zat_b rfl rfl) rfl rfl ?_
      rw [zup_p (by decide), ha]
      refine x_iconst (pc := 53) (nI 1) dX2_startAnewIfDue_53 (by decide) ?_
      refine x_iadd (pc := 54) dX2_startAnewIfDue_54 ?_
      refine x_puti_l (pc := 55) dX2_startAnewIfDue_55 pX2_92 (zat_b rfl rfl) rfl rfl ?_
      refine x_aload_n (pc := 58) 0 dX2_startAnewIfDue_58 rfl rfl ?_
      refine x_iconst (pc := 59) (nI 0) dX2_startAnewIfDue_59 (by decide) ?_
      refine x_puti_l (pc := 60) dX2_startAnewIfDue_60 pX2_89 (zat_b rfl rfl) rfl rfl ?_
      refine x_aload_n (pc := 63) 0 dX2_startAnewIfDue_63 rfl rfl ?_
      refine x_iconst (pc := 64) (nI 0) dX2_startAnewIfDue_64 (by decide) ?_
      have hQ' : kQ (zup (zup (zup κ 10 11 (κ 10 11 + nI 1)) 3 13 (nI a + nI 1)) 3 12 (nI 0)) t := hQ.of (by rw [zup_i (by decide), zup_i (by decide), zup_p (by decide)]) (by funext j; rw [zup_p (by decide), zup_p (by decide), zup_p (by decide)])
      refine x_callV1v (pc := 65) dX2_startAnewIfDue_65 lX2_52 (zat_b rfl rfl) rfl (s_leave d (nI 0) hQ') (Nat.le_of_ble_eq_true rfl) (Or.inl zgr) ?_
      refine x_vret (pc := 68) dX2_startAnewIfDue_68 rfl ?_
      exact ⟨rfl, by rw [nI_add]⟩
/-- leaving changes the phases, what is so, and the height alone -/
theorem k_lvL_at (b : Int32) {p j : Nat} (h1 : p ≠ 10 ∨ j ≠ 5) (h2 : p ≠ 3 ∨ j ≠ 6 ∧ j ≠ 7 ∧ j ≠ 2) : ∀ n (κ : Nat → Nat → Int32), k_lvL b n κ p j = κ p j
  | 0, κ => rfl
  | n + 1, κ => by
    unfold k_lvL
    split
    · rw [k_lvL_at b h1 h2 n]
      unfold k_lv1 k_setPhase zup
      rw [if_neg (by rintro ⟨q1, q2⟩; rcases h2 with h | h; exact h q1; exact h.2.2 q2), if_neg (by rintro ⟨q1, q2⟩; rcases h2 with h | h; exact h q1; exact h.2.1 q2), if_neg (by rintro ⟨q1, q2⟩; rcases h2 with h | h; exact h q1; exact h.1 q2), if_neg (by rintro ⟨q1, q2⟩; rcases h1 with h | h; exact h q1; exact h q2)]
    · rfl
theorem k_lv_at {b : Int32} {p j : Nat} (h1 : p ≠ 10 ∨ j ≠ 5) (h2 : p ≠ 3 ∨ j ≠ 6 ∧ j ≠ 7 ∧ j ≠ 2) (h3 : p ≠ 3 ∨ j ≠ 8) : k_leave κ b p j = κ p j := by
  unfold k_leave
  unfold zup
  rw [if_neg (by rintro ⟨q1, q2⟩; rcases h3 with h | h; exact h q1; exact h q2)]
  exact k_lvL_at b h1 h2 _ κ
theorem k_lv_p {b : Int32} {p : Nat} (h1 : p ≠ 10) (h2 : p ≠ 3) : k_leave κ b p = κ p := by
  funext j
  exact k_lv_at (Or.inl h1) (Or.inl h2) (Or.inl h2)
theorem kW.of {κ' : Nat → Nat → Int32} (h : kW κ τ) (h1 : κ' 11 = κ 11) (h2 : κ' 15 = κ 15) : kW κ' τ := by
  unfold kW kN kS at h ⊢
  rw [h1, h2]
  exact h
theorem s_leap (d : Nat) {t n t1 : Nat} (hW : kW κ τ) (hN : kN κ < 400) (hQ : kQ κ t) (hn : κ 73 1 = nI n) (hn1 : 1 ≤ n) (hn30 : n ≤ 30) (hl : ∀ i, i < n → lok 30 (κ 74 i)) (ht : k_leave κ (k_leapT κ) 3 2 = nI t1) (ht1 : t1 < 30) : zTr E (d + 4) mX2_leap [.ref 3] (κ, α, τ) none (k_leap κ τ, α, k_rmT τ (k_leapE κ)) := by
  have hc : (κ 73 1).toNatClampNeg = n := by rw [hn]; exact nI_clamp (by omega)
  refine zM.tr (zM_of [some (.ref 3), none, none] (by decide) rfl (Nat.le_of_ble_eq_true rfl) ?_)
  have fin : zX E (d + 4) mX2_leap 32 [some (.ref 3), none, none] [.int (k_leapT κ)] (κ, α, τ) (fun r ν => r = none ∧ ν = (k_leap κ τ, α, k_rmT τ (k_leapE κ))) := by
    have e11 : k_leave κ (k_leapT κ) 11 = κ 11 := k_lv_p (by decide) (by decide)
    have e15 : k_leave κ (k_leapT κ) 15 = κ 15 := k_lv_p (by decide) (by decide)
    have eN : kN (k_leave κ (k_leapT κ)) = kN κ := by unfold kN; rw [e11]
    have eS : ∀ i, kS (k_leave κ (k_leapT κ)) i = kS κ i := fun i => by unfold kS; rw [e15]
    have e73 : k_leave κ (k_leapT κ) 73 1 = nI n := by rw [k_lv_p (by decide) (by decide)]; exact hn
    have A := s_append (E := E) (α := α) d true (hW.of e11 e15) (fun _ => kRow73) rfl rfl (by decide) (by decide) (by decide) (by decide) (by decide) (by decide) (by decide) e73 hn30
    rw [eN, eS, if_pos hN, if_pos hN] at A
    refine x_istore_n (pc := 32) 1 dX2_leap_32 rfl (by decide) rfl ?_
    refine x_aload_n (pc := 33) 0 dX2_leap_33 rfl rfl ?_
    refine x_iload_n (pc := 34) 1 dX2_leap_34 rfl rfl ?_
    refine x_callV1v (pc := 35) dX2_leap_35 lX2_52 (zat_b rfl rfl) rfl (s_leave (d + 1) _ hQ) (Nat.le_of_ble_eq_true rfl) (Or.inl zgr) ?_
    refine x_aload_n (pc := 38) 0 dX2_leap_38 rfl rfl ?_
    refine x_getr (pc := 39) (10) dX2_leap_39 fX2_30 (zat_b rfl rfl) rfl ?_
    refine x_getr (pc := 42) (11) dX2_leap_42 fX2_120 (zat_b rfl rfl) rfl ?_
    refine x_aload_n (pc := 45) 0 dX2_leap_45 rfl rfl ?_
    refine x_getr (pc := 46) (73) dX2_leap_46 fX2_26 (zat_b rfl rfl) rfl ?_
    refine x_iconst (pc := 49) (nI 1) dX2_leap_49 (by decide) ?_
    refine x_callV2i (pc := 50) dX2_leap_50 lX2_229 (zat_b rfl rfl) rfl (A) (Nat.le_of_ble_eq_true rfl) (Or.inr (zfr_ok rfl)) ?_
    unfold k_leap k_leapA k_leapE
    rw [hc]
    generalize hK : k_rmK (k_leave κ (k_leapT κ)) τ (kS κ (kN κ) + n) = K
    have hKp : ∀ p, p ≠ 16 → K p = k_leave κ (k_leapT κ) p := fun p hp => by rw [← hK]; exact k_rmK_at hp
    have hAt : ∀ p, p ≠ 16 → p ≠ 12 → p ≠ 13 → p ≠ 14 → p ≠ 11 → p ≠ 15 → k_app K 73 (kN κ) n true p = K p := by
      intro p a1 a2 a3 a4 a5 a6
      funext j
      unfold k_app k_apE
      rw [zup_p a6, zup_p a5, zup_p a5, zup_p a4, k_apL_at a1 a2 a3, zup_p a3, zup_p a2]
    have h740 : k_app K 73 (kN κ) n true 74 0 = κ 74 0 := by rw [hAt 74 (by decide) (by decide) (by decide) (by decide) (by decide) (by decide), hKp 74 (by decide), k_lv_p (by decide) (by decide)]
    have h32 : k_app K 73 (kN κ) n true 3 2 = nI t1 := by rw [hAt 3 (by decide) (by decide) (by decide) (by decide) (by decide) (by decide), hKp 3 (by decide)]; exact ht
    refine x_istore_n (pc := 53) 2 dX2_leap_53 rfl (by decide) rfl ?_
    refine x_aload_n (pc := 54) 0 dX2_leap_54 rfl rfl ?_
    refine x_aload_n (pc := 55) 0 dX2_leap_55 rfl rfl ?_
    refine x_getr (pc := 56) (73) dX2_leap_56 fX2_26 (zat_b rfl rfl) rfl ?_
    refine x_getr (pc := 59) (74) dX2_leap_59 fX2_168 (zat_b rfl rfl) rfl ?_
    refine x_iconst (pc := 62) (nI 0) dX2_leap_62 (by decide) ?_
    have hj63 : 0 < 30 := by omega
    refine x_iald_l (pc := 63) (0) dX2_leap_63 (zar_b rfl rfl rfl) rfl (by first | rfl | simp only [pk_mul, nI_add] | simp only [zon, pk_mul, nI_add]) hj63 (Nat.lt_of_lt_of_le hj63 (by decide)) ?_
    rw [h740]
    refine x_iload_n (pc := 64) 2 dX2_leap_64 rfl rfl ?_
    refine x_callV2v (pc := 65) dX2_leap_65 lX2_67 (zat_b rfl rfl) rfl (s_sput (d + 1) _ (hl 0 (by omega)) h32 ht1) (Nat.le_of_ble_eq_true rfl) (Or.inl zgr) ?_
    refine x_vret (pc := 68) dX2_leap_68 rfl ?_
    exact ⟨rfl, rfl⟩
  refine x_aload_n (pc := 0) 0 dX2_leap_0 rfl rfl ?_
  refine x_getr (pc := 1) (73) dX2_leap_1 fX2_26 (zat_b rfl rfl) rfl ?_
  refine x_geti_l (pc := 4) dX2_leap_4 fX2_165 (zat_b rfl rfl) rfl rfl ?_
  rw [hn]
  unfold k_leapT at fin
  rw [hn] at fin
  by_cases h : n ≤ 1
  · rw [if_pos (nI_le h (by omega))] at fin
    refine x_iconst (pc := 7) (nI 1) dX2_leap_7 (by decide) ?_
    refine x_icmp_le_t (pc := 8) 31 dX2_leap_8 (by decide) (nI_le h (by omega)) ?_
    refine x_iconst (pc := 31) (nI 0) dX2_leap_31 (by decide) ?_
    exact fin
  · rw [if_neg (nI_ge (by omega) (by omega))] at fin
    obtain ⟨g1, g2, g3, g4, g5⟩ := (hl 1 (by omega)).is (by decide)
    refine x_iconst (pc := 7) (nI 1) dX2_leap_7 (by decide) ?_
    refine x_icmp_le_f (pc := 8) 31 dX2_leap_8 (by decide) (nI_ge (by omega) (by omega)) ?_
    refine x_aload_n (pc := 11) 0 dX2_leap_11 rfl rfl ?_
    refine x_getr (pc := 12) (71) dX2_leap_12 fX2_15 (zat_b rfl rfl) rfl ?_
    refine x_aload_n (pc := 15) 0 dX2_leap_15 rfl rfl ?_
    refine x_getr (pc := 16) (73) dX2_leap_16 fX2_26 (zat_b rfl rfl) rfl ?_
    refine x_getr (pc := 19) (74) dX2_leap_19 fX2_168 (zat_b rfl rfl) rfl ?_
    refine x_iconst (pc := 22) (nI 1) dX2_leap_22 (by decide) ?_
    have hj23 : 1 < 30 := by omega
    refine x_iald_l (pc := 23) (1) dX2_leap_23 (zar_b rfl rfl rfl) rfl (by first | rfl | simp only [pk_mul, nI_add] | simp only [zon, pk_mul, nI_add]) hj23 (Nat.lt_of_lt_of_le hj23 (by decide)) ?_
    refine x_callN1i (pc := 24) dX2_leap_24 lX2_147 (s_variableOf (d + 2) _) (Nat.le_of_ble_eq_true rfl) (Or.inl zgr) ?_
    rw [g3]
    have hj27 : zv (κ 74 1) < 31 := by omega
    refine x_iald_l (pc := 27) (zv (κ 74 1)) dX2_leap_27 (zar_b rfl rfl rfl) rfl (by first | rfl | simp only [pk_mul, nI_add] | simp only [zon, pk_mul, nI_add]) hj27 (Nat.lt_of_lt_of_le hj27 (by decide)) ?_
    refine x_goto (pc := 28) 32 dX2_leap_28 (by decide) ?_
    exact fin
end C9
