/-! the reference: forget, close, keep, back, counts, and what asks for numbers -/
section M13
variable {E : zEnv} {κ α : Nat → Nat → Int32} {τ : (Nat → Nat → Int64) × (Nat → Nat)}
/-- forgetting: how many, and the flags -/
def a_foF (α : Nat → Nat → Int32) (n : Nat) (c : Nat) (x : Nat × (Nat → Nat → Int32)) : Nat × (Nat → Nat → Int32) :=
  if a_learnt α c = true ∧ a_gone α c = false ∧ n < aS α c then (x.1 + 1, zup x.2 101 (525 + c) (α 101 (525 + c) ||| nI 2)) else x
def a_forget (α : Nat → Nat → Int32) (n : Int32) : Int32 × (Nat → Nat → Int32) :=
  if (decide (nI 1 ≤ n) && decide (n ≤ nI 30)) = true then (nI (zit (a_foF α n.toNatClampNeg) 0 (aN α) (0, a0 α)).1, (zit (a_foF α n.toNatClampNeg) 0 (aN α) (0, a0 α)).2) else (-1, a0 α)
theorem l_forget (d : Nat) {n : Nat} (hn : n ≤ 30) (hW : aW α) : ∀ m c x, c + m = aN α → x.1 ≤ c → (∀ i, (i < 525 + 0 ∨ 525 + c ≤ i) → x.2 101 i = α 101 i) → zX E (d + 2) mX9_forget 21 [some (.ref 100), some (.int (nI n)), some (.int (nI x.1)), some (.int (nI c))] [] (κ, x.2, τ) (fun r ν => r = some (.int (nI (zit (a_foF α n) c m x).1)) ∧ ν = (κ, (zit (a_foF α n) c m x).2, τ)) := by
  have h4 := hW.n400
  intro m
  induction m with
  | zero =>
    intro c x hc hx hz
    refine x_iload_n (pc := 21) 3 dX9_forget_21 rfl rfl ?_
    refine x_aload_n (pc := 22) 0 dX9_forget_22 rfl rfl ?_
    refine x_getr (pc := 23) (101) dX9_forget_23 fX9_7 (zat_b rfl rfl) rfl ?_
    refine x_iconst (pc := 26) (nI 1) dX9_forget_26 (by decide) ?_
    have hj27 : 1 < 13326 := by omega
    refine x_iald_h (pc := 27) (1) dX9_forget_27 (zar_b rfl rfl rfl) rfl (by first | rfl | simp only [pk_mul, nI_add] | simp only [zon, pk_mul, nI_add]) hj27 (Nat.lt_of_lt_of_le hj27 (by decide)) ?_
    rw [hz 1 (by omega), hW.n]
    refine x_icmp_ge_t (pc := 28) 82 dX9_forget_28 (by decide) (nI_le (by omega) (by omega)) ?_
    refine x_iload_n (pc := 82) 2 dX9_forget_82 rfl rfl ?_
    refine x_iret (pc := 83) dX9_forget_83 rfl ?_
    exact ⟨rfl, rfl⟩
  | succ m ih =>
    intro c x hc hx hz
    have e525 : x.2 101 (525 + c) = α 101 (525 + c) := hz _ (by omega)
    have eg : a_gone x.2 c = a_gone α c := by unfold a_gone; rw [e525]
    have el : a_learnt x.2 c = a_learnt α c := by unfold a_learnt; rw [e525]
    have es : x.2 101 (125 + c) = nI (aS α c) := by rw [hz _ (by omega)]; exact hW.s (by omega)
    have hs := hW.s30 (show c < aN α by omega)
    have step : zit (a_foF α n) c (m + 1) x = zit (a_foF α n) (c + 1) m (a_foF α n c x) := rfl
    rw [step]
    have skip : a_foF α n c x = x → zX E (d + 2) mX9_forget 76 [some (.ref 100), some (.int (nI n)), some (.int (nI x.1)), some (.int (nI c))] [] (κ, x.2, τ) (fun r ν => r = some (.int (nI (zit (a_foF α n) (c + 1) m (a_foF α n c x)).1)) ∧ ν = (κ, (zit (a_foF α n) (c + 1) m (a_foF α n c x)).2, τ)) := by
      intro e
      rw [e]
      refine x_iinc (pc := 76) (nI (c + 1)) dX9_forget_76 rfl (zinc _) (by decide) rfl ?_
      refine x_goto (pc := 79) 21 dX9_forget_79 (by decide) ?_
      exact ih (c + 1) x (by omega) (by omega) (fun i hi => hz i (by omega))
    refine x_iload_n (pc := 21) 3 dX9_forget_21 rfl rfl ?_
    refine x_aload_n (pc := 22) 0 dX9_forget_22 rfl rfl ?_
    refine x_getr (pc := 23) (101) dX9_forget_23 fX9_7 (zat_b rfl rfl) rfl ?_
    refine x_iconst (pc := 26) (nI 1) dX9_forget_26 (by decide) ?_
    have hj27 : 1 < 13326 := by omega
    refine x_iald_h (pc := 27) (1) dX9_forget_27 (zar_b rfl rfl rfl) rfl (by first | rfl | simp only [pk_mul, nI_add] | simp only [zon, pk_mul, nI_add]) hj27 (Nat.lt_of_lt_of_le hj27 (by decide)) ?_
    rw [hz 1 (by omega), hW.n]
    refine x_icmp_ge_f (pc := 28) 82 dX9_forget_28 (by decide) (nI_ge (by omega) (by omega)) ?_
    refine x_aload_n (pc := 31) 0 dX9_forget_31 rfl rfl ?_
    refine x_iload_n (pc := 32) 3 dX9_forget_32 rfl rfl ?_
    refine x_callV1i (pc := 33) dX9_forget_33 lX9_93 (zat_b rfl rfl) rfl (t_isLearnt d c (by omega)) (Nat.le_of_ble_eq_true rfl) (Or.inl zgr) ?_
    rw [el]
    cases h1 : a_learnt α c with
    | false =>
      refine x_if_eq_t (pc := 36) 76 dX9_forget_36 (by decide) (rfl) ?_
      exact skip (by unfold a_foF; rw [if_neg (fun q => by rw [h1] at q; cases q.1)])
    | true =>
      refine x_if_eq_f (pc := 36) 76 dX9_forget_36 (by decide) (by decide) ?_
      refine x_aload_n (pc := 39) 0 dX9_forget_39 rfl rfl ?_
      refine x_iload_n (pc := 40) 3 dX9_forget_40 rfl rfl ?_
      refine x_callV1i (pc := 41) dX9_forget_41 lX9_96 (zat_b rfl rfl) rfl (t_isGone d c (by omega)) (Nat.le_of_ble_eq_true rfl) (Or.inl zgr) ?_
      rw [eg]
      cases h2 : a_gone α c with
      | true =>
        refine x_if_ne_t (pc := 44) 76 dX9_forget_44 (by decide) (by decide) ?_
        exact skip (by unfold a_foF; rw [if_neg (fun q => by rw [h2] at q; cases q.2.1)])
      | false =>
        refine x_if_ne_f (pc := 44) 76 dX9_forget_44 (by decide) (rfl) ?_
        refine x_aload_n (pc := 47) 0 dX9_forget_47 rfl rfl ?_
        refine x_iload_n (pc := 48) 3 dX9_forget_48 rfl rfl ?_
        refine x_callV1i (pc := 49) dX9_forget_49 lX9_99 (zat_b rfl rfl) rfl (t_sizeOf d c (by omega)) (Nat.le_of_ble_eq_true rfl) (Or.inl zgr) ?_
        rw [es]
        by_cases h3 : n < aS α c
        · have e : a_foF α n c x = (x.1 + 1, zup x.2 101 (525 + c) (α 101 (525 + c) ||| nI 2)) := by unfold a_foF; rw [if_pos ⟨h1, h2, h3⟩]
          rw [e]
          refine x_iload_n (pc := 52) 1 dX9_forget_52 rfl rfl ?_
          refine x_icmp_gt_t (pc := 53) 59 dX9_forget_53 (by decide) (nI_lt h3 (by omega)) ?_
          refine x_aload_n (pc := 59) 0 dX9_forget_59 rfl rfl ?_
          refine x_getr (pc := 60) (101) dX9_forget_60 fX9_7 (zat_b rfl rfl) rfl ?_
          refine x_sipush (pc := 63) (nI 525) dX9_forget_63 (by decide) ?_
          refine x_iload_n (pc := 66) 3 dX9_forget_66 rfl rfl ?_
          refine x_iadd (pc := 67) dX9_forget_67 ?_
          refine x_dup2 (pc := 68) dX9_forget_68 rfl rfl ?_
          have hj69 : 525 + c < 13326 := by omega
          refine x_iald_h (pc := 69) (525 + c) dX9_forget_69 (zar_b rfl rfl rfl) rfl (by first | rfl | simp only [pk_mul, nI_add] | simp only [zon, pk_mul, nI_add]) hj69 (Nat.lt_of_lt_of_le hj69 (by decide)) ?_
          rw [e525]
          refine x_iconst (pc := 70) (nI 2) dX9_forget_70 (by decide) ?_
          refine x_ior (pc := 71) dX9_forget_71 ?_
          have hj72 : 525 + c < 13326 := by omega
          refine x_iast_h (pc := 72) (525 + c) dX9_forget_72 (zar_b rfl rfl rfl) rfl (by first | rfl | simp only [pk_mul, nI_add] | simp only [zon, pk_mul, nI_add]) hj72 (Nat.lt_of_lt_of_le hj72 (by decide)) ?_
          refine x_iinc (pc := 73) (nI (x.1 + 1)) dX9_forget_73 rfl (zinc _) (by decide) rfl ?_
          refine x_iinc (pc := 76) (nI (c + 1)) dX9_forget_76 rfl (zinc _) (by decide) rfl ?_
          refine x_goto (pc := 79) 21 dX9_forget_79 (by decide) ?_
          exact ih (c + 1) (x.1 + 1, zup x.2 101 (525 + c) (α 101 (525 + c) ||| nI 2)) (by omega) (show x.1 + 1 ≤ c + 1 by omega) (fun i hi => by
            show zup x.2 101 (525 + c) _ 101 i = _
            rw [zup_i (by omega)]
            exact hz i (by omega))
        ·
          refine x_iload_n (pc := 52) 1 dX9_forget_52 rfl rfl ?_
          refine x_icmp_gt_f (pc := 53) 59 dX9_forget_53 (by decide) (nI_nlt (by omega) (by omega)) ?_
          refine x_goto (pc := 56) 76 dX9_forget_56 (by decide) ?_
          exact skip (by unfold a_foF; rw [if_neg (fun q => h3 q.2.2)])
theorem t_forget (d : Nat) (n : Int32) (hW : aW α) : zTr E (d + 2) mX9_forget [.ref 100, .int n] (κ, α, τ) (some (.int (a_forget α n).1)) (κ, (a_forget α n).2, τ) := by
  refine zM.tr (zM_of [some (.ref 100), some (.int n), none, none] (by decide) rfl (Nat.le_of_ble_eq_true rfl) ?_)
  unfold a_forget
  refine x_aload_n (pc := 0) 0 dX9_forget_0 rfl rfl ?_
  refine x_iconst (pc := 1) (nI 0) dX9_forget_1 (by decide) ?_
  refine x_puti_h (pc := 2) dX9_forget_2 pX9_63 (zat_b rfl rfl) rfl rfl ?_
  refine x_iload_n (pc := 5) 1 dX9_forget_5 rfl rfl ?_
  refine x_iconst (pc := 6) (nI 1) dX9_forget_6 (by decide) ?_
  refine x_bipush (pc := 7) (nI 30) dX9_forget_7 (by decide) ?_
  refine x_callS3i (pc := 9) dX9_forget_9 lX9_67 (t_isIn d _ _ _) (Nat.le_of_ble_eq_true rfl) (Or.inl zgr) ?_
  by_cases h : (decide (nI 1 ≤ n) && decide (n ≤ nI 30)) = true
  · rw [if_pos h, h]
    obtain ⟨j, h1, h2, rfl⟩ := (zidx1 (by decide)).mp h
    rw [nI_clamp (by omega)]
    refine x_if_ne_t (pc := 12) 17 dX9_forget_12 (by decide) (by decide) ?_
    refine x_iconst (pc := 17) (nI 0) dX9_forget_17 (by decide) ?_
    refine x_istore_n (pc := 18) 2 dX9_forget_18 rfl (by decide) rfl ?_
    refine x_iconst (pc := 19) (nI 0) dX9_forget_19 (by decide) ?_
    refine x_istore_n (pc := 20) 3 dX9_forget_20 rfl (by decide) rfl ?_
    exact l_forget d h2 hW (aN α) 0 (0, a0 α) (by omega) (Nat.le_refl _) (fun i hi => a0_at (p := 101) (Or.inl (by decide)))
  · rw [if_neg h, zbf h]
    refine x_if_ne_f (pc := 12) 17 dX9_forget_12 (by decide) (rfl) ?_
    refine x_iconst (pc := 15) (-1) dX9_forget_15 (by decide) ?_
    refine x_iret (pc := 16) dX9_forget_16 rfl ?_
    exact ⟨rfl, rfl⟩
def a_clF (c k : Nat) (a : Nat → Nat → Int32) : Nat → Nat → Int32 := zup a 101 (1326 + 30 * c + k) (a 101 (24 + k))
def a_close (α : Nat → Nat → Int32) : Int32 × (Nat → Nat → Int32) :=
  if α 101 4 = 0 ∨ ¬ (α 101 2 < nI 80 ∧ α 101 1 < nI 400) then (-1, a0 α)
  else (nI (aN α), zup (zit (a_clF (aN α)) 0 (α 101 4).toNatClampNeg (a_begins (a0 α) (nI 0) (α 101 4))) 101 4 (nI 0))
theorem l_close (d : Nat) {c D : Nat} (hc : c < 400) (hD8 : D ≤ 8) : ∀ m k β, k + m = D → β 101 4 = nI D → zX E d mX9_close 37 [some (.ref 100), some (.int (nI c)), some (.int (nI k))] [] (κ, β, τ) (fun r ν => r = some (.int (nI c)) ∧ ν = (κ, zup (zit (a_clF c) k m β) 101 4 (nI 0), τ)) := by
  intro m
  induction m with
  | zero =>
    intro k β hk hD
    refine x_iload_n (pc := 37) 2 dX9_close_37 rfl rfl ?_
    refine x_aload_n (pc := 38) 0 dX9_close_38 rfl rfl ?_
    refine x_getr (pc := 39) (101) dX9_close_39 fX9_7 (zat_b rfl rfl) rfl ?_
    refine x_iconst (pc := 42) (nI 4) dX9_close_42 (by decide) ?_
    have hj43 : 4 < 13326 := by omega
    refine x_iald_h (pc := 43) (4) dX9_close_43 (zar_b rfl rfl rfl) rfl (by first | rfl | simp only [pk_mul, nI_add] | simp only [zon, pk_mul, nI_add]) hj43 (Nat.lt_of_lt_of_le hj43 (by decide)) ?_
    rw [hD]
    refine x_icmp_ge_t (pc := 44) 77 dX9_close_44 (by decide) (nI_le (by omega) (by omega)) ?_
    refine x_aload_n (pc := 77) 0 dX9_close_77 rfl rfl ?_
    refine x_getr (pc := 78) (101) dX9_close_78 fX9_7 (zat_b rfl rfl) rfl ?_
    refine x_iconst (pc := 81) (nI 4) dX9_close_81 (by decide) ?_
    refine x_iconst (pc := 82) (nI 0) dX9_close_82 (by decide) ?_
    have hj83 : 4 < 13326 := by omega
    refine x_iast_h (pc := 83) (4) dX9_close_83 (zar_b rfl rfl rfl) rfl (by first | rfl | simp only [pk_mul, nI_add] | simp only [zon, pk_mul, nI_add]) hj83 (Nat.lt_of_lt_of_le hj83 (by decide)) ?_
    refine x_iload_n (pc := 84) 1 dX9_close_84 rfl rfl ?_
    refine x_iret (pc := 85) dX9_close_85 rfl ?_
    exact ⟨rfl, rfl⟩
  | succ m ih =>
    intro k β hk hD
    refine x_iload_n (pc := 37) 2 dX9_close_37 rfl rfl ?_
    refine x_aload_n (pc := 38) 0 dX9_close_38 rfl rfl ?_
    refine x_getr (pc := 39) (101) dX9_close_39 fX9_7 (zat_b rfl rfl) rfl ?_
    refine x_iconst (pc := 42) (nI 4) dX9_close_42 (by decide) ?_
    have hj43 : 4 < 13326 := by omega
    refine x_iald_h (pc := 43) (4) dX9_close_43 (zar_b rfl rfl rfl) rfl (by first | rfl | simp only [pk_mul, nI_add] | simp only [zon, pk_mul, nI_add]) hj43 (Nat.lt_of_lt_of_le hj43 (by decide)) ?_
    rw [hD]
    refine x_icmp_ge_f (pc := 44) 77 dX9_close_44 (by decide) (nI_ge (by omega) (by omega)) ?_
    refine x_aload_n (pc := 47) 0 dX9_close_47 rfl rfl ?_
    refine x_getr (pc := 48) (101) dX9_close_48 fX9_7 (zat_b rfl rfl) rfl ?_
    refine x_sipush (pc := 51) (nI 1326) dX9_close_51 (by decide) ?_
    refine x_bipush (pc := 54) (nI 30) dX9_close_54 (by decide) ?_
    refine x_iload_n (pc := 56) 1 dX9_close_56 rfl rfl ?_
    refine x_imul (pc := 57) dX9_close_57 ?_
    refine x_iadd (pc := 58) dX9_close_58 ?_
    refine x_iload_n (pc := 59) 2 dX9_close_59 rfl rfl ?_
    refine x_iadd (pc := 60) dX9_close_60 ?_
    refine x_aload_n (pc := 61) 0 dX9_close_61 rfl rfl ?_
    refine x_getr (pc := 62) (101) dX9_close_62 fX9_7 (zat_b rfl rfl) rfl ?_
    refine x_bipush (pc := 65) (nI 24) dX9_close_65 (by decide) ?_
    refine x_iload_n (pc := 67) 2 dX9_close_67 rfl rfl ?_
    refine x_iadd (pc := 68) dX9_close_68 ?_
    have hj69 : 24 + k < 13326 := by omega
    refine x_iald_h (pc := 69) (24 + k) dX9_close_69 (zar_b rfl rfl rfl) rfl (by first | rfl | simp only [pk_mul, nI_add] | simp only [zon, pk_mul, nI_add]) hj69 (Nat.lt_of_lt_of_le hj69 (by decide)) ?_
    have hj70 : 1326 + 30 * c + k < 13326 := by omega
    refine x_iast_h (pc := 70) (1326 + 30 * c + k) dX9_close_70 (zar_b rfl rfl rfl) rfl (by first | rfl | simp only [pk_mul, nI_add] | simp only [zon, pk_mul, nI_add]) hj70 (Nat.lt_of_lt_of_le hj70 (by decide)) ?_
    refine x_iinc (pc := 71) (nI (k + 1)) dX9_close_71 rfl (zinc _) (by decide) rfl ?_
    refine x_goto (pc := 74) 37 dX9_close_74 (by decide) ?_
    exact ih (k + 1) _ (by omega) (by rw [zup_i (by omega)]; exact hD)
theorem t_close (d : Nat) {D : Nat} (hD : α 101 4 = nI D) (hD8 : D ≤ 8) (hN : α 101 1 = nI (aN α)) (hN4 : aN α ≤ 400) : zTr E (d + 2) mX9_close [.ref 100] (κ, α, τ) (some (.int (a_close α).1)) (κ, (a_close α).2, τ) := by
  have z : ∀ i, a0 α 101 i = α 101 i := fun i => zup_p (by decide)
  have hN0 : aN (a0 α) = aN α := by unfold aN; rw [z]
  refine zM.tr (zM_of [some (.ref 100), none, none] (by decide) rfl (Nat.le_of_ble_eq_true rfl) ?_)
  unfold a_close
  refine x_aload_n (pc := 0) 0 dX9_close_0 rfl rfl ?_
  refine x_iconst (pc := 1) (nI 0) dX9_close_1 (by decide) ?_
  refine x_puti_h (pc := 2) dX9_close_2 pX9_63 (zat_b rfl rfl) rfl rfl ?_
  refine x_aload_n (pc := 5) 0 dX9_close_5 rfl rfl ?_
  refine x_getr (pc := 6) (101) dX9_close_6 fX9_7 (zat_b rfl rfl) rfl ?_
  refine x_iconst (pc := 9) (nI 4) dX9_close_9 (by decide) ?_
  have hj10 : 4 < 13326 := by omega
  refine x_iald_h (pc := 10) (4) dX9_close_10 (zar_b rfl rfl rfl) rfl (by first | rfl | simp only [pk_mul, nI_add] | simp only [zon, pk_mul, nI_add]) hj10 (Nat.lt_of_lt_of_le hj10 (by decide)) ?_
  rw [show zup α 100 0 (nI 0) = a0 α from rfl, z]
  by_cases h1 : α 101 4 = 0
  · rw [if_pos (Or.inl h1)]
    refine x_if_eq_t (pc := 11) 21 dX9_close_11 (by decide) (h1) ?_
    refine x_iconst (pc := 21) (-1) dX9_close_21 (by decide) ?_
    refine x_iret (pc := 22) dX9_close_22 rfl ?_
    exact ⟨rfl, rfl⟩
  ·
    refine x_if_eq_f (pc := 11) 21 dX9_close_11 (by decide) (h1) ?_
    refine x_aload_n (pc := 14) 0 dX9_close_14 rfl rfl ?_
    refine x_callV0i (pc := 15) dX9_close_15 lX9_85 (zat_b rfl rfl) rfl (t_isRoom d) (Nat.le_of_ble_eq_true rfl) (Or.inl zgr) ?_
    rw [z, z]
    by_cases h2 : α 101 2 < nI 80 ∧ α 101 1 < nI 400
    · rw [if_neg (fun q => q.elim h1 (fun q => q h2))]
      have hlt : aN α < 400 := by have := h2.2; rw [hN] at this; exact (nI_ltI (by omega) (by decide)).mp this
      refine x_if_ne_t (pc := 18) 23 dX9_close_18 (by decide) (by simp only [h2.1, h2.2, decide_true]; decide) ?_
      refine x_aload_n (pc := 23) 0 dX9_close_23 rfl rfl ?_
      refine x_iconst (pc := 24) (nI 0) dX9_close_24 (by decide) ?_
      refine x_aload_n (pc := 25) 0 dX9_close_25 rfl rfl ?_
      refine x_getr (pc := 26) (101) dX9_close_26 fX9_7 (zat_b rfl rfl) rfl ?_
      refine x_iconst (pc := 29) (nI 4) dX9_close_29 (by decide) ?_
      have hj30 : 4 < 13326 := by omega
      refine x_iald_h (pc := 30) (4) dX9_close_30 (zar_b rfl rfl rfl) rfl (by first | rfl | simp only [pk_mul, nI_add] | simp only [zon, pk_mul, nI_add]) hj30 (Nat.lt_of_lt_of_le hj30 (by decide)) ?_
      rw [z]
      refine x_callV2i (pc := 31) dX9_close_31 lX9_89 (zat_b rfl rfl) rfl (t_begins d (nI 0) _ (by rw [z, hN0]; exact hN) (by rw [hN0]; exact hlt)) (Nat.le_of_ble_eq_true rfl) (Or.inl zgr) ?_
      rw [hN0]
      have hDc : (α 101 4).toNatClampNeg = D := by rw [hD]; exact nI_clamp (by omega)
      rw [hDc]
      refine x_istore_n (pc := 34) 1 dX9_close_34 rfl (by decide) rfl ?_
      refine x_iconst (pc := 35) (nI 0) dX9_close_35 (by decide) ?_
      refine x_istore_n (pc := 36) 2 dX9_close_36 rfl (by decide) rfl ?_
      refine l_close (d + 2) hlt hD8 D 0 _ (by omega) ?_
      rw [a_begins_at (fun _ => by omega) (by rw [hN0]; exact hlt), z]
      exact hD
    · rw [if_pos (Or.inr h2)]
      have hb : (decide (α 101 2 < nI 80) && decide (α 101 1 < nI 400)) = false := zbf (fun q => h2 (by simpa using q))
      rw [hb]
      refine x_if_ne_f (pc := 18) 23 dX9_close_18 (by decide) (rfl) ?_
      refine x_iconst (pc := 21) (-1) dX9_close_21 (by decide) ?_
      refine x_iret (pc := 22) dX9_close_22 rfl ?_
      exact ⟨rfl, rfl⟩
def a_keF (s k : Nat) (a : Nat → Nat → Int32) : Nat → Nat → Int32 := zup a 103 (13326 * s + k) (a 101 k)
def a_baF (s k : Nat) (a : Nat → Nat → Int32) : Nat → Nat → Int32 := zup a 101 k (a 103 (13326 * s + k))
def a_keep (α : Nat → Nat → Int32) (s : Int32) : Int32 × (Nat → Nat → Int32) :=
  if (decide (nI 0 ≤ s) && decide (s ≤ nI 1)) = true then (nI 1, zup (zit (a_keF s.toNatClampNeg) 0 13326 (a0 α)) 104 s.toNatClampNeg (nI 1)) else (nI 0, a0 α)
def a_back (α : Nat → Nat → Int32) (s : Int32) : Int32 × (Nat → Nat → Int32) :=
  if (decide (nI 0 ≤ s) && decide (s ≤ nI 1)) = true ∧ ¬ α 104 s.toNatClampNeg = 0 then (nI 1, zit (a_baF s.toNatClampNeg) 0 13326 (a0 α)) else (nI 0, a0 α)
theorem l_keep (d : Nat) {s : Nat} (hs : s ≤ 1) : ∀ m k β, k + m = 13326 → zX E d mX9_keep 18 [some (.ref 100), some (.int (nI s)), some (.int (nI k))] [] (κ, β, τ) (fun r ν => r = some (.int (nI 1)) ∧ ν = (κ, zup (zit (a_keF s) k m β) 104 s (nI 1), τ)) := by
  intro m
  induction m with
  | zero =>
    intro k β hk
    refine x_iload_n (pc := 18) 2 dX9_keep_18 rfl rfl ?_
    refine x_sipush (pc := 19) (nI 13326) dX9_keep_19 (by decide) ?_
    refine x_icmp_ge_t (pc := 22) 49 dX9_keep_22 (by decide) (nI_le (by omega) (by omega)) ?_
    refine x_aload_n (pc := 49) 0 dX9_keep_49 rfl rfl ?_
    refine x_getr (pc := 50) (104) dX9_keep_50 fX9_19 (zat_b rfl rfl) rfl ?_
    refine x_iload_n (pc := 53) 1 dX9_keep_53 rfl rfl ?_
    refine x_iconst (pc := 54) (nI 1) dX9_keep_54 (by decide) ?_
    have hj55 : s < 2 := by omega
    refine x_zast_h (pc := 55) (s) dX9_keep_55 (zar_b rfl rfl rfl) rfl (by first | rfl | simp only [pk_mul, nI_add] | simp only [zon, pk_mul, nI_add]) hj55 (Nat.lt_of_lt_of_le hj55 (by decide)) (by decide) ?_
    refine x_iconst (pc := 56) (nI 1) dX9_keep_56 (by decide) ?_
    refine x_zret (pc := 57) dX9_keep_57 rfl (by decide) ?_
    exact ⟨rfl, rfl⟩
  | succ m ih =>
    intro k β hk
    refine x_iload_n (pc := 18) 2 dX9_keep_18 rfl rfl ?_
    refine x_sipush (pc := 19) (nI 13326) dX9_keep_19 (by decide) ?_
    refine x_icmp_ge_f (pc := 22) 49 dX9_keep_22 (by decide) (nI_ge (by omega) (by omega)) ?_
    refine x_aload_n (pc := 25) 0 dX9_keep_25 rfl rfl ?_
    refine x_getr (pc := 26) (103) dX9_keep_26 fX9_16 (zat_b rfl rfl) rfl ?_
    refine x_sipush (pc := 29) (nI 13326) dX9_keep_29 (by decide) ?_
    refine x_iload_n (pc := 32) 1 dX9_keep_32 rfl rfl ?_
    refine x_imul (pc := 33) dX9_keep_33 ?_
    refine x_iload_n (pc := 34) 2 dX9_keep_34 rfl rfl ?_
    refine x_iadd (pc := 35) dX9_keep_35 ?_
    refine x_aload_n (pc := 36) 0 dX9_keep_36 rfl rfl ?_
    refine x_getr (pc := 37) (101) dX9_keep_37 fX9_7 (zat_b rfl rfl) rfl ?_
    refine x_iload_n (pc := 40) 2 dX9_keep_40 rfl rfl ?_
    have hj41 : k < 13326 := by omega
    refine x_iald_h (pc := 41) (k) dX9_keep_41 (zar_b rfl rfl rfl) rfl (by first | rfl | simp only [pk_mul, nI_add] | simp only [zon, pk_mul, nI_add]) hj41 (Nat.lt_of_lt_of_le hj41 (by decide)) ?_
    have hj42 : 13326 * s + k < 26652 := by omega
    refine x_iast_h (pc := 42) (13326 * s + k) dX9_keep_42 (zar_b rfl rfl rfl) rfl (by first | rfl | simp only [pk_mul, nI_add] | simp only [zon, pk_mul, nI_add]) hj42 (Nat.lt_of_lt_of_le hj42 (by decide)) ?_
    refine x_iinc (pc := 43) (nI (k + 1)) dX9_keep_43 rfl (zinc _) (by decide) rfl ?_
    refine x_goto (pc := 46) 18 dX9_keep_46 (by decide) ?_
    exact ih (k + 1) _ (by omega)
theorem t_keep (d : Nat) (s : Int32) : zTr E (d + 2) mX9_keep [.ref 100, .int s] (κ, α, τ) (some (.int (a_keep α s).1)) (κ, (a_keep α s).2, τ) := by
  refine zM.tr (zM_of [some (.ref 100), some (.int s), none] (by decide) rfl (Nat.le_of_ble_eq_true rfl) ?_)
  unfold a_keep
  refine x_aload_n (pc := 0) 0 dX9_keep_0 rfl rfl ?_
  refine x_iconst (pc := 1) (nI 0) dX9_keep_1 (by decide) ?_
  refine x_puti_h (pc := 2) dX9_keep_2 pX9_63 (zat_b rfl rfl) rfl rfl ?_
  refine x_iload_n (pc := 5) 1 dX9_keep_5 rfl rfl ?_
  refine x_iconst (pc := 6) (nI 0) dX9_keep_6 (by decide) ?_
  refine x_iconst (pc := 7) (nI 1) dX9_keep_7 (by decide) ?_
  refine x_callS3i (pc := 8) dX9_keep_8 lX9_67 (t_isIn d _ _ _) (Nat.le_of_ble_eq_true rfl) (Or.inl zgr) ?_
  by_cases h : (decide (nI 0 ≤ s) && decide (s ≤ nI 1)) = true
  · rw [if_pos h, h]
    obtain ⟨j, h1, rfl⟩ := (zidx (v := s) (N := 2) (by decide)).mp (by rw [show nI 2 - nI 1 = nI 1 by decide]; exact h)
    rw [nI_clamp (by omega)]
    refine x_if_ne_t (pc := 11) 16 dX9_keep_11 (by decide) (by decide) ?_
    refine x_iconst (pc := 16) (nI 0) dX9_keep_16 (by decide) ?_
    refine x_istore_n (pc := 17) 2 dX9_keep_17 rfl (by decide) rfl ?_
    exact l_keep (d + 2) (by omega) 13326 0 _ (by omega)
  · rw [if_neg h, zbf h]
    refine x_if_ne_f (pc := 11) 16 dX9_keep_11 (by decide) (rfl) ?_
    refine x_iconst (pc := 14) (nI 0) dX9_keep_14 (by decide) ?_
    refine x_zret (pc := 15) dX9_keep_15 rfl (by decide) ?_
    exact ⟨rfl, rfl⟩
theorem l_back (d : Nat) {s : Nat} (hs : s ≤ 1) : ∀ m k β, k + m = 13326 → zX E d mX9_back 27 [some (.ref 100), some (.int (nI s)), some (.int (nI k))] [] (κ, β, τ) (fun r ν => r = some (.int (nI 1)) ∧ ν = (κ, zit (a_baF s) k m β, τ)) := by
  intro m
  induction m with
  | zero =>
    intro k β hk
    refine x_iload_n (pc := 27) 2 dX9_back_27 rfl rfl ?_
    refine x_sipush (pc := 28) (nI 13326) dX9_back_28 (by decide) ?_
    refine x_icmp_ge_t (pc := 31) 58 dX9_back_31 (by decide) (nI_le (by omega) (by omega)) ?_
    refine x_iconst (pc := 58) (nI 1) dX9_back_58 (by decide) ?_
    refine x_zret (pc := 59) dX9_back_59 rfl (by decide) ?_
    exact ⟨rfl, rfl⟩
  | succ m ih =>
    intro k β hk
    refine x_iload_n (pc := 27) 2 dX9_back_27 rfl rfl ?_
    refine x_sipush (pc := 28) (nI 13326) dX9_back_28 (by decide) ?_
    refine x_icmp_ge_f (pc := 31) 58 dX9_back_31 (by decide) (nI_ge (by omega) (by omega)) ?_
    refine x_aload_n (pc := 34) 0 dX9_back_34 rfl rfl ?_
    refine x_getr (pc := 35) (101) dX9_back_35 fX9_7 (zat_b rfl rfl) rfl ?_
    refine x_iload_n (pc := 38) 2 dX9_back_38 rfl rfl ?_
    refine x_aload_n (pc := 39) 0 dX9_back_39 rfl rfl ?_
    refine x_getr (pc := 40) (103) dX9_back_40 fX9_16 (zat_b rfl rfl) rfl ?_
    refine x_sipush (pc := 43) (nI 13326) dX9_back_43 (by decide) ?_
    refine x_iload_n (pc := 46) 1 dX9_back_46 rfl rfl ?_
    refine x_imul (pc := 47) dX9_back_47 ?_
    refine x_iload_n (pc := 48) 2 dX9_back_48 rfl rfl ?_
    refine x_iadd (pc := 49) dX9_back_49 ?_
    have hj50 : 13326 * s + k < 26652 := by omega
    refine x_iald_h (pc := 50) (13326 * s + k) dX9_back_50 (zar_b rfl rfl rfl) rfl (by first | rfl | simp only [pk_mul, nI_add] | simp only [zon, pk_mul, nI_add]) hj50 (Nat.lt_of_lt_of_le hj50 (by decide)) ?_
    have hj51 : k < 13326 := by omega
    refine x_iast_h (pc := 51) (k) dX9_back_51 (zar_b rfl rfl rfl) rfl (by first | rfl | simp only [pk_mul, nI_add] | simp only [zon, pk_mul, nI_add]) hj51 (Nat.lt_of_lt_of_le hj51 (by decide)) ?_
    refine x_iinc (pc := 52) (nI (k + 1)) dX9_back_52 rfl (zinc _) (by decide) rfl ?_
    refine x_goto (pc := 55) 27 dX9_back_55 (by decide) ?_
    exact ih (k + 1) _ (by omega)
theorem t_back (d : Nat) (s : Int32) : zTr E (d + 2) mX9_back [.ref 100, .int s] (κ, α, τ) (some (.int (a_back α s).1)) (κ, (a_back α s).2, τ) := by
  refine zM.tr (zM_of [some (.ref 100), some (.int s), none] (by decide) rfl (Nat.le_of_ble_eq_true rfl) ?_)
  unfold a_back
  refine x_aload_n (pc := 0) 0 dX9_back_0 rfl rfl ?_
  refine x_iconst (pc := 1) (nI 0) dX9_back_1 (by decide) ?_
  refine x_puti_h (pc := 2) dX9_back_2 pX9_63 (zat_b rfl rfl) rfl rfl ?_
  refine x_iload_n (pc := 5) 1 dX9_back_5 rfl rfl ?_
  refine x_iconst (pc := 6) (nI 0) dX9_back_6 (by decide) ?_
  refine x_iconst (pc := 7) (nI 1) dX9_back_7 (by decide) ?_
  refine x_callS3i (pc := 8) dX9_back_8 lX9_67 (t_isIn d _ _ _) (Nat.le_of_ble_eq_true rfl) (Or.inl zgr) ?_
  by_cases h : (decide (nI 0 ≤ s) && decide (s ≤ nI 1)) = true
  · rw [h]
    obtain ⟨j, h1, rfl⟩ := (zidx (v := s) (N := 2) (by decide)).mp (by rw [show nI 2 - nI 1 = nI 1 by decide]; exact h)
    rw [nI_clamp (by omega)]
    refine x_if_eq_f (pc := 11) 23 dX9_back_11 (by decide) (by decide) ?_
    refine x_aload_n (pc := 14) 0 dX9_back_14 rfl rfl ?_
    refine x_getr (pc := 15) (104) dX9_back_15 fX9_19 (zat_b rfl rfl) rfl ?_
    refine x_iload_n (pc := 18) 1 dX9_back_18 rfl rfl ?_
    have hj19 : j < 2 := by omega
    refine x_zald_h (pc := 19) (j) dX9_back_19 (zar_b rfl rfl rfl) rfl (by first | rfl | simp only [pk_mul, nI_add] | simp only [zon, pk_mul, nI_add]) hj19 (Nat.lt_of_lt_of_le hj19 (by decide)) ?_
    rw [zup_p (by decide)]
    by_cases h2 : α 104 j = 0
    · rw [if_neg (fun q => q.2 h2)]
      refine x_if_ne_f (pc := 20) 25 dX9_back_20 (by decide) (h2) ?_
      refine x_iconst (pc := 23) (nI 0) dX9_back_23 (by decide) ?_
      refine x_zret (pc := 24) dX9_back_24 rfl (by decide) ?_
      exact ⟨rfl, rfl⟩
    · rw [if_pos ⟨rfl, h2⟩]
      refine x_if_ne_t (pc := 20) 25 dX9_back_20 (by decide) (h2) ?_
      refine x_iconst (pc := 25) (nI 0) dX9_back_25 (by decide) ?_
      refine x_istore_n (pc := 26) 2 dX9_back_26 rfl (by decide) rfl ?_
      have K := l_back (E := E) (κ := κ) (τ := τ) (d + 2) (s := j) (by omega) 13326 0 (a0 α) (by omega)
      dsimp only
      exact K
  · rw [if_neg (fun q => h q.1), zbf h]
    refine x_if_eq_t (pc := 11) 23 dX9_back_11 (by decide) (rfl) ?_
    refine x_iconst (pc := 23) (nI 0) dX9_back_23 (by decide) ?_
    refine x_zret (pc := 24) dX9_back_24 rfl (by decide) ?_
    exact ⟨rfl, rfl⟩
def a_lmany (α : Nat → Nat → Int32) : Nat := zcnt (fun c => decide (α 101 (525 + c) = nI 1)) 0 (aN α)
theorem l_learntMany (d : Nat) (hN : α 101 1 = nI (aN α)) (h4 : aN α ≤ 400) : ∀ m c n, c + m = aN α → n ≤ c → zX E (d + 1) mX9_learntMany 4 [some (.ref 100), some (.int (nI n)), some (.int (nI c))] [] (κ, α, τ) (fun r ν => r = some (.int (nI (n + zcnt (fun c => decide (α 101 (525 + c) = nI 1)) c m))) ∧ ν = (κ, α, τ)) := by
  intro m
  induction m with
  | zero =>
    intro c n hc hn
    refine x_iload_n (pc := 4) 2 dX9_learntMany_4 rfl rfl ?_
    refine x_aload_n (pc := 5) 0 dX9_learntMany_5 rfl rfl ?_
    refine x_getr (pc := 6) (101) dX9_learntMany_6 fX9_7 (zat_b rfl rfl) rfl ?_
    refine x_iconst (pc := 9) (nI 1) dX9_learntMany_9 (by decide) ?_
    have hj10 : 1 < 13326 := by omega
    refine x_iald_h (pc := 10) (1) dX9_learntMany_10 (zar_b rfl rfl rfl) rfl (by first | rfl | simp only [pk_mul, nI_add] | simp only [zon, pk_mul, nI_add]) hj10 (Nat.lt_of_lt_of_le hj10 (by decide)) ?_
    rw [hN]
    refine x_icmp_ge_t (pc := 11) 42 dX9_learntMany_11 (by decide) (nI_le (by omega) (by omega)) ?_
    refine x_iload_n (pc := 42) 1 dX9_learntMany_42 rfl rfl ?_
    refine x_iret (pc := 43) dX9_learntMany_43 rfl ?_
    exact ⟨rfl, rfl⟩
  | succ m ih =>
    intro c n hc hn
    have step : zcnt (fun c => decide (α 101 (525 + c) = nI 1)) c (m + 1) = (bif decide (α 101 (525 + c) = nI 1) then 1 else 0) + zcnt (fun c => decide (α 101 (525 + c) = nI 1)) (c + 1) m := rfl
    rw [step]
    refine x_iload_n (pc := 4) 2 dX9_learntMany_4 rfl rfl ?_
    refine x_aload_n (pc := 5) 0 dX9_learntMany_5 rfl rfl ?_
    refine x_getr (pc := 6) (101) dX9_learntMany_6 fX9_7 (zat_b rfl rfl) rfl ?_
    refine x_iconst (pc := 9) (nI 1) dX9_learntMany_9 (by decide) ?_
    have hj10 : 1 < 13326 := by omega
    refine x_iald_h (pc := 10) (1) dX9_learntMany_10 (zar_b rfl rfl rfl) rfl (by first | rfl | simp only [pk_mul, nI_add] | simp only [zon, pk_mul, nI_add]) hj10 (Nat.lt_of_lt_of_le hj10 (by decide)) ?_
    rw [hN]
    by_cases h : α 101 (525 + c) = nI 1
    · rw [decide_eq_true h, cond_true, ← Nat.add_assoc]
      refine x_icmp_ge_f (pc := 11) 42 dX9_learntMany_11 (by decide) (nI_ge (by omega) (by omega)) ?_
      refine x_iload_n (pc := 14) 1 dX9_learntMany_14 rfl rfl ?_
      refine x_aload_n (pc := 15) 0 dX9_learntMany_15 rfl rfl ?_
      refine x_getr (pc := 16) (101) dX9_learntMany_16 fX9_7 (zat_b rfl rfl) rfl ?_
      refine x_sipush (pc := 19) (nI 525) dX9_learntMany_19 (by decide) ?_
      refine x_iload_n (pc := 22) 2 dX9_learntMany_22 rfl rfl ?_
      refine x_iadd (pc := 23) dX9_learntMany_23 ?_
      have hj24 : 525 + c < 13326 := by omega
      refine x_iald_h (pc := 24) (525 + c) dX9_learntMany_24 (zar_b rfl rfl rfl) rfl (by first | rfl | simp only [pk_mul, nI_add] | simp only [zon, pk_mul, nI_add]) hj24 (Nat.lt_of_lt_of_le hj24 (by decide)) ?_
      refine x_iconst (pc := 25) (nI 1) dX9_learntMany_25 (by decide) ?_
      refine x_icmp_ne_f (pc := 26) 33 dX9_learntMany_26 (by decide) (h) ?_
      refine x_iconst (pc := 29) (nI 1) dX9_learntMany_29 (by decide) ?_
      refine x_goto (pc := 30) 34 dX9_learntMany_30 (by decide) ?_
      refine x_iadd (pc := 34) dX9_learntMany_34 ?_
      refine x_istore_n (pc := 35) 1 dX9_learntMany_35 rfl (by decide) rfl ?_
      refine x_iinc (pc := 36) (nI (c + 1)) dX9_learntMany_36 rfl (zinc _) (by decide) rfl ?_
      refine x_goto (pc := 39) 4 dX9_learntMany_39 (by decide) ?_
      rw [nI_add]
      exact ih (c + 1) (n + 1) (by omega) (by omega)
    · rw [decide_eq_false h, cond_false, Nat.zero_add]
      refine x_icmp_ge_f (pc := 11) 42 dX9_learntMany_11 (by decide) (nI_ge (by omega) (by omega)) ?_
      refine x_iload_n (pc := 14) 1 dX9_learntMany_14 rfl rfl ?_
      refine x_aload_n (pc := 15) 0 dX9_learntMany_15 rfl rfl ?_
      refine x_getr (pc := 16) (101) dX9_learntMany_16 fX9_7 (zat_b rfl rfl) rfl ?_
      refine x_sipush (pc := 19) (nI 525) dX9_learntMany_19 (by decide) ?_
      refine x_iload_n (pc := 22) 2 dX9_learntMany_22 rfl rfl ?_
      refine x_iadd (pc := 23) dX9_learntMany_23 ?_
      have hj24 : 525 + c < 13326 := by omega
      refine x_iald_h (pc := 24) (525 + c) dX9_learntMany_24 (zar_b rfl rfl rfl) rfl (by first | rfl | simp only [pk_mul, nI_add] | simp only [zon, pk_mul, nI_add]) hj24 (Nat.lt_of_lt_of_le hj24 (by decide)) ?_
      refine x_iconst (pc := 25) (nI 1) dX9_learntMany_25 (by decide) ?_
      refine x_icmp_ne_t (pc := 26) 33 dX9_learntMany_26 (by decide) (h) ?_
      refine x_iconst (pc := 33) (nI 0) dX9_learntMany_33 (by decide) ?_
      refine x_iadd (pc := 34) dX9_learntMany_34 ?_
      refine x_istore_n (pc := 35) 1 dX9_learntMany_35 rfl (by decide) rfl ?_
      refine x_iinc (pc := 36) (nI (c + 1)) dX9_learntMany_36 rfl (zinc _) (by decide) rfl ?_
      refine x_goto (pc := 39) 4 dX9_learntMany_39 (by decide) ?_
      rw [nI_add]
      exact ih (c + 1) n (by omega) (by omega)
theorem t_learntMany (d : Nat) (hN : α 101 1 = nI (aN α)) (h4 : aN α ≤ 400) : zTr E (d + 1) mX9_learntMany [.ref 100] (κ, α, τ) (some (.int (nI (a_lmany α)))) (κ, α, τ) := by
  refine zM.tr (zM_of [some (.ref 100), none, none] (by decide) rfl (Nat.le_of_ble_eq_true rfl) ?_)
  refine x_iconst (pc := 0) (nI 0) dX9_learntMany_0 (by decide) ?_
  refine x_istore_n (pc := 1) 1 dX9_learntMany_1 rfl (by decide) rfl ?_
  refine x_iconst (pc := 2) (nI 0) dX9_learntMany_2 (by decide) ?_
  refine x_istore_n (pc := 3) 2 dX9_learntMany_3 rfl (by decide) rfl ?_
  have := l_learntMany (E := E) (κ := κ) (τ := τ) d hN h4 (aN α) 0 0 (by omega) (by omega)
  rw [Nat.zero_add] at this
  exact this
end M13
