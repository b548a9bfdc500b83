/-! the class: the small reader -/
def k_rn (κ : Nat → Nat → Int32) : Nat := (κ 4 2).toNatClampNeg
def k_take (κ : Nat → Nat → Int32) (a b : Int32) : Nat → Nat → Int32 := if k_rn κ < 481 then zup (zup (zup κ 75 (k_rn κ) a) 76 (k_rn κ) b) 4 2 (nI (k_rn κ + 1)) else κ
def k_acS (κ : Nat → Nat → Int32) (i : Nat) (x : Int32 × Int32 × Bool) : Int32 := κ 75 i &&& x.1 ||| κ 76 i &&& x.2.1
def k_acO (κ : Nat → Nat → Int32) (i : Nat) (x : Int32 × Int32 × Bool) : Int32 := (κ 75 i ||| κ 76 i) &&& ((x.1 ||| x.2.1) ^^^ (-1))
def k_acF (κ : Nat → Nat → Int32) (i : Nat) (x : Int32 × Int32 × Bool) : Option (Int32 × Int32 × Bool) :=
  if k_acS κ i x = 0 then (if k_acO κ i x = 0 then none
    else if k_acO κ i x &&& (k_acO κ i x - nI 1) = 0 then some (x.1 ||| κ 75 i &&& k_acO κ i x, x.2.1 ||| κ 76 i &&& k_acO κ i x, true) else some x)
  else some x
def k_acI (κ : Nat → Nat → Int32) : Nat → Nat → Int32 × Int32 × Bool → Option (Int32 × Int32 × Bool)
  | 0, _, x => some x
  | m + 1, i, x => match k_acF κ i x with
    | none => none
    | some y => k_acI κ m (i + 1) y
def k_acL (κ : Nat → Nat → Int32) (n : Nat) : Nat → Int32 × Int32 × Bool → Bool
  | 0, _ => false
  | k + 1, x => if x.2.2 = true then (match k_acI κ n 0 (x.1, x.2.1, false) with
    | none => true
    | some y => k_acL κ n k y) else false
def k_acc (κ : Nat → Nat → Int32) (a b : Int32) : Bool := k_acL κ (k_rn κ) 31 (b, a, true)
def k_tdF (κ : Nat → Nat → Int32) (i : Nat) (a : Nat → Nat → Int32) : Nat → Nat → Int32 := if κ 14 i = 0 then k_take a (κ 12 i) (κ 13 i) else a
def k_told (κ : Nat → Nat → Int32) : Nat → Nat → Int32 := zit (k_tdF κ) 0 (kN κ) (zup κ 4 2 (nI 0))
def k_frL (κ : Nat → Nat → Int32) : Nat → Nat → Nat → (Nat → Nat → Int32) → Int32 × (Nat → Nat → Int32)
  | 0, _, at_, a => (if κ 10 7 = 0 then -1 else if k_acc a (nI 0) (nI 0) = true then -1 else nI at_, a)
  | m + 1, i, at_, a => if κ 14 i = 0 then k_frL κ m (i + 1) at_ a
    else if k_acc a (κ 12 i) (κ 13 i) = true then k_frL κ m (i + 1) (at_ + 1) (k_take a (κ 12 i) (κ 13 i)) else (nI at_, a)
def k_first_ref (κ : Nat → Nat → Int32) : Int32 × (Nat → Nat → Int32) := k_frL κ (kN κ) 0 0 (k_told κ)
/-- the reader's memory beside the rest -/
def kRd (κ a : Nat → Nat → Int32) : Prop := (∀ p, p ≠ 4 → p ≠ 75 → p ≠ 76 → a p = κ p) ∧ ∃ n, n ≤ 481 ∧ a 4 2 = nI n
section R1
variable {E : zEnv} {κ α : Nat → Nat → Int32} {τ : (Nat → Nat → Int64) × (Nat → Nat)}
theorem k_take_p {a b : Int32} {p : Nat} (h4 : p ≠ 4) (h75 : p ≠ 75) (h76 : p ≠ 76) : k_take κ a b p = κ p := by
  unfold k_take
  split
  · funext j; rw [zup_p h4, zup_p h76, zup_p h75]
  · rfl
theorem kRd.take {a : Nat → Nat → Int32} {x y : Int32} (h : kRd κ a) : kRd κ (k_take a x y) := by
  obtain ⟨h1, n, h2, h3⟩ := h
  have c : k_rn a = n := by unfold k_rn; rw [h3]; exact nI_clamp (by omega)
  refine ⟨fun p p4 p75 p76 => (k_take_p p4 p75 p76).trans (h1 p p4 p75 p76), ?_⟩
  unfold k_take
  rw [c]
  split
  · exact ⟨n + 1, by omega, zup_same _ _ _ _⟩
  · exact ⟨n, h2, h3⟩
theorem s_take (d : Nat) (a b : Int32) {n : Nat} (h : κ 4 2 = nI n) (hn : n ≤ 481) : zTr E (d + 1) mX0_take [.ref 4, .int a, .int b] (κ, α, τ) none (k_take κ a b, α, τ) := by
  have c : k_rn κ = n := by unfold k_rn; rw [h]; exact nI_clamp (by omega)
  refine zM.tr (zM_of [some (.ref 4), some (.int a), some (.int b)] (by decide) rfl (Nat.le_of_ble_eq_true rfl) ?_)
  unfold k_take
  rw [c]
  refine x_aload_n (pc := 0) 0 dX0_take_0 rfl rfl ?_
  refine x_geti_l (pc := 1) dX0_take_1 fX0_87 (zat_b rfl rfl) rfl rfl ?_
  rw [h]
  by_cases g : n < 481
  · rw [if_pos g]
    refine x_sipush (pc := 4) (nI 481) dX0_take_4 (by decide) ?_
    refine x_icmp_lt_t (pc := 7) 11 dX0_take_7 (by decide) (nI_lt g (by omega)) ?_
    refine x_aload_n (pc := 11) 0 dX0_take_11 rfl rfl ?_
    refine x_getr (pc := 12) (75) dX0_take_12 fX0_11 (zat_b rfl rfl) rfl ?_
    refine x_aload_n (pc := 15) 0 dX0_take_15 rfl rfl ?_
    refine x_geti_l (pc := 16) dX0_take_16 fX0_87 (zat_b rfl rfl) rfl rfl ?_
    rw [h]
    refine x_iload_n (pc := 19) 1 dX0_take_19 rfl rfl ?_
    have hj20 : n < 481 := by omega
    refine x_iast_l (pc := 20) (n) dX0_take_20 (zar_b rfl rfl rfl) rfl (by first | rfl | simp only [pk_mul, nI_add] | simp only [zon, pk_mul, nI_add]) hj20 (Nat.lt_of_lt_of_le hj20 (by decide)) ?_
    refine x_aload_n (pc := 21) 0 dX0_take_21 rfl rfl ?_
    refine x_getr (pc := 22) (76) dX0_take_22 fX0_15 (zat_b rfl rfl) rfl ?_
    refine x_aload_n (pc := 25) 0 dX0_take_25 rfl rfl ?_
    refine x_geti_l (pc := 26) dX0_take_26 fX0_87 (zat_b rfl rfl) rfl rfl ?_
    rw [zup_p (by decide), h]
    refine x_iload_n (pc := 29) 2 dX0_take_29 rfl rfl ?_
    have hj30 : n < 481 := by omega
    refine x_iast_l (pc := 30) (n) dX0_take_30 (zar_b rfl rfl rfl) rfl (by first | rfl | simp only [pk_mul, nI_add] | simp only [zon, pk_mul, nI_add]) hj30 (Nat.lt_of_lt_of_le hj30 (by decide)) ?_
    refine x_aload_n (pc := 31) 0 dX0_take_31 rfl rfl ?_
    refine x_dup (pc := 32) dX0_take_32 rfl ?_
    refine x_geti_l (pc := 33) dX0_take_33 fX0_87 (zat_b rfl rfl) rfl rfl ?_
    rw [zup_p (by decide), zup_p (by decide), h]
    refine x_iconst (pc := 36) (nI 1) dX0_take_36 (by decide) ?_
    refine x_iadd (pc := 37) dX0_take_37 ?_
    rw [nI_add]
    refine x_puti_l (pc := 38) dX0_take_38 pX0_87 (zat_b rfl rfl) rfl rfl ?_
    refine x_vret (pc := 41) dX0_take_41 rfl ?_
    exact ⟨rfl, rfl⟩
  · rw [if_neg g]
    refine x_sipush (pc := 4) (nI 481) dX0_take_4 (by decide) ?_
    refine x_icmp_lt_f (pc := 7) 11 dX0_take_7 (by decide) (nI_nlt (by omega) (by omega)) ?_
    refine x_vret (pc := 10) dX0_take_10 rfl ?_
    exact ⟨rfl, rfl⟩
theorem l_swt (d : Nat) (hN : κ 11 5 = nI (kN κ)) (hN4 : kN κ ≤ 400) : ∀ m i a, i + m = kN κ → kRd κ a → zX E (d + 2) mX0_startWithTold 7 [some (.ref 4), some (.ref 11), some (.int (nI i))] [] (a, α, τ) (fun r ν => r = none ∧ ν = (zit (k_tdF κ) i m a, α, τ)) := by
  intro m
  induction m with
  | zero =>
    intro i a hi h
    refine x_iload_n (pc := 7) 2 dX0_startWithTold_7 rfl rfl ?_
    refine x_aload_n (pc := 8) 1 dX0_startWithTold_8 rfl rfl ?_
    refine x_geti_l (pc := 9) dX0_startWithTold_9 fX0_28 (zat_b rfl rfl) rfl rfl ?_
    rw [h.1 11 (by decide) (by decide) (by decide), hN]
    refine x_icmp_ge_t (pc := 12) 45 dX0_startWithTold_12 (by decide) (nI_le (by omega) (by omega)) ?_
    refine x_vret (pc := 45) dX0_startWithTold_45 rfl ?_
    exact ⟨rfl, rfl⟩
  | succ m ih =>
    intro i a hi h
    have step : zit (k_tdF κ) i (m + 1) a = zit (k_tdF κ) (i + 1) m (k_tdF κ i a) := rfl
    rw [step]
    refine x_iload_n (pc := 7) 2 dX0_startWithTold_7 rfl rfl ?_
    refine x_aload_n (pc := 8) 1 dX0_startWithTold_8 rfl rfl ?_
    refine x_geti_l (pc := 9) dX0_startWithTold_9 fX0_28 (zat_b rfl rfl) rfl rfl ?_
    rw [h.1 11 (by decide) (by decide) (by decide), hN]
    refine x_icmp_ge_f (pc := 12) 45 dX0_startWithTold_12 (by decide) (nI_ge (by omega) (by omega)) ?_
    refine x_aload_n (pc := 15) 1 dX0_startWithTold_15 rfl rfl ?_
    refine x_iload_n (pc := 16) 2 dX0_startWithTold_16 rfl rfl ?_
    refine x_callV1i (pc := 17) dX0_startWithTold_17 lX0_34 (zat_b rfl rfl) rfl (s_isLearnt d (by omega)) (Nat.le_of_ble_eq_true rfl) (Or.inl zgr) ?_
    rw [h.1 14 (by decide) (by decide) (by decide)]
    by_cases g : κ 14 i = 0
    · have e : k_tdF κ i a = k_take a (κ 12 i) (κ 13 i) := by unfold k_tdF; rw [if_pos g]
      rw [e, decide_eq_false (p := ¬ κ 14 i = 0) (by simpa using g)]
      refine x_if_ne_f (pc := 20) 39 dX0_startWithTold_20 (by decide) (rfl) ?_
      refine x_aload_n (pc := 23) 0 dX0_startWithTold_23 rfl rfl ?_
      refine x_aload_n (pc := 24) 1 dX0_startWithTold_24 rfl rfl ?_
      refine x_getr (pc := 25) (12) dX0_startWithTold_25 fX0_38 (zat_b rfl rfl) rfl ?_
      refine x_iload_n (pc := 28) 2 dX0_startWithTold_28 rfl rfl ?_
      have hj29 : i < 400 := by omega
      refine x_iald_l (pc := 29) (i) dX0_startWithTold_29 (zar_b rfl rfl rfl) rfl (by first | rfl | simp only [pk_mul, nI_add] | simp only [zon, pk_mul, nI_add]) hj29 (Nat.lt_of_lt_of_le hj29 (by decide)) ?_
      refine x_aload_n (pc := 30) 1 dX0_startWithTold_30 rfl rfl ?_
      refine x_getr (pc := 31) (13) dX0_startWithTold_31 fX0_39 (zat_b rfl rfl) rfl ?_
      refine x_iload_n (pc := 34) 2 dX0_startWithTold_34 rfl rfl ?_
      have hj35 : i < 400 := by omega
      refine x_iald_l (pc := 35) (i) dX0_startWithTold_35 (zar_b rfl rfl rfl) rfl (by first | rfl | simp only [pk_mul, nI_add] | simp only [zon, pk_mul, nI_add]) hj35 (Nat.lt_of_lt_of_le hj35 (by decide)) ?_
      rw [h.1 12 (by decide) (by decide) (by decide), h.1 13 (by decide) (by decide) (by decide)]
      refine x_callV2v (pc := 36) dX0_startWithTold_36 lX0_44 (zat_b rfl rfl) rfl (s_take d _ _ h.2.choose_spec.2 h.2.choose_spec.1) (Nat.le_of_ble_eq_true rfl) (Or.inl zgr) ?_
      refine x_iinc (pc := 39) (nI (i + 1)) dX0_startWithTold_39 rfl (zinc _) (by decide) rfl ?_
      refine x_goto (pc := 42) 7 dX0_startWithTold_42 (by decide) ?_
      exact ih (i + 1) _ (by omega) h.take
    · have e : k_tdF κ i a = a := by unfold k_tdF; rw [if_neg g]
      rw [e, decide_eq_true (p := ¬ κ 14 i = 0) g]
      refine x_if_ne_t (pc := 20) 39 dX0_startWithTold_20 (by decide) (by decide) ?_
      refine x_iinc (pc := 39) (nI (i + 1)) dX0_startWithTold_39 rfl (zinc _) (by decide) rfl ?_
      refine x_goto (pc := 42) 7 dX0_startWithTold_42 (by decide) ?_
      exact ih (i + 1) _ (by omega) h
theorem kRd.z : kRd κ (zup κ 4 2 (nI 0)) := ⟨fun p p4 _ _ => by funext j; rw [zup_p p4], 0, by omega, zup_same _ _ _ _⟩
theorem kRd_it {K : Nat → Nat → Int32} : ∀ m i a, kRd κ a → kRd κ (zit (k_tdF K) i m a)
  | 0, i, a, h => h
  | m + 1, i, a, h => by
    show kRd κ (zit (k_tdF K) (i + 1) m (k_tdF K i a))
    refine kRd_it m (i + 1) _ ?_
    unfold k_tdF
    split
    · exact h.take
    · exact h
theorem kRd.told : kRd κ (k_told κ) := kRd_it _ _ _ kRd.z
theorem s_swt (d : Nat) (hN : κ 11 5 = nI (kN κ)) (hN4 : kN κ ≤ 400) : zTr E (d + 2) mX0_startWithTold [.ref 4, .ref 11] (κ, α, τ) none (k_told κ, α, τ) := by
  refine zM.tr (zM_of [some (.ref 4), some (.ref 11), none] (by decide) rfl (Nat.le_of_ble_eq_true rfl) ?_)
  refine x_aload_n (pc := 0) 0 dX0_startWithTold_0 rfl rfl ?_
  refine x_iconst (pc := 1) (nI 0) dX0_startWithTold_1 (by decide) ?_
  refine x_puti_l (pc := 2) dX0_startWithTold_2 pX0_87 (zat_b rfl rfl) rfl rfl ?_
  refine x_iconst (pc := 5) (nI 0) dX0_startWithTold_5 (by decide) ?_
  refine x_istore_n (pc := 6) 2 dX0_startWithTold_6 rfl (by decide) rfl ?_
  exact l_swt d hN hN4 (kN κ) 0 _ (by omega) kRd.z
theorem l_acI (d : Nat) (P : Option Value → zMem → Prop) {n ps : Nat} {fp fm : Int32} (hn : κ 4 2 = nI n) (hn4 : n ≤ 481) : ∀ m i x, i + m = n → (k_acI κ m i x = none → P (some (.int (nI 1))) (κ, α, τ)) → (∀ y w w2, k_acI κ m i x = some y → zX E (d + 1) mX0_accepts 142 [some (.ref 4), some (.int fp), some (.int fm), some (.int y.1), some (.int y.2.1), some (.int (zbo y.2.2)), some (.int (nI ps)), w, w2] [] (κ, α, τ) P) → ∀ w2, zX E (d + 1) mX0_accepts 29 [some (.ref 4), some (.int fp), some (.int fm), some (.int x.1), some (.int x.2.1), some (.int (zbo x.2.2)), some (.int (nI ps)), some (.int (nI i)), w2] [] (κ, α, τ) P := by
  intro m
  induction m with
  | zero =>
    intro i x hi kt k w2
    refine x_iload (pc := 29) dX0_accepts_29 rfl ?_
    refine x_aload_n (pc := 31) 0 dX0_accepts_31 rfl rfl ?_
    refine x_geti_l (pc := 32) dX0_accepts_32 fX0_87 (zat_b rfl rfl) rfl rfl ?_
    rw [hn]
    refine x_icmp_ge_t (pc := 35) 142 dX0_accepts_35 (by decide) (nI_le (by omega) (by omega)) ?_
    exact k x _ _ rfl
  | succ m ih =>
    intro i x hi kt k w2
    have next : ∀ y, k_acF κ i x = some y → ∀ w2, zX E (d + 1) mX0_accepts 136 [some (.ref 4), some (.int fp), some (.int fm), some (.int y.1), some (.int y.2.1), some (.int (zbo y.2.2)), some (.int (nI ps)), some (.int (nI i)), w2] [] (κ, α, τ) P := by
      intro y hy w2
      refine x_iinc (pc := 136) (nI (i + 1)) dX0_accepts_136 rfl (zinc _) (by decide) rfl ?_
      refine x_goto (pc := 139) 29 dX0_accepts_139 (by decide) ?_
      have hs : k_acI κ (m + 1) i x = k_acI κ m (i + 1) y := by
        show (match k_acF κ i x with | none => none | some y => k_acI κ m (i + 1) y) = _
        rw [hy]
      exact ih (i + 1) y (by omega) (fun hz => kt (hs.trans hz)) (fun z w w2 hz => k z w w2 (hs.trans hz)) _
    refine x_iload (pc := 29) dX0_accepts_29 rfl ?_
    refine x_aload_n (pc := 31) 0 dX0_accepts_31 rfl rfl ?_
    refine x_geti_l (pc := 32) dX0_accepts_32 fX0_87 (zat_b rfl rfl) rfl rfl ?_
    rw [hn]
    refine x_icmp_ge_f (pc := 35) 142 dX0_accepts_35 (by decide) (nI_ge (by omega) (by omega)) ?_
    refine x_aload_n (pc := 38) 0 dX0_accepts_38 rfl rfl ?_
    refine x_getr (pc := 39) (75) dX0_accepts_39 fX0_11 (zat_b rfl rfl) rfl ?_
    refine x_iload (pc := 42) dX0_accepts_42 rfl ?_
    have hj44 : i < 481 := by omega
    refine x_iald_l (pc := 44) (i) dX0_accepts_44 (zar_b rfl rfl rfl) rfl (by first | rfl | simp only [pk_mul, nI_add] | simp only [zon, pk_mul, nI_add]) hj44 (Nat.lt_of_lt_of_le hj44 (by decide)) ?_
    refine x_iload_n (pc := 45) 3 dX0_accepts_45 rfl rfl ?_
    refine x_iand (pc := 46) dX0_accepts_46 ?_
    refine x_aload_n (pc := 47) 0 dX0_accepts_47 rfl rfl ?_
    refine x_getr (pc := 48) (76) dX0_accepts_48 fX0_15 (zat_b rfl rfl) rfl ?_
    refine x_iload (pc := 51) dX0_accepts_51 rfl ?_
    have hj53 : i < 481 := by omega
    refine x_iald_l (pc := 53) (i) dX0_accepts_53 (zar_b rfl rfl rfl) rfl (by first | rfl | simp only [pk_mul, nI_add] | simp only [zon, pk_mul, nI_add]) hj53 (Nat.lt_of_lt_of_le hj53 (by decide)) ?_
    refine x_iload (pc := 54) dX0_accepts_54 rfl ?_
    refine x_iand (pc := 56) dX0_accepts_56 ?_
    refine x_ior (pc := 57) dX0_accepts_57 ?_
    by_cases g1 : k_acS κ i x = 0
    ·
      refine x_if_eq_t (pc := 58) 64 dX0_accepts_58 (by decide) (g1) ?_
      refine x_aload_n (pc := 64) 0 dX0_accepts_64 rfl rfl ?_
      refine x_getr (pc := 65) (75) dX0_accepts_65 fX0_11 (zat_b rfl rfl) rfl ?_
      refine x_iload (pc := 68) dX0_accepts_68 rfl ?_
      have hj70 : i < 481 := by omega
      refine x_iald_l (pc := 70) (i) dX0_accepts_70 (zar_b rfl rfl rfl) rfl (by first | rfl | simp only [pk_mul, nI_add] | simp only [zon, pk_mul, nI_add]) hj70 (Nat.lt_of_lt_of_le hj70 (by decide)) ?_
      refine x_aload_n (pc := 71) 0 dX0_accepts_71 rfl rfl ?_
      refine x_getr (pc := 72) (76) dX0_accepts_72 fX0_15 (zat_b rfl rfl) rfl ?_
      refine x_iload (pc := 75) dX0_accepts_75 rfl ?_
      have hj77 : i < 481 := by omega
      refine x_iald_l (pc := 77) (i) dX0_accepts_77 (zar_b rfl rfl rfl) rfl (by first | rfl | simp only [pk_mul, nI_add] | simp only [zon, pk_mul, nI_add]) hj77 (Nat.lt_of_lt_of_le hj77 (by decide)) ?_
      refine x_ior (pc := 78) dX0_accepts_78 ?_
      refine x_iload_n (pc := 79) 3 dX0_accepts_79 rfl rfl ?_
      refine x_iload (pc := 80) dX0_accepts_80 rfl ?_
      refine x_ior (pc := 82) dX0_accepts_82 ?_
      refine x_iconst (pc := 83) (-1) dX0_accepts_83 (by decide) ?_
      refine x_ixor (pc := 84) dX0_accepts_84 ?_
      refine x_iand (pc := 85) dX0_accepts_85 ?_
      by_cases g2 : k_acO κ i x = 0
      ·
        refine x_istore (pc := 86) dX0_accepts_86 (by decide) rfl ?_
        refine x_iload (pc := 88) dX0_accepts_88 rfl ?_
        refine x_if_ne_f (pc := 90) 95 dX0_accepts_90 (by decide) (g2) ?_
        refine x_iconst (pc := 93) (nI 1) dX0_accepts_93 (by decide) ?_
        refine x_zret (pc := 94) dX0_accepts_94 rfl (by decide) ?_
        refine kt ?_
        show (match k_acF κ i x with | none => none | some y => k_acI κ m (i + 1) y) = none
        rw [show k_acF κ i x = none by unfold k_acF; rw [if_pos g1, if_pos g2]]
      · by_cases g3 : k_acO κ i x &&& (k_acO κ i x - nI 1) = 0
        ·
          refine x_istore (pc := 86) dX0_accepts_86 (by decide) rfl ?_
          refine x_iload (pc := 88) dX0_accepts_88 rfl ?_
          refine x_if_ne_t (pc := 90) 95 dX0_accepts_90 (by decide) (g2) ?_
          refine x_iload (pc := 95) dX0_accepts_95 rfl ?_
          refine x_iload (pc := 97) dX0_accepts_97 rfl ?_
          refine x_iconst (pc := 99) (nI 1) dX0_accepts_99 (by decide) ?_
          refine x_isub (pc := 100) dX0_accepts_100 ?_
          refine x_iand (pc := 101) dX0_accepts_101 ?_
          refine x_if_ne_f (pc := 102) 136 dX0_accepts_102 (by decide) (g3) ?_
          refine x_iload_n (pc := 105) 3 dX0_accepts_105 rfl rfl ?_
          refine x_aload_n (pc := 106) 0 dX0_accepts_106 rfl rfl ?_
          refine x_getr (pc := 107) (75) dX0_accepts_107 fX0_11 (zat_b rfl rfl) rfl ?_
          refine x_iload (pc := 110) dX0_accepts_110 rfl ?_
          have hj112 : i < 481 := by omega
          refine x_iald_l (pc := 112) (i) dX0_accepts_112 (zar_b rfl rfl rfl) rfl (by first | rfl | simp only [pk_mul, nI_add] | simp only [zon, pk_mul, nI_add]) hj112 (Nat.lt_of_lt_of_le hj112 (by decide)) ?_
          refine x_iload (pc := 113) dX0_accepts_113 rfl ?_
          refine x_iand (pc := 115) dX0_accepts_115 ?_
          refine x_ior (pc := 116) dX0_accepts_116 ?_
          refine x_istore_n (pc := 117) 3 dX0_accepts_117 rfl (by decide) rfl ?_
          refine x_iload (pc := 118) dX0_accepts_118 rfl ?_
          refine x_aload_n (pc := 120) 0 dX0_accepts_120 rfl rfl ?_
          refine x_getr (pc := 121) (76) dX0_accepts_121 fX0_15 (zat_b rfl rfl) rfl ?_
          refine x_iload (pc := 124) dX0_accepts_124 rfl ?_
          have hj126 : i < 481 := by omega
          refine x_iald_l (pc := 126) (i) dX0_accepts_126 (zar_b rfl rfl rfl) rfl (by first | rfl | simp only [pk_mul, nI_add] | simp only [zon, pk_mul, nI_add]) hj126 (Nat.lt_of_lt_of_le hj126 (by decide)) ?_
          refine x_iload (pc := 127) dX0_accepts_127 rfl ?_
          refine x_iand (pc := 129) dX0_accepts_129 ?_
          refine x_ior (pc := 130) dX0_accepts_130 ?_
          refine x_istore (pc := 131) dX0_accepts_131 (by decide) rfl ?_
          refine x_iconst (pc := 133) (nI 1) dX0_accepts_133 (by decide) ?_
          refine x_istore (pc := 134) dX0_accepts_134 (by decide) rfl ?_
          exact next (x.1 ||| κ 75 i &&& k_acO κ i x, x.2.1 ||| κ 76 i &&& k_acO κ i x, true) (by unfold k_acF; rw [if_pos g1, if_neg g2, if_pos g3]) _
        ·
          refine x_istore (pc := 86) dX0_accepts_86 (by decide) rfl ?_
          refine x_iload (pc := 88) dX0_accepts_88 rfl ?_
          refine x_if_ne_t (pc := 90) 95 dX0_accepts_90 (by decide) (g2) ?_
          refine x_iload (pc := 95) dX0_accepts_95 rfl ?_
          refine x_iload (pc := 97) dX0_accepts_97 rfl ?_
          refine x_iconst (pc := 99) (nI 1) dX0_accepts_99 (by decide) ?_
          refine x_isub (pc := 100) dX0_accepts_100 ?_
          refine x_iand (pc := 101) dX0_accepts_101 ?_
          refine x_if_ne_t (pc := 102) 136 dX0_accepts_102 (by decide) (g3) ?_
          exact next x (by unfold k_acF; rw [if_pos g1, if_neg g2, if_neg g3]) _
    ·
      refine x_if_eq_f (pc := 58) 64 dX0_accepts_58 (by decide) (g1) ?_
      refine x_goto (pc := 61) 136 dX0_accepts_61 (by decide) ?_
      exact next x (by unfold k_acF; rw [if_neg g1]) _
theorem l_acL (d : Nat) {n : Nat} {fp fm : Int32} (hn : κ 4 2 = nI n) (hn4 : n ≤ 481) : ∀ k x ps, ps + k = 31 → ∀ w w2, zX E (d + 1) mX0_accepts 11 [some (.ref 4), some (.int fp), some (.int fm), some (.int x.1), some (.int x.2.1), some (.int (zbo x.2.2)), some (.int (nI ps)), w, w2] [] (κ, α, τ) (fun r ν => r = some (.int (zbo (k_acL κ n k x))) ∧ ν = (κ, α, τ)) := by
  intro k
  induction k with
  | zero =>
    intro x ps hp w w2
    refine x_iload (pc := 11) dX0_accepts_11 rfl ?_
    refine x_bipush (pc := 13) (nI 30) dX0_accepts_13 (by decide) ?_
    refine x_icmp_gt_t (pc := 15) 148 dX0_accepts_15 (by decide) (nI_lt (a := 30) (by omega) (by omega)) ?_
    refine x_iconst (pc := 148) (nI 0) dX0_accepts_148 (by decide) ?_
    refine x_zret (pc := 149) dX0_accepts_149 rfl (by decide) ?_
    exact ⟨rfl, rfl⟩
  | succ k ih =>
    intro x ps hp w w2
    unfold k_acL
    obtain ⟨x1, x2, x3⟩ := x
    cases x3 with
    | false =>
      rw [if_neg (show ¬ (x1, x2, false).2.2 = true from fun q => by cases q)]
      refine x_iload (pc := 11) dX0_accepts_11 rfl ?_
      refine x_bipush (pc := 13) (nI 30) dX0_accepts_13 (by decide) ?_
      refine x_icmp_gt_f (pc := 15) 148 dX0_accepts_15 (by decide) (nI_nlt (b := ps) (a := 30) (by omega) (by omega)) ?_
      refine x_iload (pc := 18) dX0_accepts_18 rfl ?_
      refine x_if_eq_t (pc := 20) 148 dX0_accepts_20 (by decide) (rfl) ?_
      refine x_iconst (pc := 148) (nI 0) dX0_accepts_148 (by decide) ?_
      refine x_zret (pc := 149) dX0_accepts_149 rfl (by decide) ?_
      exact ⟨rfl, rfl⟩
    | true =>
      rw [if_pos rfl]
      refine x_iload (pc := 11) dX0_accepts_11 rfl ?_
      refine x_bipush (pc := 13) (nI 30) dX0_accepts_13 (by decide) ?_
      refine x_icmp_gt_f (pc := 15) 148 dX0_accepts_15 (by decide) (nI_nlt (b := ps) (a := 30) (by omega) (by omega)) ?_
      refine x_iload (pc := 18) dX0_accepts_18 rfl ?_
      refine x_if_eq_f (pc := 20) 148 dX0_accepts_20 (by decide) (show ¬ zbo true = 0 by decide) ?_
      refine x_iconst (pc := 23) (nI 0) dX0_accepts_23 (by decide) ?_
      refine x_istore (pc := 24) dX0_accepts_24 (by decide) rfl ?_
      refine x_iconst (pc := 26) (nI 0) dX0_accepts_26 (by decide) ?_
      refine x_istore (pc := 27) dX0_accepts_27 (by decide) rfl ?_
      refine l_acI d _ hn hn4 n 0 (x1, x2, false) (by omega) (fun hz => ?_) (fun y w w2 hy => ?_) _
      · rw [hz]
        exact ⟨rfl, rfl⟩
      · rw [hy]
        refine x_iinc (pc := 142) (nI (ps + 1)) dX0_accepts_142 rfl (zinc _) (by decide) rfl ?_
        refine x_goto (pc := 145) 11 dX0_accepts_145 (by decide) ?_
        exact ih y (ps + 1) (by omega) _ _
theorem s_accepts (d : Nat) (a b : Int32) {n : Nat} (hn : κ 4 2 = nI n) (hn4 : n ≤ 481) : zTr E (d + 1) mX0_accepts [.ref 4, .int a, .int b] (κ, α, τ) (some (.int (zbo (k_acc κ a b)))) (κ, α, τ) := by
  have c : k_rn κ = n := by unfold k_rn; rw [hn]; exact nI_clamp (by omega)
  refine zM.tr (zM_of [some (.ref 4), some (.int a), some (.int b), none, none, none, none, none, none] (by decide) rfl (Nat.le_of_ble_eq_true rfl) ?_)
  unfold k_acc
  rw [c]
  refine x_iload_n (pc := 0) 2 dX0_accepts_0 rfl rfl ?_
  refine x_istore_n (pc := 1) 3 dX0_accepts_1 rfl (by decide) rfl ?_
  refine x_iload_n (pc := 2) 1 dX0_accepts_2 rfl rfl ?_
  refine x_istore (pc := 3) dX0_accepts_3 (by decide) rfl ?_
  refine x_iconst (pc := 5) (nI 1) dX0_accepts_5 (by decide) ?_
  refine x_istore (pc := 6) dX0_accepts_6 (by decide) rfl ?_
  refine x_iconst (pc := 8) (nI 0) dX0_accepts_8 (by decide) ?_
  refine x_istore (pc := 9) dX0_accepts_9 (by decide) rfl ?_
  exact l_acL d hn hn4 31 (b, a, true) 0 (by omega) _ _
end R1
