/-! the reference: all models -/
def a_mb (s l : Int32) : Bool := decide ((s >>> ((zab l - nI 1) &&& 31)) &&& nI 1 = nI 1) == decide (0 < l)
def a_holds (α : Nat → Nat → Int32) (s : Int32) (c : Nat) : Bool := a_learnt α c || (zfind (fun k => a_mb s (aL α c k)) 0 (aS α c)).isSome
def a_isModel (α : Nat → Nat → Int32) (s : Int32) : Bool := (zfind (fun c => !a_holds α s c) 0 (aN α)).isNone
theorem zpow2 : ∀ V < 13, nI 1 <<< (nI V &&& 31) = nI (2 ^ V) := by decide +kernel
section M23
variable {E : zEnv} {κ α : Nat → Nat → Int32} {τ : (Nat → Nat → Int64) × (Nat → Nat)}
theorem l_imI (d : Nat) {s : Int32} {c : Nat} (hW : aW α) (hc : c < aN α) (P : Option Value → zMem → Prop) : ∀ m k, k + m = aS α c → (∀ k', zX E (d + 2) mX9_isModel 90 [some (.ref 100), some (.int s), some (.int (nI c)), some (.int (zbo (zfind (fun k => a_mb s (aL α c k)) k m).isSome)), some k'] [] (κ, α, τ) P) → zX E (d + 2) mX9_isModel 21 [some (.ref 100), some (.int s), some (.int (nI c)), some (.int (zbo false)), some (.int (nI k))] [] (κ, α, τ) P := by
  have hs := hW.s30 hc
  have hn := hW.n400
  intro m
  induction m with
  | zero =>
    intro k hk K
    refine x_iload (pc := 21) dX9_isModel_21 rfl ?_
    refine x_aload_n (pc := 23) 0 dX9_isModel_23 rfl rfl ?_
    refine x_iload_n (pc := 24) 2 dX9_isModel_24 rfl rfl ?_
    refine x_callV1i (pc := 25) dX9_isModel_25 lX9_99 (zat_b rfl rfl) rfl (t_sizeOfW d hW hc) (Nat.le_of_ble_eq_true rfl) (Or.inl zgr) ?_
    refine x_icmp_ge_t (pc := 28) 90 dX9_isModel_28 (by decide) (nI_le (by omega) (by omega)) ?_
    exact K _
  | succ m ih =>
    intro k hk K
    have step : zfind (fun k => a_mb s (aL α c k)) k (m + 1) = bif a_mb s (aL α c k) then some k else zfind (fun k => a_mb s (aL α c k)) (k + 1) m := rfl
    rw [step] at K
    refine x_iload (pc := 21) dX9_isModel_21 rfl ?_
    refine x_aload_n (pc := 23) 0 dX9_isModel_23 rfl rfl ?_
    refine x_iload_n (pc := 24) 2 dX9_isModel_24 rfl rfl ?_
    refine x_callV1i (pc := 25) dX9_isModel_25 lX9_99 (zat_b rfl rfl) rfl (t_sizeOfW d hW hc) (Nat.le_of_ble_eq_true rfl) (Or.inl zgr) ?_
    refine x_icmp_ge_f (pc := 28) 90 dX9_isModel_28 (by decide) (nI_ge (by omega) (by omega)) ?_
    refine x_iload_n (pc := 31) 3 dX9_isModel_31 rfl rfl ?_
    refine x_if_ne_f (pc := 32) 90 dX9_isModel_32 (by decide) (rfl) ?_
    refine x_iload_n (pc := 35) 1 dX9_isModel_35 rfl rfl ?_
    refine x_aload_n (pc := 36) 0 dX9_isModel_36 rfl rfl ?_
    refine x_iload_n (pc := 37) 2 dX9_isModel_37 rfl rfl ?_
    refine x_iload (pc := 38) dX9_isModel_38 rfl ?_
    refine x_callV2i (pc := 40) dX9_isModel_40 lX9_108 (zat_b rfl rfl) rfl (t_literalW d hW hc (by omega)) (Nat.le_of_ble_eq_true rfl) (Or.inl zgr) ?_
    refine x_callS1i (pc := 43) dX9_isModel_43 lX9_71 (t_size d _) (Nat.le_of_ble_eq_true rfl) (Or.inl zgr) ?_
    refine x_iconst (pc := 46) (nI 1) dX9_isModel_46 (by decide) ?_
    refine x_isub (pc := 47) dX9_isModel_47 ?_
    refine x_ishr (pc := 48) dX9_isModel_48 ?_
    refine x_iconst (pc := 49) (nI 1) dX9_isModel_49 (by decide) ?_
    refine x_iand (pc := 50) dX9_isModel_50 ?_
    refine x_iconst (pc := 51) (nI 1) dX9_isModel_51 (by decide) ?_
    have J2 : ∀ b1 b2 : Bool, (b1 == b2) = a_mb s (aL α c k) → zX E (d + 2) mX9_isModel 75 [some (.ref 100), some (.int s), some (.int (nI c)), some (.int (zbo false)), some (.int (nI k))] [.int (zbo b2), .int (zbo b1)] (κ, α, τ) P := by
      intro b1 b2 hb
      have fin : ∀ b, b = a_mb s (aL α c k) → zX E (d + 2) mX9_isModel 83 [some (.ref 100), some (.int s), some (.int (nI c)), some (.int (zbo false)), some (.int (nI k))] [.int (zbo b)] (κ, α, τ) P := by
        intro b hbb
        refine x_istore_n (pc := 83) 3 dX9_isModel_83 rfl (by decide) rfl ?_
        refine x_iinc (pc := 84) (nI (k + 1)) dX9_isModel_84 rfl (zinc _) (by decide) rfl ?_
        refine x_goto (pc := 87) 21 dX9_isModel_87 (by decide) ?_
        rw [← hbb] at K
        cases b with
        | true =>
          rcases Nat.lt_or_ge (k + 1) (aS α c) with q | q
          ·
            refine x_iload (pc := 21) dX9_isModel_21 rfl ?_
            refine x_aload_n (pc := 23) 0 dX9_isModel_23 rfl rfl ?_
            refine x_iload_n (pc := 24) 2 dX9_isModel_24 rfl rfl ?_
            refine x_callV1i (pc := 25) dX9_isModel_25 lX9_99 (zat_b rfl rfl) rfl (t_sizeOfW d hW hc) (Nat.le_of_ble_eq_true rfl) (Or.inl zgr) ?_
            refine x_icmp_ge_f (pc := 28) 90 dX9_isModel_28 (by decide) (nI_ge q (by omega)) ?_
            refine x_iload_n (pc := 31) 3 dX9_isModel_31 rfl rfl ?_
            refine x_if_ne_t (pc := 32) 90 dX9_isModel_32 (by decide) (by decide) ?_
            exact K _
          ·
            refine x_iload (pc := 21) dX9_isModel_21 rfl ?_
            refine x_aload_n (pc := 23) 0 dX9_isModel_23 rfl rfl ?_
            refine x_iload_n (pc := 24) 2 dX9_isModel_24 rfl rfl ?_
            refine x_callV1i (pc := 25) dX9_isModel_25 lX9_99 (zat_b rfl rfl) rfl (t_sizeOfW d hW hc) (Nat.le_of_ble_eq_true rfl) (Or.inl zgr) ?_
            refine x_icmp_ge_t (pc := 28) 90 dX9_isModel_28 (by decide) (nI_le q (by omega)) ?_
            exact K _
        | false => exact ih (k + 1) (by omega) K
      cases b1 <;> cases b2
      ·
        refine x_icmp_ne_f (pc := 75) 82 dX9_isModel_75 (by decide) (rfl) ?_
        refine x_iconst (pc := 78) (nI 1) dX9_isModel_78 (by decide) ?_
        refine x_goto (pc := 79) 83 dX9_isModel_79 (by decide) ?_
        exact fin true (by rw [← hb]; rfl)
      ·
        refine x_icmp_ne_t (pc := 75) 82 dX9_isModel_75 (by decide) (by decide) ?_
        refine x_iconst (pc := 82) (nI 0) dX9_isModel_82 (by decide) ?_
        exact fin false (by rw [← hb]; rfl)
      ·
        refine x_icmp_ne_t (pc := 75) 82 dX9_isModel_75 (by decide) (by decide) ?_
        refine x_iconst (pc := 82) (nI 0) dX9_isModel_82 (by decide) ?_
        exact fin false (by rw [← hb]; rfl)
      ·
        refine x_icmp_ne_f (pc := 75) 82 dX9_isModel_75 (by decide) (rfl) ?_
        refine x_iconst (pc := 78) (nI 1) dX9_isModel_78 (by decide) ?_
        refine x_goto (pc := 79) 83 dX9_isModel_79 (by decide) ?_
        exact fin true (by rw [← hb]; rfl)
    have J1 : ∀ b1 : Bool, b1 = decide ((s >>> ((zab (aL α c k) - nI 1) &&& 31)) &&& nI 1 = nI 1) → zX E (d + 2) mX9_isModel 60 [some (.ref 100), some (.int s), some (.int (nI c)), some (.int (zbo false)), some (.int (nI k))] [.int (zbo b1)] (κ, α, τ) P := by
      intro b1 hb1
      by_cases h : 0 < aL α c k
      ·
        refine x_aload_n (pc := 60) 0 dX9_isModel_60 rfl rfl ?_
        refine x_iload_n (pc := 61) 2 dX9_isModel_61 rfl rfl ?_
        refine x_iload (pc := 62) dX9_isModel_62 rfl ?_
        refine x_callV2i (pc := 64) dX9_isModel_64 lX9_108 (zat_b rfl rfl) rfl (t_literalW d hW hc (by omega)) (Nat.le_of_ble_eq_true rfl) (Or.inl zgr) ?_
        refine x_if_le_f (pc := 67) 74 dX9_isModel_67 (by decide) (Int32.not_le.mpr h) ?_
        refine x_iconst (pc := 70) (nI 1) dX9_isModel_70 (by decide) ?_
        refine x_goto (pc := 71) 75 dX9_isModel_71 (by decide) ?_
        exact J2 b1 true (by unfold a_mb; rw [← hb1, decide_eq_true h])
      ·
        refine x_aload_n (pc := 60) 0 dX9_isModel_60 rfl rfl ?_
        refine x_iload_n (pc := 61) 2 dX9_isModel_61 rfl rfl ?_
        refine x_iload (pc := 62) dX9_isModel_62 rfl ?_
        refine x_callV2i (pc := 64) dX9_isModel_64 lX9_108 (zat_b rfl rfl) rfl (t_literalW d hW hc (by omega)) (Nat.le_of_ble_eq_true rfl) (Or.inl zgr) ?_
        refine x_if_le_t (pc := 67) 74 dX9_isModel_67 (by decide) (Int32.not_lt.mp h) ?_
        refine x_iconst (pc := 74) (nI 0) dX9_isModel_74 (by decide) ?_
        exact J2 b1 false (by unfold a_mb; rw [← hb1, decide_eq_false h])
    by_cases h : (s >>> ((zab (aL α c k) - nI 1) &&& 31)) &&& nI 1 = nI 1
    ·
      refine x_icmp_ne_f (pc := 52) 59 dX9_isModel_52 (by decide) (h) ?_
      refine x_iconst (pc := 55) (nI 1) dX9_isModel_55 (by decide) ?_
      refine x_goto (pc := 56) 60 dX9_isModel_56 (by decide) ?_
      exact J1 true (by rw [decide_eq_true h])
    ·
      refine x_icmp_ne_t (pc := 52) 59 dX9_isModel_52 (by decide) (h) ?_
      refine x_iconst (pc := 59) (nI 0) dX9_isModel_59 (by decide) ?_
      exact J1 false (by rw [decide_eq_false h])
theorem l_isModel (d : Nat) {s : Int32} (hW : aW α) : ∀ m c, c + m = aN α → ∀ w1 w2, zX E (d + 2) mX9_isModel 2 [some (.ref 100), some (.int s), some (.int (nI c)), w1, w2] [] (κ, α, τ) (fun r ν => r = some (.int (zbo (zfind (fun c => !a_holds α s c) c m).isNone)) ∧ ν = (κ, α, τ)) := by
  have hn := hW.n400
  intro m
  induction m with
  | zero =>
    intro c hc w1 w2
    refine x_iload_n (pc := 2) 2 dX9_isModel_2 rfl rfl ?_
    refine x_aload_n (pc := 3) 0 dX9_isModel_3 rfl rfl ?_
    refine x_getr (pc := 4) (101) dX9_isModel_4 fX9_7 (zat_b rfl rfl) rfl ?_
    refine x_iconst (pc := 7) (nI 1) dX9_isModel_7 (by decide) ?_
    have hj8 : 1 < 13326 := by omega
    refine x_iald_h (pc := 8) (1) dX9_isModel_8 (zar_b rfl rfl rfl) rfl (by first | rfl | simp only [pk_mul, nI_add] | simp only [zon, pk_mul, nI_add]) hj8 (Nat.lt_of_lt_of_le hj8 (by decide)) ?_
    rw [hW.n]
    refine x_icmp_ge_t (pc := 9) 102 dX9_isModel_9 (by decide) (nI_le (by omega) (by omega)) ?_
    refine x_iconst (pc := 102) (nI 1) dX9_isModel_102 (by decide) ?_
    refine x_zret (pc := 103) dX9_isModel_103 rfl (by decide) ?_
    exact ⟨rfl, rfl⟩
  | succ m ih =>
    intro c hc w1 w2
    have hcN : c < aN α := by omega
    have hs := hW.s30 hcN
    have step : zfind (fun c => !a_holds α s c) c (m + 1) = bif !a_holds α s c then some c else zfind (fun c => !a_holds α s c) (c + 1) m := rfl
    rw [step]
    refine zX.sub (ls' := [some (.ref 100), some (.int s), some (.int (nI c)), none, none]) (zs1 (zs1 (zs1 (zsn (zsn zse))))) ?_
    have J : ∀ k', zX E (d + 2) mX9_isModel 90 [some (.ref 100), some (.int s), some (.int (nI c)), some (.int (zbo (a_holds α s c))), some k'] [] (κ, α, τ) (fun r ν => r = some (.int (zbo (bif !a_holds α s c then some c else zfind (fun c => !a_holds α s c) (c + 1) m).isNone)) ∧ ν = (κ, α, τ)) := by
      intro k'
      cases h : a_holds α s c with
      | true =>
        refine x_iload_n (pc := 90) 3 dX9_isModel_90 rfl rfl ?_
        refine x_if_ne_t (pc := 91) 96 dX9_isModel_91 (by decide) (by decide) ?_
        refine x_iinc (pc := 96) (nI (c + 1)) dX9_isModel_96 rfl (zinc _) (by decide) rfl ?_
        refine x_goto (pc := 99) 2 dX9_isModel_99 (by decide) ?_
        exact ih (c + 1) (by omega) _ _
      | false =>
        refine x_iload_n (pc := 90) 3 dX9_isModel_90 rfl rfl ?_
        refine x_if_ne_f (pc := 91) 96 dX9_isModel_91 (by decide) (rfl) ?_
        refine x_iconst (pc := 94) (nI 0) dX9_isModel_94 (by decide) ?_
        refine x_zret (pc := 95) dX9_isModel_95 rfl (by decide) ?_
        exact ⟨rfl, rfl⟩
    refine x_iload_n (pc := 2) 2 dX9_isModel_2 rfl rfl ?_
    refine x_aload_n (pc := 3) 0 dX9_isModel_3 rfl rfl ?_
    refine x_getr (pc := 4) (101) dX9_isModel_4 fX9_7 (zat_b rfl rfl) rfl ?_
    refine x_iconst (pc := 7) (nI 1) dX9_isModel_7 (by decide) ?_
    have hj8 : 1 < 13326 := by omega
    refine x_iald_h (pc := 8) (1) dX9_isModel_8 (zar_b rfl rfl rfl) rfl (by first | rfl | simp only [pk_mul, nI_add] | simp only [zon, pk_mul, nI_add]) hj8 (Nat.lt_of_lt_of_le hj8 (by decide)) ?_
    rw [hW.n]
    refine x_icmp_ge_f (pc := 9) 102 dX9_isModel_9 (by decide) (nI_ge (by omega) (by omega)) ?_
    refine x_aload_n (pc := 12) 0 dX9_isModel_12 rfl rfl ?_
    refine x_iload_n (pc := 13) 2 dX9_isModel_13 rfl rfl ?_
    refine x_callV1i (pc := 14) dX9_isModel_14 lX9_93 (zat_b rfl rfl) rfl (t_isLearnt d c (by omega)) (Nat.le_of_ble_eq_true rfl) (Or.inl zgr) ?_
    cases hl : a_learnt α c with
    | true =>
      have e : a_holds α s c = true := by unfold a_holds; rw [hl]; rfl
      rw [e] at J ⊢
      rcases Nat.eq_zero_or_pos (aS α c) with q | q
      ·
        refine x_istore_n (pc := 17) 3 dX9_isModel_17 rfl (by decide) rfl ?_
        refine x_iconst (pc := 18) (nI 0) dX9_isModel_18 (by decide) ?_
        refine x_istore (pc := 19) dX9_isModel_19 (by decide) rfl ?_
        refine x_iload (pc := 21) dX9_isModel_21 rfl ?_
        refine x_aload_n (pc := 23) 0 dX9_isModel_23 rfl rfl ?_
        refine x_iload_n (pc := 24) 2 dX9_isModel_24 rfl rfl ?_
        refine x_callV1i (pc := 25) dX9_isModel_25 lX9_99 (zat_b rfl rfl) rfl (t_sizeOfW d hW hcN) (Nat.le_of_ble_eq_true rfl) (Or.inl zgr) ?_
        refine x_icmp_ge_t (pc := 28) 90 dX9_isModel_28 (by decide) (by rw [q]; exact Int32.le_refl _) ?_
        exact J _
      ·
        refine x_istore_n (pc := 17) 3 dX9_isModel_17 rfl (by decide) rfl ?_
        refine x_iconst (pc := 18) (nI 0) dX9_isModel_18 (by decide) ?_
        refine x_istore (pc := 19) dX9_isModel_19 (by decide) rfl ?_
        refine x_iload (pc := 21) dX9_isModel_21 rfl ?_
        refine x_aload_n (pc := 23) 0 dX9_isModel_23 rfl rfl ?_
        refine x_iload_n (pc := 24) 2 dX9_isModel_24 rfl rfl ?_
        refine x_callV1i (pc := 25) dX9_isModel_25 lX9_99 (zat_b rfl rfl) rfl (t_sizeOfW d hW hcN) (Nat.le_of_ble_eq_true rfl) (Or.inl zgr) ?_
        refine x_icmp_ge_f (pc := 28) 90 dX9_isModel_28 (by decide) (nI_ge q (by omega)) ?_
        refine x_iload_n (pc := 31) 3 dX9_isModel_31 rfl rfl ?_
        refine x_if_ne_t (pc := 32) 90 dX9_isModel_32 (by decide) (by decide) ?_
        exact J _
    | false =>
      have e : a_holds α s c = (zfind (fun k => a_mb s (aL α c k)) 0 (aS α c)).isSome := by unfold a_holds; rw [hl]; rfl
      rw [e] at J ⊢
      refine x_istore_n (pc := 17) 3 dX9_isModel_17 rfl (by decide) rfl ?_
      refine x_iconst (pc := 18) (nI 0) dX9_isModel_18 (by decide) ?_
      refine x_istore (pc := 19) dX9_isModel_19 (by decide) rfl ?_
      exact l_imI d hW hcN _ (aS α c) 0 (by omega) J
theorem t_isModel (d : Nat) (s : Int32) (hW : aW α) : zTr E (d + 2) mX9_isModel [.ref 100, .int s] (κ, α, τ) (some (.int (zbo (a_isModel α s)))) (κ, α, τ) := by
  refine zM.tr (zM_of [some (.ref 100), some (.int s), none, none, none] (by decide) rfl (Nat.le_of_ble_eq_true rfl) ?_)
  refine x_iconst (pc := 0) (nI 0) dX9_isModel_0 (by decide) ?_
  refine x_istore_n (pc := 1) 2 dX9_isModel_1 rfl (by decide) rfl ?_
  exact l_isModel d hW (aN α) 0 (by omega) _ _
def a_models (α : Nat → Nat → Int32) : Int32 := if aV α ≤ 12 then nI (zcnt (fun s => a_isModel α (nI s)) 0 (2 ^ aV α)) else -1
theorem a0_off : zoff [100] α (a0 α) := zoff.rf.up (by decide)
theorem a_isModel_0 (s : Int32) : a_isModel (a0 α) s = a_isModel α s := by
  have z : ∀ i, a0 α 101 i = α 101 i := fun i => zup_p (by decide)
  unfold a_isModel a_holds a_learnt
  simp only [z, zo_N (a0_off (α := α)) (by decide), zo_S (a0_off (α := α)) (by decide), zo_L (a0_off (α := α)) (by decide)]
theorem l_models (d : Nat) (hW : aW α) (h12 : aV α ≤ 12) : ∀ m s n, s + m = 2 ^ aV α → n ≤ s → zX E (d + 3) mX9_models 22 [some (.ref 100), some (.int (nI n)), some (.int (nI s))] [] (κ, a0 α, τ) (fun r ν => r = some (.int (nI (n + zcnt (fun s => a_isModel α (nI s)) s m))) ∧ ν = (κ, a0 α, τ)) := by
  have hp : 2 ^ aV α ≤ 4096 := Nat.pow_le_pow_right (by decide) (show aV α ≤ 12 from h12)
  have hv : a0 α 101 0 = nI (aV α) := by rw [a0_at (Or.inl (by decide))]; exact hW.v
  have hW0 := hW.off a0_off (by decide)
  intro m
  induction m with
  | zero =>
    intro s n hs hn
    refine x_iload_n (pc := 22) 2 dX9_models_22 rfl rfl ?_
    refine x_iconst (pc := 23) (nI 1) dX9_models_23 (by decide) ?_
    refine x_aload_n (pc := 24) 0 dX9_models_24 rfl rfl ?_
    refine x_getr (pc := 25) (101) dX9_models_25 fX9_7 (zat_b rfl rfl) rfl ?_
    refine x_iconst (pc := 28) (nI 0) dX9_models_28 (by decide) ?_
    have hj29 : 0 < 13326 := by omega
    refine x_iald_h (pc := 29) (0) dX9_models_29 (zar_b rfl rfl rfl) rfl (by first | rfl | simp only [pk_mul, nI_add] | simp only [zon, pk_mul, nI_add]) hj29 (Nat.lt_of_lt_of_le hj29 (by decide)) ?_
    rw [hv]
    refine x_ishl (pc := 30) dX9_models_30 ?_
    rw [zpow2 _ (by omega)]
    refine x_icmp_ge_t (pc := 31) 56 dX9_models_31 (by decide) (nI_le (by omega) (by omega)) ?_
    refine x_iload_n (pc := 56) 1 dX9_models_56 rfl rfl ?_
    refine x_iret (pc := 57) dX9_models_57 rfl ?_
    exact ⟨rfl, rfl⟩
  | succ m ih =>
    intro s n hs hn
    have step : zcnt (fun s => a_isModel α (nI s)) s (m + 1) = (bif a_isModel α (nI s) then 1 else 0) + zcnt (fun s => a_isModel α (nI s)) (s + 1) m := rfl
    rw [step]
    refine x_iload_n (pc := 22) 2 dX9_models_22 rfl rfl ?_
    refine x_iconst (pc := 23) (nI 1) dX9_models_23 (by decide) ?_
    refine x_aload_n (pc := 24) 0 dX9_models_24 rfl rfl ?_
    refine x_getr (pc := 25) (101) dX9_models_25 fX9_7 (zat_b rfl rfl) rfl ?_
    refine x_iconst (pc := 28) (nI 0) dX9_models_28 (by decide) ?_
    have hj29 : 0 < 13326 := by omega
    refine x_iald_h (pc := 29) (0) dX9_models_29 (zar_b rfl rfl rfl) rfl (by first | rfl | simp only [pk_mul, nI_add] | simp only [zon, pk_mul, nI_add]) hj29 (Nat.lt_of_lt_of_le hj29 (by decide)) ?_
    rw [hv]
    refine x_ishl (pc := 30) dX9_models_30 ?_
    rw [zpow2 _ (by omega)]
    refine x_icmp_ge_f (pc := 31) 56 dX9_models_31 (by decide) (nI_ge (by omega) (by omega)) ?_
    refine x_iload_n (pc := 34) 1 dX9_models_34 rfl rfl ?_
    refine x_aload_n (pc := 35) 0 dX9_models_35 rfl rfl ?_
    refine x_iload_n (pc := 36) 2 dX9_models_36 rfl rfl ?_
    refine x_callV1i (pc := 37) dX9_models_37 lX9_236 (zat_b rfl rfl) rfl (t_isModel d _ hW0) (Nat.le_of_ble_eq_true rfl) (Or.inl zgr) ?_
    rw [a_isModel_0]
    cases h : a_isModel α (nI s) with
    | true =>
      rw [cond_true, ← Nat.add_assoc]
      refine x_if_eq_f (pc := 40) 47 dX9_models_40 (by decide) (by decide) ?_
      refine x_iconst (pc := 43) (nI 1) dX9_models_43 (by decide) ?_
      refine x_goto (pc := 44) 48 dX9_models_44 (by decide) ?_
      refine x_iadd (pc := 48) dX9_models_48 ?_
      refine x_istore_n (pc := 49) 1 dX9_models_49 rfl (by decide) rfl ?_
      refine x_iinc (pc := 50) (nI (s + 1)) dX9_models_50 rfl (zinc _) (by decide) rfl ?_
      refine x_goto (pc := 53) 22 dX9_models_53 (by decide) ?_
      rw [nI_add]
      exact ih (s + 1) (n + 1) (by omega) (by omega)
    | false =>
      rw [cond_false, Nat.zero_add]
      refine x_if_eq_t (pc := 40) 47 dX9_models_40 (by decide) (rfl) ?_
      refine x_iconst (pc := 47) (nI 0) dX9_models_47 (by decide) ?_
      refine x_iadd (pc := 48) dX9_models_48 ?_
      refine x_istore_n (pc := 49) 1 dX9_models_49 rfl (by decide) rfl ?_
      refine x_iinc (pc := 50) (nI (s + 1)) dX9_models_50 rfl (zinc _) (by decide) rfl ?_
      refine x_goto (pc := 53) 22 dX9_models_53 (by decide) ?_
      rw [nI_add]
      exact ih (s + 1) n (by omega) (by omega)
theorem t_models (d : Nat) (hW : aW α) : zTr E (d + 3) mX9_models [.ref 100] (κ, α, τ) (some (.int (a_models α))) (κ, a0 α, τ) := by
  have h30 := hW.v30
  refine zM.tr (zM_of [some (.ref 100), none, none] (by decide) rfl (Nat.le_of_ble_eq_true rfl) ?_)
  unfold a_models
  refine x_aload_n (pc := 0) 0 dX9_models_0 rfl rfl ?_
  refine x_iconst (pc := 1) (nI 0) dX9_models_1 (by decide) ?_
  refine x_puti_h (pc := 2) dX9_models_2 pX9_63 (zat_b rfl rfl) rfl rfl ?_
  refine x_aload_n (pc := 5) 0 dX9_models_5 rfl rfl ?_
  refine x_getr (pc := 6) (101) dX9_models_6 fX9_7 (zat_b rfl rfl) rfl ?_
  refine x_iconst (pc := 9) (nI 0) dX9_models_9 (by decide) ?_
  have hj10 : 0 < 13326 := by omega
  refine x_iald_h (pc := 10) (0) dX9_models_10 (zar_b rfl rfl rfl) rfl (by first | rfl | simp only [pk_mul, nI_add] | simp only [zon, pk_mul, nI_add]) hj10 (Nat.lt_of_lt_of_le hj10 (by decide)) ?_
  rw [zup_p (by decide), hW.v]
  by_cases h : aV α ≤ 12
  · rw [if_pos h]
    refine x_bipush (pc := 11) (nI 12) dX9_models_11 (by decide) ?_
    refine x_icmp_le_t (pc := 13) 18 dX9_models_13 (by decide) (nI_le h (by omega)) ?_
    refine x_iconst (pc := 18) (nI 0) dX9_models_18 (by decide) ?_
    refine x_istore_n (pc := 19) 1 dX9_models_19 rfl (by decide) rfl ?_
    refine x_iconst (pc := 20) (nI 0) dX9_models_20 (by decide) ?_
    refine x_istore_n (pc := 21) 2 dX9_models_21 rfl (by decide) rfl ?_
    have := l_models (E := E) (κ := κ) (τ := τ) d hW h (2 ^ aV α) 0 0 (by omega) (by omega)
    rw [Nat.zero_add] at this
    exact this
  · rw [if_neg h]
    refine x_bipush (pc := 11) (nI 12) dX9_models_11 (by decide) ?_
    refine x_icmp_le_f (pc := 13) 18 dX9_models_13 (by decide) (nI_ge (by omega) (by omega)) ?_
    refine x_iconst (pc := 16) (-1) dX9_models_16 (by decide) ?_
    refine x_iret (pc := 17) dX9_models_17 rfl ?_
    exact ⟨rfl, rfl⟩
def a_fxF (α : Nat → Nat → Int32) (so : Bool) (s : Nat) (x : Bool × Int32) : Bool × Int32 := if a_isModel α (nI s) = true then (true, x.2 &&& (if so = true then nI s else nI s ^^^ (-1))) else x
def a_fixed (α : Nat → Nat → Int32) (so : Bool) : Int32 :=
  if aV α ≤ 12 then (if (zit (a_fxF α so) 0 (2 ^ aV α) (false, nI (2 ^ aV α) - nI 1)).1 = true then (zit (a_fxF α so) 0 (2 ^ aV α) (false, nI (2 ^ aV α) - nI 1)).2 else -1) else -1
theorem l_fixed (d : Nat) (hW : aW α) (h12 : aV α ≤ 12) {so : Bool} : ∀ m s x, s + m = 2 ^ aV α → zX E (d + 3) mX9_fixed 37 [some (.ref 100), some (.int (zbo so)), some (.int (nI (2 ^ aV α) - nI 1)), some (.int x.2), some (.int (zbo x.1)), some (.int (nI s))] [] (κ, a0 α, τ) (fun r ν => r = some (.int (if (zit (a_fxF α so) s m x).1 = true then (zit (a_fxF α so) s m x).2 else -1)) ∧ ν = (κ, a0 α, τ)) := by
  have hp : 2 ^ aV α ≤ 4096 := Nat.pow_le_pow_right (by decide) (show aV α ≤ 12 from h12)
  have hp1 : 1 ≤ 2 ^ aV α := Nat.one_le_two_pow
  have hW0 := hW.off a0_off (by decide)
  have hall : nI (2 ^ aV α) - nI 1 = nI (2 ^ aV α - 1) := pk_sub hp1
  intro m
  induction m with
  | zero =>
    intro s x hs
    rw [hall]
    refine x_iload (pc := 37) dX9_fixed_37 rfl ?_
    refine x_iload_n (pc := 39) 2 dX9_fixed_39 rfl rfl ?_
    refine x_icmp_gt_t (pc := 40) 80 dX9_fixed_40 (by decide) (nI_lt (by omega) (by omega)) ?_
    refine x_iload (pc := 80) dX9_fixed_80 rfl ?_
    cases hb : x.1 with
    | true =>
      refine x_if_eq_f (pc := 82) 89 dX9_fixed_82 (by decide) (by decide) ?_
      refine x_iload_n (pc := 85) 3 dX9_fixed_85 rfl rfl ?_
      refine x_goto (pc := 86) 90 dX9_fixed_86 (by decide) ?_
      refine x_iret (pc := 90) dX9_fixed_90 rfl ?_
      exact ⟨by show _ = some (Value.int (if x.1 = true then x.2 else -1)); rw [if_pos hb], rfl⟩
    | false =>
      refine x_if_eq_t (pc := 82) 89 dX9_fixed_82 (by decide) (rfl) ?_
      refine x_iconst (pc := 89) (-1) dX9_fixed_89 (by decide) ?_
      refine x_iret (pc := 90) dX9_fixed_90 rfl ?_
      exact ⟨by show _ = some (Value.int (if x.1 = true then x.2 else -1)); rw [if_neg (by rw [hb]; decide)], rfl⟩
  | succ m ih =>
    intro s x hs
    have step : zit (a_fxF α so) s (m + 1) x = zit (a_fxF α so) (s + 1) m (a_fxF α so s x) := rfl
    rw [step]
    rw [hall] at ih ⊢
    refine x_iload (pc := 37) dX9_fixed_37 rfl ?_
    refine x_iload_n (pc := 39) 2 dX9_fixed_39 rfl rfl ?_
    refine x_icmp_gt_f (pc := 40) 80 dX9_fixed_40 (by decide) (nI_nlt (by omega) (by omega)) ?_
    refine x_aload_n (pc := 43) 0 dX9_fixed_43 rfl rfl ?_
    refine x_iload (pc := 44) dX9_fixed_44 rfl ?_
    refine x_callV1i (pc := 46) dX9_fixed_46 lX9_236 (zat_b rfl rfl) rfl (t_isModel d _ hW0) (Nat.le_of_ble_eq_true rfl) (Or.inl zgr) ?_
    rw [a_isModel_0]
    cases h : a_isModel α (nI s) with
    | true =>
      refine x_if_ne_t (pc := 49) 55 dX9_fixed_49 (by decide) (by decide) ?_
      refine x_iconst (pc := 55) (nI 1) dX9_fixed_55 (by decide) ?_
      refine x_istore (pc := 56) dX9_fixed_56 (by decide) rfl ?_
      refine x_iload_n (pc := 58) 3 dX9_fixed_58 rfl rfl ?_
      refine x_iload_n (pc := 59) 1 dX9_fixed_59 rfl rfl ?_
      cases hso : so with
      | true =>
        have e : a_fxF α true s x = (true, x.2 &&& nI s) := by unfold a_fxF; rw [if_pos h, if_pos rfl]
        rw [e]
        rw [hso] at ih
        refine x_if_eq_f (pc := 60) 68 dX9_fixed_60 (by decide) (by decide) ?_
        refine x_iload (pc := 63) dX9_fixed_63 rfl ?_
        refine x_goto (pc := 65) 72 dX9_fixed_65 (by decide) ?_
        refine x_iand (pc := 72) dX9_fixed_72 ?_
        refine x_istore_n (pc := 73) 3 dX9_fixed_73 rfl (by decide) rfl ?_
        refine x_iinc (pc := 74) (nI (s + 1)) dX9_fixed_74 rfl (zinc _) (by decide) rfl ?_
        refine x_goto (pc := 77) 37 dX9_fixed_77 (by decide) ?_
        exact ih (s + 1) (true, x.2 &&& nI s) (by omega)
      | false =>
        have e : a_fxF α false s x = (true, x.2 &&& (nI s ^^^ (-1))) := by unfold a_fxF; rw [if_pos h, if_neg (by decide)]
        rw [e]
        rw [hso] at ih
        refine x_if_eq_t (pc := 60) 68 dX9_fixed_60 (by decide) (rfl) ?_
        refine x_iload (pc := 68) dX9_fixed_68 rfl ?_
        refine x_iconst (pc := 70) (-1) dX9_fixed_70 (by decide) ?_
        refine x_ixor (pc := 71) dX9_fixed_71 ?_
        refine x_iand (pc := 72) dX9_fixed_72 ?_
        refine x_istore_n (pc := 73) 3 dX9_fixed_73 rfl (by decide) rfl ?_
        refine x_iinc (pc := 74) (nI (s + 1)) dX9_fixed_74 rfl (zinc _) (by decide) rfl ?_
        refine x_goto (pc := 77) 37 dX9_fixed_77 (by decide) ?_
        exact ih (s + 1) (true, x.2 &&& (nI s ^^^ (-1))) (by omega)
    | false =>
      have e : a_fxF α so s x = x := by unfold a_fxF; rw [if_neg (by rw [h]; decide)]
      rw [e]
      refine x_if_ne_f (pc := 49) 55 dX9_fixed_49 (by decide) (rfl) ?_
      refine x_goto (pc := 52) 74 dX9_fixed_52 (by decide) ?_
      refine x_iinc (pc := 74) (nI (s + 1)) dX9_fixed_74 rfl (zinc _) (by decide) rfl ?_
      refine x_goto (pc := 77) 37 dX9_fixed_77 (by decide) ?_
      exact ih (s + 1) x (by omega)
theorem t_fixed (d : Nat) (so : Bool) (hW : aW α) : zTr E (d + 3) mX9_fixed [.ref 100, .int (zbo so)] (κ, α, τ) (some (.int (a_fixed α so))) (κ, a0 α, τ) := by
  have h30 := hW.v30
  refine zM.tr (zM_of [some (.ref 100), some (.int (zbo so)), none, none, none, none] (by decide) rfl (Nat.le_of_ble_eq_true rfl) ?_)
  unfold a_fixed
  refine x_aload_n (pc := 0) 0 dX9_fixed_0 rfl rfl ?_
  refine x_iconst (pc := 1) (nI 0) dX9_fixed_1 (by decide) ?_
  refine x_puti_h (pc := 2) dX9_fixed_2 pX9_63 (zat_b rfl rfl) rfl rfl ?_
  refine x_aload_n (pc := 5) 0 dX9_fixed_5 rfl rfl ?_
  refine x_getr (pc := 6) (101) dX9_fixed_6 fX9_7 (zat_b rfl rfl) rfl ?_
  refine x_iconst (pc := 9) (nI 0) dX9_fixed_9 (by decide) ?_
  have hj10 : 0 < 13326 := by omega
  refine x_iald_h (pc := 10) (0) dX9_fixed_10 (zar_b rfl rfl rfl) rfl (by first | rfl | simp only [pk_mul, nI_add] | simp only [zon, pk_mul, nI_add]) hj10 (Nat.lt_of_lt_of_le hj10 (by decide)) ?_
  rw [zup_p (by decide), hW.v]
  by_cases h : aV α ≤ 12
  · rw [if_pos h]
    refine x_bipush (pc := 11) (nI 12) dX9_fixed_11 (by decide) ?_
    refine x_icmp_le_t (pc := 13) 18 dX9_fixed_13 (by decide) (nI_le h (by omega)) ?_
    refine x_iconst (pc := 18) (nI 1) dX9_fixed_18 (by decide) ?_
    refine x_aload_n (pc := 19) 0 dX9_fixed_19 rfl rfl ?_
    refine x_getr (pc := 20) (101) dX9_fixed_20 fX9_7 (zat_b rfl rfl) rfl ?_
    refine x_iconst (pc := 23) (nI 0) dX9_fixed_23 (by decide) ?_
    have hj24 : 0 < 13326 := by omega
    refine x_iald_h (pc := 24) (0) dX9_fixed_24 (zar_b rfl rfl rfl) rfl (by first | rfl | simp only [pk_mul, nI_add] | simp only [zon, pk_mul, nI_add]) hj24 (Nat.lt_of_lt_of_le hj24 (by decide)) ?_
    rw [zup_p (by decide), hW.v]
    refine x_ishl (pc := 25) dX9_fixed_25 ?_
    rw [zpow2 _ (by omega)]
    refine x_iconst (pc := 26) (nI 1) dX9_fixed_26 (by decide) ?_
    refine x_isub (pc := 27) dX9_fixed_27 ?_
    refine x_istore_n (pc := 28) 2 dX9_fixed_28 rfl (by decide) rfl ?_
    refine x_iload_n (pc := 29) 2 dX9_fixed_29 rfl rfl ?_
    refine x_istore_n (pc := 30) 3 dX9_fixed_30 rfl (by decide) rfl ?_
    refine x_iconst (pc := 31) (nI 0) dX9_fixed_31 (by decide) ?_
    refine x_istore (pc := 32) dX9_fixed_32 (by decide) rfl ?_
    refine x_iconst (pc := 34) (nI 0) dX9_fixed_34 (by decide) ?_
    refine x_istore (pc := 35) dX9_fixed_35 (by decide) rfl ?_
    exact l_fixed d hW h (2 ^ aV α) 0 (false, nI (2 ^ aV α) - nI 1) (by omega)
  · rw [if_neg h]
    refine x_bipush (pc := 11) (nI 12) dX9_fixed_11 (by decide) ?_
    refine x_icmp_le_f (pc := 13) 18 dX9_fixed_13 (by decide) (nI_ge (by omega) (by omega)) ?_
    refine x_iconst (pc := 16) (-1) dX9_fixed_16 (by decide) ?_
    refine x_iret (pc := 17) dX9_fixed_17 rfl ?_
    exact ⟨rfl, rfl⟩
end M23
