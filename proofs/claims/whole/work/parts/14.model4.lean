/-! the reference: more of the search's readers -/
def a_now (α : Nat → Nat → Int32) (v : Nat) : Bool := decide (¬ α 112 v = 0) && decide (α 106 v = α 100 11)
def a_levelNow (α : Nat → Nat → Int32) : Nat := zcnt (a_now α) 1 (aV α)
def a_latF (α : Nat → Nat → Int32) (v b : Nat) : Nat := if a_now α v = true ∧ (b = 0 ∨ α 108 b < α 108 v) then v else b
def a_latest (α : Nat → Nat → Int32) : Nat := zit (a_latF α) 1 (aV α) 0
def a_brF (α : Nat → Nat → Int32) (c but k : Nat) (a : Nat → Nat → Int32) : Nat → Nat → Int32 :=
  if zv (aL α c k) = but ∨ α 106 (zv (aL α c k)) = 0 then a else zup (zup a 112 (zv (aL α c k)) (nI 1)) 113 (zv (aL α c k)) (nI 1)
def a_brings (α : Nat → Nat → Int32) (c but : Nat) : Nat → Nat → Int32 := zit (a_brF α c but) 0 (aS α c) α
def a_drB (α : Nat → Nat → Int32) (v k : Nat) : Bool :=
  decide (¬ zv (aL α (α 107 v).toNatClampNeg k) = v) && decide (0 < α 106 (zv (aL α (α 107 v).toNatClampNeg k))) && decide (α 114 (zv (aL α (α 107 v).toNatClampNeg k)) = 0)
def a_dropped (α : Nat → Nat → Int32) (v : Nat) : Bool :=
  !(decide (α 106 v = α 100 11) || decide (α 107 v = -1)) && (zfind (a_drB α v) 0 (aS α (α 107 v).toNatClampNeg)).isNone
section M5
variable {E : zEnv} {κ α : Nat → Nat → Int32} {τ : (Nat → Nat → Int64) × (Nat → Nat)}
theorem l_levelNow (d : Nat) (hW : aW α) : ∀ m v n, v + m = aV α + 1 → n + m ≤ 31 → zX E (d + 1) mX9_levelNow 4 [some (.ref 100), some (.int (nI n)), some (.int (nI v))] [] (κ, α, τ) (fun r ν => r = some (.int (nI (n + zcnt (a_now α) v m))) ∧ ν = (κ, α, τ)) := by
  have h30 := hW.v30
  have hv := hW.v
  intro m
  induction m with
  | zero =>
    intro v n hm hn
    refine x_iload_n (pc := 4) 2 dX9_levelNow_4 rfl rfl ?_
    refine x_aload_n (pc := 5) 0 dX9_levelNow_5 rfl rfl ?_
    refine x_getr (pc := 6) (101) dX9_levelNow_6 fX9_7 (zat_b rfl rfl) rfl ?_
    refine x_iconst (pc := 9) (nI 0) dX9_levelNow_9 (by decide) ?_
    have hj10 : 0 < 13326 := by omega
    refine x_iald_h (pc := 10) (0) dX9_levelNow_10 (zar_b rfl rfl rfl) rfl (by first | rfl | simp only [pk_mul, nI_add] | simp only [zon, pk_mul, nI_add]) hj10 (Nat.lt_of_lt_of_le hj10 (by decide)) ?_
    rw [hv]
    refine x_icmp_gt_t (pc := 11) 50 dX9_levelNow_11 (by decide) (nI_lt (by omega) (by omega)) ?_
    refine x_iload_n (pc := 50) 1 dX9_levelNow_50 rfl rfl ?_
    refine x_iret (pc := 51) dX9_levelNow_51 rfl ?_
    exact ⟨rfl, rfl⟩
  | succ m ih =>
    intro v n hm hn
    refine x_iload_n (pc := 4) 2 dX9_levelNow_4 rfl rfl ?_
    refine x_aload_n (pc := 5) 0 dX9_levelNow_5 rfl rfl ?_
    refine x_getr (pc := 6) (101) dX9_levelNow_6 fX9_7 (zat_b rfl rfl) rfl ?_
    refine x_iconst (pc := 9) (nI 0) dX9_levelNow_9 (by decide) ?_
    have hj10 : 0 < 13326 := by omega
    refine x_iald_h (pc := 10) (0) dX9_levelNow_10 (zar_b rfl rfl rfl) rfl (by first | rfl | simp only [pk_mul, nI_add] | simp only [zon, pk_mul, nI_add]) hj10 (Nat.lt_of_lt_of_le hj10 (by decide)) ?_
    rw [hv]
    have step : zcnt (a_now α) v (m + 1) = (bif a_now α v then 1 else 0) + zcnt (a_now α) (v + 1) m := rfl
    rw [step]
    by_cases h1 : α 112 v = 0
    · have e : a_now α v = false := by simp [a_now, h1]
      rw [e]
      refine x_icmp_gt_f (pc := 11) 50 dX9_levelNow_11 (by decide) (nI_nlt (by omega) (by omega)) ?_
      refine x_iload_n (pc := 14) 1 dX9_levelNow_14 rfl rfl ?_
      refine x_aload_n (pc := 15) 0 dX9_levelNow_15 rfl rfl ?_
      refine x_getr (pc := 16) (112) dX9_levelNow_16 fX9_38 (zat_b rfl rfl) rfl ?_
      refine x_iload_n (pc := 19) 2 dX9_levelNow_19 rfl rfl ?_
      have hj20 : v < 31 := by omega
      refine x_zald_h (pc := 20) (v) dX9_levelNow_20 (zar_b rfl rfl rfl) rfl (by first | rfl | simp only [pk_mul, nI_add] | simp only [zon, pk_mul, nI_add]) hj20 (Nat.lt_of_lt_of_le hj20 (by decide)) ?_
      refine x_if_eq_t (pc := 21) 41 dX9_levelNow_21 (by decide) (h1) ?_
      refine x_iconst (pc := 41) (nI 0) dX9_levelNow_41 (by decide) ?_
      refine x_iadd (pc := 42) dX9_levelNow_42 ?_
      refine x_istore_n (pc := 43) 1 dX9_levelNow_43 rfl (by decide) rfl ?_
      refine x_iinc (pc := 44) (nI (v + 1)) dX9_levelNow_44 rfl (zinc _) (by decide) rfl ?_
      refine x_goto (pc := 47) 4 dX9_levelNow_47 (by decide) ?_
      rw [nI_add]
      have := ih (v + 1) n (by omega) (by omega)
      simp only [cond_false, Nat.zero_add] at this ⊢
      exact this
    · by_cases h2 : α 106 v = α 100 11
      · have e : a_now α v = true := by simp [a_now, h1, h2]
        rw [e]
        refine x_icmp_gt_f (pc := 11) 50 dX9_levelNow_11 (by decide) (nI_nlt (by omega) (by omega)) ?_
        refine x_iload_n (pc := 14) 1 dX9_levelNow_14 rfl rfl ?_
        refine x_aload_n (pc := 15) 0 dX9_levelNow_15 rfl rfl ?_
        refine x_getr (pc := 16) (112) dX9_levelNow_16 fX9_38 (zat_b rfl rfl) rfl ?_
        refine x_iload_n (pc := 19) 2 dX9_levelNow_19 rfl rfl ?_
        have hj20 : v < 31 := by omega
        refine x_zald_h (pc := 20) (v) dX9_levelNow_20 (zar_b rfl rfl rfl) rfl (by first | rfl | simp only [pk_mul, nI_add] | simp only [zon, pk_mul, nI_add]) hj20 (Nat.lt_of_lt_of_le hj20 (by decide)) ?_
        refine x_if_eq_f (pc := 21) 41 dX9_levelNow_21 (by decide) (h1) ?_
        refine x_aload_n (pc := 24) 0 dX9_levelNow_24 rfl rfl ?_
        refine x_getr (pc := 25) (106) dX9_levelNow_25 fX9_26 (zat_b rfl rfl) rfl ?_
        refine x_iload_n (pc := 28) 2 dX9_levelNow_28 rfl rfl ?_
        have hj29 : v < 31 := by omega
        refine x_iald_h (pc := 29) (v) dX9_levelNow_29 (zar_b rfl rfl rfl) rfl (by first | rfl | simp only [pk_mul, nI_add] | simp only [zon, pk_mul, nI_add]) hj29 (Nat.lt_of_lt_of_le hj29 (by decide)) ?_
        refine x_aload_n (pc := 30) 0 dX9_levelNow_30 rfl rfl ?_
        refine x_geti_h (pc := 31) dX9_levelNow_31 fX9_105 (zat_b rfl rfl) rfl rfl ?_
        refine x_icmp_ne_f (pc := 34) 41 dX9_levelNow_34 (by decide) (h2) ?_
        refine x_iconst (pc := 37) (nI 1) dX9_levelNow_37 (by decide) ?_
        refine x_goto (pc := 38) 42 dX9_levelNow_38 (by decide) ?_
        refine x_iadd (pc := 42) dX9_levelNow_42 ?_
        refine x_istore_n (pc := 43) 1 dX9_levelNow_43 rfl (by decide) rfl ?_
        refine x_iinc (pc := 44) (nI (v + 1)) dX9_levelNow_44 rfl (zinc _) (by decide) rfl ?_
        refine x_goto (pc := 47) 4 dX9_levelNow_47 (by decide) ?_
        rw [nI_add]
        have := ih (v + 1) (n + 1) (by omega) (by omega)
        rw [cond_true, ← Nat.add_assoc]
        exact this
      · have e : a_now α v = false := by simp [a_now, h2]
        rw [e]
        refine x_icmp_gt_f (pc := 11) 50 dX9_levelNow_11 (by decide) (nI_nlt (by omega) (by omega)) ?_
        refine x_iload_n (pc := 14) 1 dX9_levelNow_14 rfl rfl ?_
        refine x_aload_n (pc := 15) 0 dX9_levelNow_15 rfl rfl ?_
        refine x_getr (pc := 16) (112) dX9_levelNow_16 fX9_38 (zat_b rfl rfl) rfl ?_
        refine x_iload_n (pc := 19) 2 dX9_levelNow_19 rfl rfl ?_
        have hj20 : v < 31 := by omega
        refine x_zald_h (pc := 20) (v) dX9_levelNow_20 (zar_b rfl rfl rfl) rfl (by first | rfl | simp only [pk_mul, nI_add] | simp only [zon, pk_mul, nI_add]) hj20 (Nat.lt_of_lt_of_le hj20 (by decide)) ?_
        refine x_if_eq_f (pc := 21) 41 dX9_levelNow_21 (by decide) (h1) ?_
        refine x_aload_n (pc := 24) 0 dX9_levelNow_24 rfl rfl ?_
        refine x_getr (pc := 25) (106) dX9_levelNow_25 fX9_26 (zat_b rfl rfl) rfl ?_
        refine x_iload_n (pc := 28) 2 dX9_levelNow_28 rfl rfl ?_
        have hj29 : v < 31 := by omega
        refine x_iald_h (pc := 29) (v) dX9_levelNow_29 (zar_b rfl rfl rfl) rfl (by first | rfl | simp only [pk_mul, nI_add] | simp only [zon, pk_mul, nI_add]) hj29 (Nat.lt_of_lt_of_le hj29 (by decide)) ?_
        refine x_aload_n (pc := 30) 0 dX9_levelNow_30 rfl rfl ?_
        refine x_geti_h (pc := 31) dX9_levelNow_31 fX9_105 (zat_b rfl rfl) rfl rfl ?_
        refine x_icmp_ne_t (pc := 34) 41 dX9_levelNow_34 (by decide) (h2) ?_
        refine x_iconst (pc := 41) (nI 0) dX9_levelNow_41 (by decide) ?_
        refine x_iadd (pc := 42) dX9_levelNow_42 ?_
        refine x_istore_n (pc := 43) 1 dX9_levelNow_43 rfl (by decide) rfl ?_
        refine x_iinc (pc := 44) (nI (v + 1)) dX9_levelNow_44 rfl (zinc _) (by decide) rfl ?_
        refine x_goto (pc := 47) 4 dX9_levelNow_47 (by decide) ?_
        rw [nI_add]
        have := ih (v + 1) n (by omega) (by omega)
        simp only [cond_false, Nat.zero_add] at this ⊢
        exact this
theorem t_levelNow (d : Nat) (hW : aW α) : zTr E (d + 1) mX9_levelNow [.ref 100] (κ, α, τ) (some (.int (nI (a_levelNow α)))) (κ, α, τ) := by
  have h30 := hW.v30
  refine zM.tr (zM_of [some (.ref 100), none, none] (by decide) rfl (Nat.le_of_ble_eq_true rfl) ?_)
  refine x_iconst (pc := 0) (nI 0) dX9_levelNow_0 (by decide) ?_
  refine x_istore_n (pc := 1) 1 dX9_levelNow_1 rfl (by decide) rfl ?_
  refine x_iconst (pc := 2) (nI 1) dX9_levelNow_2 (by decide) ?_
  refine x_istore_n (pc := 3) 2 dX9_levelNow_3 rfl (by decide) rfl ?_
  have := l_levelNow (E := E) (κ := κ) (τ := τ) d hW (aV α) 1 0 (by omega) (by omega)
  rw [Nat.zero_add] at this
  exact this
theorem l_latest (d : Nat) (hW : aW α) : ∀ m v b, v + m = aV α + 1 → 1 ≤ v → b < v → zX E (d + 1) mX9_latest 4 [some (.ref 100), some (.int (nI b)), some (.int (nI v))] [] (κ, α, τ) (fun r ν => r = some (.int (nI (zit (a_latF α) v m b))) ∧ ν = (κ, α, τ)) := by
  have h30 := hW.v30
  have hv := hW.v
  intro m
  induction m with
  | zero =>
    intro v b hm hv1 hb
    refine x_iload_n (pc := 4) 2 dX9_latest_4 rfl rfl ?_
    refine x_aload_n (pc := 5) 0 dX9_latest_5 rfl rfl ?_
    refine x_getr (pc := 6) (101) dX9_latest_6 fX9_7 (zat_b rfl rfl) rfl ?_
    refine x_iconst (pc := 9) (nI 0) dX9_latest_9 (by decide) ?_
    have hj10 : 0 < 13326 := by omega
    refine x_iald_h (pc := 10) (0) dX9_latest_10 (zar_b rfl rfl rfl) rfl (by first | rfl | simp only [pk_mul, nI_add] | simp only [zon, pk_mul, nI_add]) hj10 (Nat.lt_of_lt_of_le hj10 (by decide)) ?_
    rw [hv]
    refine x_icmp_gt_t (pc := 11) 63 dX9_latest_11 (by decide) (nI_lt (by omega) (by omega)) ?_
    refine x_iload_n (pc := 63) 1 dX9_latest_63 rfl rfl ?_
    refine x_iret (pc := 64) dX9_latest_64 rfl ?_
    exact ⟨rfl, rfl⟩
  | succ m ih =>
    intro v b hm hv1 hb
    refine x_iload_n (pc := 4) 2 dX9_latest_4 rfl rfl ?_
    refine x_aload_n (pc := 5) 0 dX9_latest_5 rfl rfl ?_
    refine x_getr (pc := 6) (101) dX9_latest_6 fX9_7 (zat_b rfl rfl) rfl ?_
    refine x_iconst (pc := 9) (nI 0) dX9_latest_9 (by decide) ?_
    have hj10 : 0 < 13326 := by omega
    refine x_iald_h (pc := 10) (0) dX9_latest_10 (zar_b rfl rfl rfl) rfl (by first | rfl | simp only [pk_mul, nI_add] | simp only [zon, pk_mul, nI_add]) hj10 (Nat.lt_of_lt_of_le hj10 (by decide)) ?_
    rw [hv]
    have step : zit (a_latF α) v (m + 1) b = zit (a_latF α) (v + 1) m (a_latF α v b) := rfl
    rw [step]
    have no : a_now α v = false → a_latF α v b = b := fun e => by unfold a_latF; rw [e]; simp
    by_cases h1 : α 112 v = 0
    · rw [no (by simp [a_now, h1])]
      refine x_icmp_gt_f (pc := 11) 63 dX9_latest_11 (by decide) (nI_nlt (by omega) (by omega)) ?_
      refine x_aload_n (pc := 14) 0 dX9_latest_14 rfl rfl ?_
      refine x_getr (pc := 15) (112) dX9_latest_15 fX9_38 (zat_b rfl rfl) rfl ?_
      refine x_iload_n (pc := 18) 2 dX9_latest_18 rfl rfl ?_
      have hj19 : v < 31 := by omega
      refine x_zald_h (pc := 19) (v) dX9_latest_19 (zar_b rfl rfl rfl) rfl (by first | rfl | simp only [pk_mul, nI_add] | simp only [zon, pk_mul, nI_add]) hj19 (Nat.lt_of_lt_of_le hj19 (by decide)) ?_
      refine x_if_eq_t (pc := 20) 57 dX9_latest_20 (by decide) (h1) ?_
      refine x_iinc (pc := 57) (nI (v + 1)) dX9_latest_57 rfl (zinc _) (by decide) rfl ?_
      refine x_goto (pc := 60) 4 dX9_latest_60 (by decide) ?_
      exact ih (v + 1) b (by omega) (by omega) (by omega)
    · by_cases h2 : α 106 v = α 100 11
      · have e : a_now α v = true := by simp [a_now, h1, h2]
        by_cases h3 : b = 0
        · have e2 : a_latF α v b = v := by unfold a_latF; rw [if_pos ⟨e, Or.inl h3⟩]
          rw [e2]
          refine x_icmp_gt_f (pc := 11) 63 dX9_latest_11 (by decide) (nI_nlt (by omega) (by omega)) ?_
          refine x_aload_n (pc := 14) 0 dX9_latest_14 rfl rfl ?_
          refine x_getr (pc := 15) (112) dX9_latest_15 fX9_38 (zat_b rfl rfl) rfl ?_
          refine x_iload_n (pc := 18) 2 dX9_latest_18 rfl rfl ?_
          have hj19 : v < 31 := by omega
          refine x_zald_h (pc := 19) (v) dX9_latest_19 (zar_b rfl rfl rfl) rfl (by first | rfl | simp only [pk_mul, nI_add] | simp only [zon, pk_mul, nI_add]) hj19 (Nat.lt_of_lt_of_le hj19 (by decide)) ?_
          refine x_if_eq_f (pc := 20) 57 dX9_latest_20 (by decide) (h1) ?_
          refine x_aload_n (pc := 23) 0 dX9_latest_23 rfl rfl ?_
          refine x_getr (pc := 24) (106) dX9_latest_24 fX9_26 (zat_b rfl rfl) rfl ?_
          refine x_iload_n (pc := 27) 2 dX9_latest_27 rfl rfl ?_
          have hj28 : v < 31 := by omega
          refine x_iald_h (pc := 28) (v) dX9_latest_28 (zar_b rfl rfl rfl) rfl (by first | rfl | simp only [pk_mul, nI_add] | simp only [zon, pk_mul, nI_add]) hj28 (Nat.lt_of_lt_of_le hj28 (by decide)) ?_
          refine x_aload_n (pc := 29) 0 dX9_latest_29 rfl rfl ?_
          refine x_geti_h (pc := 30) dX9_latest_30 fX9_105 (zat_b rfl rfl) rfl rfl ?_
          refine x_icmp_ne_f (pc := 33) 57 dX9_latest_33 (by decide) (h2) ?_
          refine x_iload_n (pc := 36) 1 dX9_latest_36 rfl rfl ?_
          refine x_if_eq_t (pc := 37) 55 dX9_latest_37 (by decide) (by rw [h3]; rfl) ?_
          refine x_iload_n (pc := 55) 2 dX9_latest_55 rfl rfl ?_
          refine x_istore_n (pc := 56) 1 dX9_latest_56 rfl (by decide) rfl ?_
          refine x_iinc (pc := 57) (nI (v + 1)) dX9_latest_57 rfl (zinc _) (by decide) rfl ?_
          refine x_goto (pc := 60) 4 dX9_latest_60 (by decide) ?_
          exact ih (v + 1) v (by omega) (by omega) (by omega)
        · by_cases h4 : α 108 b < α 108 v
          · have e2 : a_latF α v b = v := by unfold a_latF; rw [if_pos ⟨e, Or.inr h4⟩]
            rw [e2]
            refine x_icmp_gt_f (pc := 11) 63 dX9_latest_11 (by decide) (nI_nlt (by omega) (by omega)) ?_
            refine x_aload_n (pc := 14) 0 dX9_latest_14 rfl rfl ?_
            refine x_getr (pc := 15) (112) dX9_latest_15 fX9_38 (zat_b rfl rfl) rfl ?_
            refine x_iload_n (pc := 18) 2 dX9_latest_18 rfl rfl ?_
            have hj19 : v < 31 := by omega
            refine x_zald_h (pc := 19) (v) dX9_latest_19 (zar_b rfl rfl rfl) rfl (by first | rfl | simp only [pk_mul, nI_add] | simp only [zon, pk_mul, nI_add]) hj19 (Nat.lt_of_lt_of_le hj19 (by decide)) ?_
            refine x_if_eq_f (pc := 20) 57 dX9_latest_20 (by decide) (h1) ?_
            refine x_aload_n (pc := 23) 0 dX9_latest_23 rfl rfl ?_
            refine x_getr (pc := 24) (106) dX9_latest_24 fX9_26 (zat_b rfl rfl) rfl ?_
            refine x_iload_n (pc := 27) 2 dX9_latest_27 rfl rfl ?_
            have hj28 : v < 31 := by omega
            refine x_iald_h (pc := 28) (v) dX9_latest_28 (zar_b rfl rfl rfl) rfl (by first | rfl | simp only [pk_mul, nI_add] | simp only [zon, pk_mul, nI_add]) hj28 (Nat.lt_of_lt_of_le hj28 (by decide)) ?_
            refine x_aload_n (pc := 29) 0 dX9_latest_29 rfl rfl ?_
            refine x_geti_h (pc := 30) dX9_latest_30 fX9_105 (zat_b rfl rfl) rfl rfl ?_
            refine x_icmp_ne_f (pc := 33) 57 dX9_latest_33 (by decide) (h2) ?_
            refine x_iload_n (pc := 36) 1 dX9_latest_36 rfl rfl ?_
            refine x_if_eq_f (pc := 37) 55 dX9_latest_37 (by decide) (nI_ne0 (by omega) (by omega)) ?_
            refine x_aload_n (pc := 40) 0 dX9_latest_40 rfl rfl ?_
            refine x_getr (pc := 41) (108) dX9_latest_41 fX9_32 (zat_b rfl rfl) rfl ?_
            refine x_iload_n (pc := 44) 2 dX9_latest_44 rfl rfl ?_
            have hj45 : v < 31 := by omega
            refine x_iald_h (pc := 45) (v) dX9_latest_45 (zar_b rfl rfl rfl) rfl (by first | rfl | simp only [pk_mul, nI_add] | simp only [zon, pk_mul, nI_add]) hj45 (Nat.lt_of_lt_of_le hj45 (by decide)) ?_
            refine x_aload_n (pc := 46) 0 dX9_latest_46 rfl rfl ?_
            refine x_getr (pc := 47) (108) dX9_latest_47 fX9_32 (zat_b rfl rfl) rfl ?_
            refine x_iload_n (pc := 50) 1 dX9_latest_50 rfl rfl ?_
            have hj51 : b < 31 := by omega
            refine x_iald_h (pc := 51) (b) dX9_latest_51 (zar_b rfl rfl rfl) rfl (by first | rfl | simp only [pk_mul, nI_add] | simp only [zon, pk_mul, nI_add]) hj51 (Nat.lt_of_lt_of_le hj51 (by decide)) ?_
            refine x_icmp_le_f (pc := 52) 57 dX9_latest_52 (by decide) (Int32.not_le.mpr h4) ?_
            refine x_iload_n (pc := 55) 2 dX9_latest_55 rfl rfl ?_
            refine x_istore_n (pc := 56) 1 dX9_latest_56 rfl (by decide) rfl ?_
            refine x_iinc (pc := 57) (nI (v + 1)) dX9_latest_57 rfl (zinc _) (by decide) rfl ?_
            refine x_goto (pc := 60) 4 dX9_latest_60 (by decide) ?_
            exact ih (v + 1) v (by omega) (by omega) (by omega)
          · have e2 : a_latF α v b = b := by unfold a_latF; rw [if_neg (fun q => q.2.elim h3 h4)]
            rw [e2]
            refine x_icmp_gt_f (pc := 11) 63 dX9_latest_11 (by decide) (nI_nlt (by omega) (by omega)) ?_
            refine x_aload_n (pc := 14) 0 dX9_latest_14 rfl rfl ?_
            refine x_getr (pc := 15) (112) dX9_latest_15 fX9_38 (zat_b rfl rfl) rfl ?_
            refine x_iload_n (pc := 18) 2 dX9_latest_18 rfl rfl ?_
            have hj19 : v < 31 := by omega
            refine x_zald_h (pc := 19) (v) dX9_latest_19 (zar_b rfl rfl rfl) rfl (by first | rfl | simp only [pk_mul, nI_add] | simp only [zon, pk_mul, nI_add]) hj19 (Nat.lt_of_lt_of_le hj19 (by decide)) ?_
            refine x_if_eq_f (pc := 20) 57 dX9_latest_20 (by decide) (h1) ?_
            refine x_aload_n (pc := 23) 0 dX9_latest_23 rfl rfl ?_
            refine x_getr (pc := 24) (106) dX9_latest_24 fX9_26 (zat_b rfl rfl) rfl ?_
            refine x_iload_n (pc := 27) 2 dX9_latest_27 rfl rfl ?_
            have hj28 : v < 31 := by omega
            refine x_iald_h (pc := 28) (v) dX9_latest_28 (zar_b rfl rfl rfl) rfl (by first | rfl | simp only [pk_mul, nI_add] | simp only [zon, pk_mul, nI_add]) hj28 (Nat.lt_of_lt_of_le hj28 (by decide)) ?_
            refine x_aload_n (pc := 29) 0 dX9_latest_29 rfl rfl ?_
            refine x_geti_h (pc := 30) dX9_latest_30 fX9_105 (zat_b rfl rfl) rfl rfl ?_
            refine x_icmp_ne_f (pc := 33) 57 dX9_latest_33 (by decide) (h2) ?_
            refine x_iload_n (pc := 36) 1 dX9_latest_36 rfl rfl ?_
            refine x_if_eq_f (pc := 37) 55 dX9_latest_37 (by decide) (nI_ne0 (by omega) (by omega)) ?_
            refine x_aload_n (pc := 40) 0 dX9_latest_40 rfl rfl ?_
            refine x_getr (pc := 41) (108) dX9_latest_41 fX9_32 (zat_b rfl rfl) rfl ?_
            refine x_iload_n (pc := 44) 2 dX9_latest_44 rfl rfl ?_
            have hj45 : v < 31 := by omega
            refine x_iald_h (pc := 45) (v) dX9_latest_45 (zar_b rfl rfl rfl) rfl (by first | rfl | simp only [pk_mul, nI_add] | simp only [zon, pk_mul, nI_add]) hj45 (Nat.lt_of_lt_of_le hj45 (by decide)) ?_
            refine x_aload_n (pc := 46) 0 dX9_latest_46 rfl rfl ?_
            refine x_getr (pc := 47) (108) dX9_latest_47 fX9_32 (zat_b rfl rfl) rfl ?_
            refine x_iload_n (pc := 50) 1 dX9_latest_50 rfl rfl ?_
            have hj51 : b < 31 := by omega
            refine x_iald_h (pc := 51) (b) dX9_latest_51 (zar_b rfl rfl rfl) rfl (by first | rfl | simp only [pk_mul, nI_add] | simp only [zon, pk_mul, nI_add]) hj51 (Nat.lt_of_lt_of_le hj51 (by decide)) ?_
            refine x_icmp_le_t (pc := 52) 57 dX9_latest_52 (by decide) (Int32.not_lt.mp h4) ?_
            refine x_iinc (pc := 57) (nI (v + 1)) dX9_latest_57 rfl (zinc _) (by decide) rfl ?_
            refine x_goto (pc := 60) 4 dX9_latest_60 (by decide) ?_
            exact ih (v + 1) b (by omega) (by omega) (by omega)
      · rw [no (by simp [a_now, h2])]
        refine x_icmp_gt_f (pc := 11) 63 dX9_latest_11 (by decide) (nI_nlt (by omega) (by omega)) ?_
        refine x_aload_n (pc := 14) 0 dX9_latest_14 rfl rfl ?_
        refine x_getr (pc := 15) (112) dX9_latest_15 fX9_38 (zat_b rfl rfl) rfl ?_
        refine x_iload_n (pc := 18) 2 dX9_latest_18 rfl rfl ?_
        have hj19 : v < 31 := by omega
        refine x_zald_h (pc := 19) (v) dX9_latest_19 (zar_b rfl rfl rfl) rfl (by first | rfl | simp only [pk_mul, nI_add] | simp only [zon, pk_mul, nI_add]) hj19 (Nat.lt_of_lt_of_le hj19 (by decide)) ?_
        refine x_if_eq_f (pc := 20) 57 dX9_latest_20 (by decide) (h1) ?_
        refine x_aload_n (pc := 23) 0 dX9_latest_23 rfl rfl ?_
        refine x_getr (pc := 24) (106) dX9_latest_24 fX9_26 (zat_b rfl rfl) rfl ?_
        refine x_iload_n (pc := 27) 2 dX9_latest_27 rfl rfl ?_
        have hj28 : v < 31 := by omega
        refine x_iald_h (pc := 28) (v) dX9_latest_28 (zar_b rfl rfl rfl) rfl (by first | rfl | simp only [pk_mul, nI_add] | simp only [zon, pk_mul, nI_add]) hj28 (Nat.lt_of_lt_of_le hj28 (by decide)) ?_
        refine x_aload_n (pc := 29) 0 dX9_latest_29 rfl rfl ?_
        refine x_geti_h (pc := 30) dX9_latest_30 fX9_105 (zat_b rfl rfl) rfl rfl ?_
        refine x_icmp_ne_t (pc := 33) 57 dX9_latest_33 (by decide) (h2) ?_
        refine x_iinc (pc := 57) (nI (v + 1)) dX9_latest_57 rfl (zinc _) (by decide) rfl ?_
        refine x_goto (pc := 60) 4 dX9_latest_60 (by decide) ?_
        exact ih (v + 1) b (by omega) (by omega) (by omega)
theorem t_latest (d : Nat) (hW : aW α) : zTr E (d + 1) mX9_latest [.ref 100] (κ, α, τ) (some (.int (nI (a_latest α)))) (κ, α, τ) := by
  have h30 := hW.v30
  refine zM.tr (zM_of [some (.ref 100), none, none] (by decide) rfl (Nat.le_of_ble_eq_true rfl) ?_)
  refine x_iconst (pc := 0) (nI 0) dX9_latest_0 (by decide) ?_
  refine x_istore_n (pc := 1) 1 dX9_latest_1 rfl (by decide) rfl ?_
  refine x_iconst (pc := 2) (nI 1) dX9_latest_2 (by decide) ?_
  refine x_istore_n (pc := 3) 2 dX9_latest_3 rfl (by decide) rfl ?_
  exact l_latest d hW (aV α) 1 0 (by omega) (by omega) (by omega)
/-- what has the same row 101 and levels reads alike -/
theorem aW.off {L : List Nat} {β : Nat → Nat → Int32} (h : aW α) (ho : zoff L α β) (hL : 101 ∉ L) : aW β := by
  have e := ho 101 hL
  unfold aW aV aN aS aL at *
  rw [e]
  exact h
theorem zo_V {L : List Nat} {α β : Nat → Nat → Int32} (ho : zoff L α β) (hL : 101 ∉ L) : aV β = aV α := by unfold aV; rw [ho 101 hL]
theorem zo_N {L : List Nat} {α β : Nat → Nat → Int32} (ho : zoff L α β) (hL : 101 ∉ L) : aN β = aN α := by unfold aN; rw [ho 101 hL]
theorem zo_S {L : List Nat} {α β : Nat → Nat → Int32} (ho : zoff L α β) (hL : 101 ∉ L) (c : Nat) : aS β c = aS α c := by unfold aS; rw [ho 101 hL]
theorem zo_L {L : List Nat} {α β : Nat → Nat → Int32} (ho : zoff L α β) (hL : 101 ∉ L) (c k : Nat) : aL β c k = aL α c k := by unfold aL; rw [ho 101 hL]
theorem l_brings (d : Nat) {c but : Nat} (hW : aW α) (hc : c < aN α) (hbut : but < 2 ^ 31) : ∀ m k β, k + m = aS α c → zoff [112, 113] α β → zX E (d + 2) mX9_brings 2 [some (.ref 100), some (.int (nI c)), some (.int (nI but)), some (.int (nI k)), none] [] (κ, β, τ) (fun r ν => r = none ∧ ν = (κ, zit (a_brF α c but) k m β, τ)) := by
  have hs := hW.s30 hc
  intro m
  induction m with
  | zero =>
    intro k β hk ho
    have hWb := hW.off ho (by decide)
    have hcb : c < aN β := by rw [zo_N ho (by decide)]; exact hc
    have hsb := zo_S ho (by decide) c
    refine x_iload_n (pc := 2) 3 dX9_brings_2 rfl rfl ?_
    refine x_aload_n (pc := 3) 0 dX9_brings_3 rfl rfl ?_
    refine x_iload_n (pc := 4) 1 dX9_brings_4 rfl rfl ?_
    refine x_callV1i (pc := 5) dX9_brings_5 lX9_99 (zat_b rfl rfl) rfl (t_sizeOfW d hWb hcb) (Nat.le_of_ble_eq_true rfl) (Or.inl zgr) ?_
    refine x_icmp_ge_t (pc := 8) 63 dX9_brings_8 (by decide) (nI_le (by omega) (by omega)) ?_
    refine x_vret (pc := 63) dX9_brings_63 rfl ?_
    exact ⟨rfl, rfl⟩
  | succ m ih =>
    intro k β hk ho
    have hWb := hW.off ho (by decide)
    have hcb : c < aN β := by rw [zo_N ho (by decide)]; exact hc
    have hsb := zo_S ho (by decide) c
    have hl := hW.l hc (show k < aS α c by omega)
    obtain ⟨g1, g2, g3, g4, g5⟩ := hl.is (Nat.le_refl _)
    refine x_iload_n (pc := 2) 3 dX9_brings_2 rfl rfl ?_
    refine x_aload_n (pc := 3) 0 dX9_brings_3 rfl rfl ?_
    refine x_iload_n (pc := 4) 1 dX9_brings_4 rfl rfl ?_
    refine x_callV1i (pc := 5) dX9_brings_5 lX9_99 (zat_b rfl rfl) rfl (t_sizeOfW d hWb hcb) (Nat.le_of_ble_eq_true rfl) (Or.inl zgr) ?_
    refine x_icmp_ge_f (pc := 8) 63 dX9_brings_8 (by decide) (nI_ge (by omega) (by omega)) ?_
    refine x_aload_n (pc := 11) 0 dX9_brings_11 rfl rfl ?_
    refine x_iload_n (pc := 12) 1 dX9_brings_12 rfl rfl ?_
    refine x_iload_n (pc := 13) 3 dX9_brings_13 rfl rfl ?_
    refine x_callV2i (pc := 14) dX9_brings_14 lX9_108 (zat_b rfl rfl) rfl (t_literalW d hWb hcb (by omega)) (Nat.le_of_ble_eq_true rfl) (Or.inl zgr) ?_
    rw [zo_L ho (by decide) c k]
    refine x_callS1i (pc := 17) dX9_brings_17 lX9_71 (t_size d _) (Nat.le_of_ble_eq_true rfl) (Or.inl zgr) ?_
    rw [g3]
    have step : zit (a_brF α c but) k (m + 1) β = zit (a_brF α c but) (k + 1) m (a_brF α c but k β) := rfl
    rw [step]
    by_cases h1 : zv (aL α c k) = but
    · have e : a_brF α c but k β = β := by unfold a_brF; rw [if_pos (Or.inl h1)]
      rw [e]
      refine x_istore (pc := 20) dX9_brings_20 (by decide) rfl ?_
      refine x_iload (pc := 22) dX9_brings_22 rfl ?_
      refine x_iload_n (pc := 24) 2 dX9_brings_24 rfl rfl ?_
      refine x_icmp_eq_t (pc := 25) 57 dX9_brings_25 (by decide) (by rw [h1]) ?_
      refine x_iinc (pc := 57) (nI (k + 1)) dX9_brings_57 rfl (zinc _) (by decide) rfl ?_
      refine x_goto (pc := 60) 2 dX9_brings_60 (by decide) ?_
      refine zX.sub (zs1 (zs1 (zs1 (zs1 (zsn zse))))) ?_
      exact ih (k + 1) β (by omega) ho
    · have h1' : ¬ nI (zv (aL α c k)) = nI but := fun q => h1 ((nI_eq (by omega) hbut).mp q)
      by_cases h2 : α 106 (zv (aL α c k)) = 0
      · have e : a_brF α c but k β = β := by unfold a_brF; rw [if_pos (Or.inr h2)]
        rw [e]
        refine x_istore (pc := 20) dX9_brings_20 (by decide) rfl ?_
        refine x_iload (pc := 22) dX9_brings_22 rfl ?_
        refine x_iload_n (pc := 24) 2 dX9_brings_24 rfl rfl ?_
        refine x_icmp_eq_f (pc := 25) 57 dX9_brings_25 (by decide) (h1') ?_
        refine x_aload_n (pc := 28) 0 dX9_brings_28 rfl rfl ?_
        refine x_getr (pc := 29) (106) dX9_brings_29 fX9_26 (zat_b rfl rfl) rfl ?_
        refine x_iload (pc := 32) dX9_brings_32 rfl ?_
        have hj34 : zv (aL α c k) < 31 := by omega
        refine x_iald_h (pc := 34) (zv (aL α c k)) dX9_brings_34 (zar_b rfl rfl rfl) rfl (by first | rfl | simp only [pk_mul, nI_add] | simp only [zon, pk_mul, nI_add]) hj34 (Nat.lt_of_lt_of_le hj34 (by decide)) ?_
        refine x_if_ne_f (pc := 35) 41 dX9_brings_35 (by decide) (by rw [ho.at (by decide)]; exact h2) ?_
        refine x_goto (pc := 38) 57 dX9_brings_38 (by decide) ?_
        refine x_iinc (pc := 57) (nI (k + 1)) dX9_brings_57 rfl (zinc _) (by decide) rfl ?_
        refine x_goto (pc := 60) 2 dX9_brings_60 (by decide) ?_
        refine zX.sub (zs1 (zs1 (zs1 (zs1 (zsn zse))))) ?_
        exact ih (k + 1) β (by omega) ho
      · have e : a_brF α c but k β = zup (zup β 112 (zv (aL α c k)) (nI 1)) 113 (zv (aL α c k)) (nI 1) := by unfold a_brF; rw [if_neg (fun q => q.elim h1 h2)]
        rw [e]
        refine x_istore (pc := 20) dX9_brings_20 (by decide) rfl ?_
        refine x_iload (pc := 22) dX9_brings_22 rfl ?_
        refine x_iload_n (pc := 24) 2 dX9_brings_24 rfl rfl ?_
        refine x_icmp_eq_f (pc := 25) 57 dX9_brings_25 (by decide) (h1') ?_
        refine x_aload_n (pc := 28) 0 dX9_brings_28 rfl rfl ?_
        refine x_getr (pc := 29) (106) dX9_brings_29 fX9_26 (zat_b rfl rfl) rfl ?_
        refine x_iload (pc := 32) dX9_brings_32 rfl ?_
        have hj34 : zv (aL α c k) < 31 := by omega
        refine x_iald_h (pc := 34) (zv (aL α c k)) dX9_brings_34 (zar_b rfl rfl rfl) rfl (by first | rfl | simp only [pk_mul, nI_add] | simp only [zon, pk_mul, nI_add]) hj34 (Nat.lt_of_lt_of_le hj34 (by decide)) ?_
        refine x_if_ne_t (pc := 35) 41 dX9_brings_35 (by decide) (by rw [ho.at (by decide)]; exact h2) ?_
        refine x_aload_n (pc := 41) 0 dX9_brings_41 rfl rfl ?_
        refine x_getr (pc := 42) (112) dX9_brings_42 fX9_38 (zat_b rfl rfl) rfl ?_
        refine x_iload (pc := 45) dX9_brings_45 rfl ?_
        refine x_iconst (pc := 47) (nI 1) dX9_brings_47 (by decide) ?_
        have hj48 : zv (aL α c k) < 31 := by omega
        refine x_zast_h (pc := 48) (zv (aL α c k)) dX9_brings_48 (zar_b rfl rfl rfl) rfl (by first | rfl | simp only [pk_mul, nI_add] | simp only [zon, pk_mul, nI_add]) hj48 (Nat.lt_of_lt_of_le hj48 (by decide)) (by decide) ?_
        refine x_aload_n (pc := 49) 0 dX9_brings_49 rfl rfl ?_
        refine x_getr (pc := 50) (113) dX9_brings_50 fX9_41 (zat_b rfl rfl) rfl ?_
        refine x_iload (pc := 53) dX9_brings_53 rfl ?_
        refine x_iconst (pc := 55) (nI 1) dX9_brings_55 (by decide) ?_
        have hj56 : zv (aL α c k) < 31 := by omega
        refine x_zast_h (pc := 56) (zv (aL α c k)) dX9_brings_56 (zar_b rfl rfl rfl) rfl (by first | rfl | simp only [pk_mul, nI_add] | simp only [zon, pk_mul, nI_add]) hj56 (Nat.lt_of_lt_of_le hj56 (by decide)) (by decide) ?_
        refine x_iinc (pc := 57) (nI (k + 1)) dX9_brings_57 rfl (zinc _) (by decide) rfl ?_
        refine x_goto (pc := 60) 2 dX9_brings_60 (by decide) ?_
        refine zX.sub (zs1 (zs1 (zs1 (zs1 (zsn zse))))) ?_
        exact ih (k + 1) _ (by omega) ((ho.up (by decide)).up (by decide))
theorem t_brings (d : Nat) {c but : Nat} (hW : aW α) (hc : c < aN α) (hbut : but < 2 ^ 31) : zTr E (d + 2) mX9_brings [.ref 100, .int (nI c), .int (nI but)] (κ, α, τ) none (κ, a_brings α c but, τ) := by
  refine zM.tr (zM_of [some (.ref 100), some (.int (nI c)), some (.int (nI but)), none, none] (by decide) rfl (Nat.le_of_ble_eq_true rfl) ?_)
  refine x_iconst (pc := 0) (nI 0) dX9_brings_0 (by decide) ?_
  refine x_istore_n (pc := 1) 3 dX9_brings_1 rfl (by decide) rfl ?_
  exact l_brings d hW hc hbut (aS α c) 0 α (by omega) zoff.rf
theorem zit_off {L : List Nat} (f : Nat → (Nat → Nat → Int32) → (Nat → Nat → Int32)) (hf : ∀ k a, zoff L a (f k a)) : ∀ m k α, zoff L α (zit f k m α)
  | 0, k, α => zoff.rf
  | m + 1, k, α => (hf k α).tr (zit_off f hf m (k + 1) (f k α))
theorem a_brF_off (α : Nat → Nat → Int32) (c but k : Nat) (a : Nat → Nat → Int32) : zoff [112, 113] a (a_brF α c but k a) := by
  unfold a_brF
  split
  · exact zoff.rf
  · exact (zoff.rf.up (by decide)).up (by decide)
theorem a_brings_off (α : Nat → Nat → Int32) (c but : Nat) : zoff [112, 113] α (a_brings α c but) := zit_off _ (a_brF_off α c but) _ _ _
theorem l_isDropped (d : Nat) {v c : Nat} (hW : aW α) (hv : v ≤ 30) (hc : c < aN α) (hr : α 107 v = nI c) : ∀ m k, k + m = aS α c → zX E (d + 2) mX9_isDropped 27 [some (.ref 100), some (.int (nI v)), some (.int (nI k)), none] [] (κ, α, τ) (fun r ν => r = some (.int (zbo (zfind (a_drB α v) k m).isNone)) ∧ ν = (κ, α, τ)) := by
  have hs := hW.s30 hc
  have hn := hW.n400
  have hrc : (α 107 v).toNatClampNeg = c := by rw [hr]; exact nI_clamp (by omega)
  intro m
  induction m with
  | zero =>
    intro k hk
    refine x_iload_n (pc := 27) 2 dX9_isDropped_27 rfl rfl ?_
    refine x_aload_n (pc := 28) 0 dX9_isDropped_28 rfl rfl ?_
    refine x_aload_n (pc := 29) 0 dX9_isDropped_29 rfl rfl ?_
    refine x_getr (pc := 30) (107) dX9_isDropped_30 fX9_29 (zat_b rfl rfl) rfl ?_
    refine x_iload_n (pc := 33) 1 dX9_isDropped_33 rfl rfl ?_
    have hj34 : v < 31 := by omega
    refine x_iald_h (pc := 34) (v) dX9_isDropped_34 (zar_b rfl rfl rfl) rfl (by first | rfl | simp only [pk_mul, nI_add] | simp only [zon, pk_mul, nI_add]) hj34 (Nat.lt_of_lt_of_le hj34 (by decide)) ?_
    rw [hr]
    refine x_callV1i (pc := 35) dX9_isDropped_35 lX9_99 (zat_b rfl rfl) rfl (t_sizeOfW d hW hc) (Nat.le_of_ble_eq_true rfl) (Or.inl zgr) ?_
    refine x_icmp_ge_t (pc := 38) 87 dX9_isDropped_38 (by decide) (nI_le (by omega) (by omega)) ?_
    refine x_iconst (pc := 87) (nI 1) dX9_isDropped_87 (by decide) ?_
    refine x_zret (pc := 88) dX9_isDropped_88 rfl (by decide) ?_
    exact ⟨rfl, rfl⟩
  | succ m ih =>
    intro k hk
    have hl := hW.l hc (show k < aS α c by omega)
    obtain ⟨g1, g2, g3, g4, g5⟩ := hl.is (Nat.le_refl _)
    refine x_iload_n (pc := 27) 2 dX9_isDropped_27 rfl rfl ?_
    refine x_aload_n (pc := 28) 0 dX9_isDropped_28 rfl rfl ?_
    refine x_aload_n (pc := 29) 0 dX9_isDropped_29 rfl rfl ?_
    refine x_getr (pc := 30) (107) dX9_isDropped_30 fX9_29 (zat_b rfl rfl) rfl ?_
    refine x_iload_n (pc := 33) 1 dX9_isDropped_33 rfl rfl ?_
    have hj34 : v < 31 := by omega
    refine x_iald_h (pc := 34) (v) dX9_isDropped_34 (zar_b rfl rfl rfl) rfl (by first | rfl | simp only [pk_mul, nI_add] | simp only [zon, pk_mul, nI_add]) hj34 (Nat.lt_of_lt_of_le hj34 (by decide)) ?_
    rw [hr]
    refine x_callV1i (pc := 35) dX9_isDropped_35 lX9_99 (zat_b rfl rfl) rfl (t_sizeOfW d hW hc) (Nat.le_of_ble_eq_true rfl) (Or.inl zgr) ?_
    refine x_icmp_ge_f (pc := 38) 87 dX9_isDropped_38 (by decide) (nI_ge (by omega) (by omega)) ?_
    refine x_aload_n (pc := 41) 0 dX9_isDropped_41 rfl rfl ?_
    refine x_aload_n (pc := 42) 0 dX9_isDropped_42 rfl rfl ?_
    refine x_getr (pc := 43) (107) dX9_isDropped_43 fX9_29 (zat_b rfl rfl) rfl ?_
    refine x_iload_n (pc := 46) 1 dX9_isDropped_46 rfl rfl ?_
    have hj47 : v < 31 := by omega
    refine x_iald_h (pc := 47) (v) dX9_isDropped_47 (zar_b rfl rfl rfl) rfl (by first | rfl | simp only [pk_mul, nI_add] | simp only [zon, pk_mul, nI_add]) hj47 (Nat.lt_of_lt_of_le hj47 (by decide)) ?_
    rw [hr]
    refine x_iload_n (pc := 48) 2 dX9_isDropped_48 rfl rfl ?_
    refine x_callV2i (pc := 49) dX9_isDropped_49 lX9_108 (zat_b rfl rfl) rfl (t_literalW d hW hc (by omega)) (Nat.le_of_ble_eq_true rfl) (Or.inl zgr) ?_
    refine x_callS1i (pc := 52) dX9_isDropped_52 lX9_71 (t_size d _) (Nat.le_of_ble_eq_true rfl) (Or.inl zgr) ?_
    rw [g3]
    have step : zfind (a_drB α v) k (m + 1) = bif a_drB α v k then some k else zfind (a_drB α v) (k + 1) m := rfl
    rw [step]
    by_cases h1 : zv (aL α c k) = v
    · have e : a_drB α v k = false := by unfold a_drB; rw [hrc]; simp [h1]
      rw [e]
      refine x_istore_n (pc := 55) 3 dX9_isDropped_55 rfl (by decide) rfl ?_
      refine x_iload_n (pc := 56) 3 dX9_isDropped_56 rfl rfl ?_
      refine x_iload_n (pc := 57) 1 dX9_isDropped_57 rfl rfl ?_
      refine x_icmp_eq_t (pc := 58) 81 dX9_isDropped_58 (by decide) (by rw [h1]) ?_
      refine x_iinc (pc := 81) (nI (k + 1)) dX9_isDropped_81 rfl (zinc _) (by decide) rfl ?_
      refine x_goto (pc := 84) 27 dX9_isDropped_84 (by decide) ?_
      refine zX.sub (zs1 (zs1 (zs1 (zsn zse)))) ?_
      exact ih (k + 1) (by omega)
    · have h1' : ¬ nI (zv (aL α c k)) = nI v := fun q => h1 ((nI_eq (by omega) (by omega)).mp q)
      by_cases h2 : 0 < α 106 (zv (aL α c k))
      · by_cases h3 : α 114 (zv (aL α c k)) = 0
        · have e : a_drB α v k = true := by unfold a_drB; rw [hrc]; simp [h1, h2, h3]
          rw [e]
          refine x_istore_n (pc := 55) 3 dX9_isDropped_55 rfl (by decide) rfl ?_
          refine x_iload_n (pc := 56) 3 dX9_isDropped_56 rfl rfl ?_
          refine x_iload_n (pc := 57) 1 dX9_isDropped_57 rfl rfl ?_
          refine x_icmp_eq_f (pc := 58) 81 dX9_isDropped_58 (by decide) (h1') ?_
          refine x_aload_n (pc := 61) 0 dX9_isDropped_61 rfl rfl ?_
          refine x_getr (pc := 62) (106) dX9_isDropped_62 fX9_26 (zat_b rfl rfl) rfl ?_
          refine x_iload_n (pc := 65) 3 dX9_isDropped_65 rfl rfl ?_
          have hj66 : zv (aL α c k) < 31 := by omega
          refine x_iald_h (pc := 66) (zv (aL α c k)) dX9_isDropped_66 (zar_b rfl rfl rfl) rfl (by first | rfl | simp only [pk_mul, nI_add] | simp only [zon, pk_mul, nI_add]) hj66 (Nat.lt_of_lt_of_le hj66 (by decide)) ?_
          refine x_if_le_f (pc := 67) 81 dX9_isDropped_67 (by decide) (Int32.not_le.mpr h2) ?_
          refine x_aload_n (pc := 70) 0 dX9_isDropped_70 rfl rfl ?_
          refine x_getr (pc := 71) (114) dX9_isDropped_71 fX9_44 (zat_b rfl rfl) rfl ?_
          refine x_iload_n (pc := 74) 3 dX9_isDropped_74 rfl rfl ?_
          have hj75 : zv (aL α c k) < 31 := by omega
          refine x_zald_h (pc := 75) (zv (aL α c k)) dX9_isDropped_75 (zar_b rfl rfl rfl) rfl (by first | rfl | simp only [pk_mul, nI_add] | simp only [zon, pk_mul, nI_add]) hj75 (Nat.lt_of_lt_of_le hj75 (by decide)) ?_
          refine x_if_ne_f (pc := 76) 81 dX9_isDropped_76 (by decide) (h3) ?_
          refine x_iconst (pc := 79) (nI 0) dX9_isDropped_79 (by decide) ?_
          refine x_zret (pc := 80) dX9_isDropped_80 rfl (by decide) ?_
          exact ⟨rfl, rfl⟩
        · have e : a_drB α v k = false := by unfold a_drB; rw [hrc]; simp [h3]
          rw [e]
          refine x_istore_n (pc := 55) 3 dX9_isDropped_55 rfl (by decide) rfl ?_
          refine x_iload_n (pc := 56) 3 dX9_isDropped_56 rfl rfl ?_
          refine x_iload_n (pc := 57) 1 dX9_isDropped_57 rfl rfl ?_
          refine x_icmp_eq_f (pc := 58) 81 dX9_isDropped_58 (by decide) (h1') ?_
          refine x_aload_n (pc := 61) 0 dX9_isDropped_61 rfl rfl ?_
          refine x_getr (pc := 62) (106) dX9_isDropped_62 fX9_26 (zat_b rfl rfl) rfl ?_
          refine x_iload_n (pc := 65) 3 dX9_isDropped_65 rfl rfl ?_
          have hj66 : zv (aL α c k) < 31 := by omega
          refine x_iald_h (pc := 66) (zv (aL α c k)) dX9_isDropped_66 (zar_b rfl rfl rfl) rfl (by first | rfl | simp only [pk_mul, nI_add] | simp only [zon, pk_mul, nI_add]) hj66 (Nat.lt_of_lt_of_le hj66 (by decide)) ?_
          refine x_if_le_f (pc := 67) 81 dX9_isDropped_67 (by decide) (Int32.not_le.mpr h2) ?_
          refine x_aload_n (pc := 70) 0 dX9_isDropped_70 rfl rfl ?_
          refine x_getr (pc := 71) (114) dX9_isDropped_71 fX9_44 (zat_b rfl rfl) rfl ?_
          refine x_iload_n (pc := 74) 3 dX9_isDropped_74 rfl rfl ?_
          have hj75 : zv (aL α c k) < 31 := by omega
          refine x_zald_h (pc := 75) (zv (aL α c k)) dX9_isDropped_75 (zar_b rfl rfl rfl) rfl (by first | rfl | simp only [pk_mul, nI_add] | simp only [zon, pk_mul, nI_add]) hj75 (Nat.lt_of_lt_of_le hj75 (by decide)) ?_
          refine x_if_ne_t (pc := 76) 81 dX9_isDropped_76 (by decide) (h3) ?_
          refine x_iinc (pc := 81) (nI (k + 1)) dX9_isDropped_81 rfl (zinc _) (by decide) rfl ?_
          refine x_goto (pc := 84) 27 dX9_isDropped_84 (by decide) ?_
          refine zX.sub (zs1 (zs1 (zs1 (zsn zse)))) ?_
          exact ih (k + 1) (by omega)
      · have e : a_drB α v k = false := by unfold a_drB; rw [hrc]; simp [h2]
        rw [e]
        refine x_istore_n (pc := 55) 3 dX9_isDropped_55 rfl (by decide) rfl ?_
        refine x_iload_n (pc := 56) 3 dX9_isDropped_56 rfl rfl ?_
        refine x_iload_n (pc := 57) 1 dX9_isDropped_57 rfl rfl ?_
        refine x_icmp_eq_f (pc := 58) 81 dX9_isDropped_58 (by decide) (h1') ?_
        refine x_aload_n (pc := 61) 0 dX9_isDropped_61 rfl rfl ?_
        refine x_getr (pc := 62) (106) dX9_isDropped_62 fX9_26 (zat_b rfl rfl) rfl ?_
        refine x_iload_n (pc := 65) 3 dX9_isDropped_65 rfl rfl ?_
        have hj66 : zv (aL α c k) < 31 := by omega
        refine x_iald_h (pc := 66) (zv (aL α c k)) dX9_isDropped_66 (zar_b rfl rfl rfl) rfl (by first | rfl | simp only [pk_mul, nI_add] | simp only [zon, pk_mul, nI_add]) hj66 (Nat.lt_of_lt_of_le hj66 (by decide)) ?_
        refine x_if_le_t (pc := 67) 81 dX9_isDropped_67 (by decide) (Int32.not_lt.mp h2) ?_
        refine x_iinc (pc := 81) (nI (k + 1)) dX9_isDropped_81 rfl (zinc _) (by decide) rfl ?_
        refine x_goto (pc := 84) 27 dX9_isDropped_84 (by decide) ?_
        refine zX.sub (zs1 (zs1 (zs1 (zsn zse)))) ?_
        exact ih (k + 1) (by omega)
theorem t_isDropped (d : Nat) {v : Nat} (hW : aW α) (hv : v ≤ 30) (hr : ¬ α 107 v = -1 → ∃ c, c < aN α ∧ α 107 v = nI c) : zTr E (d + 2) mX9_isDropped [.ref 100, .int (nI v)] (κ, α, τ) (some (.int (zbo (a_dropped α v)))) (κ, α, τ) := by
  refine zM.tr (zM_of [some (.ref 100), some (.int (nI v)), none, none] (by decide) rfl (Nat.le_of_ble_eq_true rfl) ?_)
  by_cases h1 : α 106 v = α 100 11
  ·
    refine x_aload_n (pc := 0) 0 dX9_isDropped_0 rfl rfl ?_
    refine x_getr (pc := 1) (106) dX9_isDropped_1 fX9_26 (zat_b rfl rfl) rfl ?_
    refine x_iload_n (pc := 4) 1 dX9_isDropped_4 rfl rfl ?_
    have hj5 : v < 31 := by omega
    refine x_iald_h (pc := 5) (v) dX9_isDropped_5 (zar_b rfl rfl rfl) rfl (by first | rfl | simp only [pk_mul, nI_add] | simp only [zon, pk_mul, nI_add]) hj5 (Nat.lt_of_lt_of_le hj5 (by decide)) ?_
    refine x_aload_n (pc := 6) 0 dX9_isDropped_6 rfl rfl ?_
    refine x_geti_h (pc := 7) dX9_isDropped_7 fX9_105 (zat_b rfl rfl) rfl rfl ?_
    refine x_icmp_eq_t (pc := 10) 23 dX9_isDropped_10 (by decide) (h1) ?_
    refine x_iconst (pc := 23) (nI 0) dX9_isDropped_23 (by decide) ?_
    refine x_zret (pc := 24) dX9_isDropped_24 rfl (by decide) ?_
    exact ⟨by simp [a_dropped, h1, zbo], rfl⟩
  · by_cases h2 : α 107 v = -1
    ·
      refine x_aload_n (pc := 0) 0 dX9_isDropped_0 rfl rfl ?_
      refine x_getr (pc := 1) (106) dX9_isDropped_1 fX9_26 (zat_b rfl rfl) rfl ?_
      refine x_iload_n (pc := 4) 1 dX9_isDropped_4 rfl rfl ?_
      have hj5 : v < 31 := by omega
      refine x_iald_h (pc := 5) (v) dX9_isDropped_5 (zar_b rfl rfl rfl) rfl (by first | rfl | simp only [pk_mul, nI_add] | simp only [zon, pk_mul, nI_add]) hj5 (Nat.lt_of_lt_of_le hj5 (by decide)) ?_
      refine x_aload_n (pc := 6) 0 dX9_isDropped_6 rfl rfl ?_
      refine x_geti_h (pc := 7) dX9_isDropped_7 fX9_105 (zat_b rfl rfl) rfl rfl ?_
      refine x_icmp_eq_f (pc := 10) 23 dX9_isDropped_10 (by decide) (h1) ?_
      refine x_aload_n (pc := 13) 0 dX9_isDropped_13 rfl rfl ?_
      refine x_getr (pc := 14) (107) dX9_isDropped_14 fX9_29 (zat_b rfl rfl) rfl ?_
      refine x_iload_n (pc := 17) 1 dX9_isDropped_17 rfl rfl ?_
      have hj18 : v < 31 := by omega
      refine x_iald_h (pc := 18) (v) dX9_isDropped_18 (zar_b rfl rfl rfl) rfl (by first | rfl | simp only [pk_mul, nI_add] | simp only [zon, pk_mul, nI_add]) hj18 (Nat.lt_of_lt_of_le hj18 (by decide)) ?_
      refine x_iconst (pc := 19) (-1) dX9_isDropped_19 (by decide) ?_
      refine x_icmp_ne_f (pc := 20) 25 dX9_isDropped_20 (by decide) (h2) ?_
      refine x_iconst (pc := 23) (nI 0) dX9_isDropped_23 (by decide) ?_
      refine x_zret (pc := 24) dX9_isDropped_24 rfl (by decide) ?_
      exact ⟨by simp [a_dropped, h2, zbo], rfl⟩
    · obtain ⟨c, hc, hrc⟩ := hr h2
      have e : (α 107 v).toNatClampNeg = c := by rw [hrc]; exact nI_clamp (by have := hW.n400; omega)
      refine x_aload_n (pc := 0) 0 dX9_isDropped_0 rfl rfl ?_
      refine x_getr (pc := 1) (106) dX9_isDropped_1 fX9_26 (zat_b rfl rfl) rfl ?_
      refine x_iload_n (pc := 4) 1 dX9_isDropped_4 rfl rfl ?_
      have hj5 : v < 31 := by omega
      refine x_iald_h (pc := 5) (v) dX9_isDropped_5 (zar_b rfl rfl rfl) rfl (by first | rfl | simp only [pk_mul, nI_add] | simp only [zon, pk_mul, nI_add]) hj5 (Nat.lt_of_lt_of_le hj5 (by decide)) ?_
      refine x_aload_n (pc := 6) 0 dX9_isDropped_6 rfl rfl ?_
      refine x_geti_h (pc := 7) dX9_isDropped_7 fX9_105 (zat_b rfl rfl) rfl rfl ?_
      refine x_icmp_eq_f (pc := 10) 23 dX9_isDropped_10 (by decide) (h1) ?_
      refine x_aload_n (pc := 13) 0 dX9_isDropped_13 rfl rfl ?_
      refine x_getr (pc := 14) (107) dX9_isDropped_14 fX9_29 (zat_b rfl rfl) rfl ?_
      refine x_iload_n (pc := 17) 1 dX9_isDropped_17 rfl rfl ?_
      have hj18 : v < 31 := by omega
      refine x_iald_h (pc := 18) (v) dX9_isDropped_18 (zar_b rfl rfl rfl) rfl (by first | rfl | simp only [pk_mul, nI_add] | simp only [zon, pk_mul, nI_add]) hj18 (Nat.lt_of_lt_of_le hj18 (by decide)) ?_
      refine x_iconst (pc := 19) (-1) dX9_isDropped_19 (by decide) ?_
      refine x_icmp_ne_t (pc := 20) 25 dX9_isDropped_20 (by decide) (h2) ?_
      refine x_iconst (pc := 25) (nI 0) dX9_isDropped_25 (by decide) ?_
      refine x_istore_n (pc := 26) 2 dX9_isDropped_26 rfl (by decide) rfl ?_
      refine zX.sub (zs1 (zs1 (zs1 (zsn zse)))) ?_
      have := l_isDropped (E := E) (κ := κ) (τ := τ) d hW hv hc hrc (aS α c) 0 (by omega)
      have e2 : a_dropped α v = (zfind (a_drB α v) 0 (aS α c)).isNone := by unfold a_dropped; rw [e]; simp [h1, h2]
      rw [e2]
      exact this
end M5
