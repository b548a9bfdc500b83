/-! the reference: assumptions, choice, begins, luby, ends -/
def aA (α : Nat → Nat → Int32) : Nat := (α 101 3).toNatClampNeg
/-- the assumptions are in order -/
def aWA (α : Nat → Nat → Int32) : Prop := α 101 3 = nI (aA α) ∧ aA α ≤ 8 ∧ ∀ k, k < aA α → lok (aV α) (α 101 (16 + k))
def a_placeB (α : Nat → Nat → Int32) (v k : Nat) : Bool := Nat.beq (zv (α 101 (16 + k))) v
def a_placeAssumed (α : Nat → Nat → Int32) (v : Nat) : Option Nat := zfind (a_placeB α v) 0 (aA α)
def a_assOpen (α : Nat → Nat → Int32) : Option Nat := zfind (fun k => decide (a_tr α (α 101 (16 + k)) ≤ 0)) 0 (aA α)
def a_chF (α : Nat → Nat → Int32) (v b : Nat) : Nat := if α 105 v = 0 ∧ (b = 0 ∨ α 101 (63 + b) < α 101 (63 + v)) then v else b
def a_choice (α : Nat → Nat → Int32) : Nat := zit (a_chF α) 1 (aV α) 0
def a_begins (α : Nat → Nat → Int32) (f n : Int32) : Nat → Nat → Int32 :=
  zup (zup (zup (zup α 101 (525 + aN α) f) 101 (125 + aN α) n) 101 1 (nI (aN α + 1))) 101 2 (α 101 2 + if f = 0 then nI 1 else nI 0)
def lfl : Nat → Nat → Nat → Nat
  | 0, _, f => f
  | n + 1, i, f => if 2 * f - 1 < i then lfl n i (2 * f) else f
def lubF : Nat → Nat → Nat
  | 0, _ => 1
  | n + 1, i => if 2 * lfl 20 i 1 - 1 = i then lfl 20 i 1 else lubF n (i - lfl 20 i 1 + 1)
theorem lfl_spec : ∀ (n i f : Nat), 1 ≤ f → f ≤ i → i ≤ f * 2 ^ n → f ≤ lfl n i f ∧ lfl n i f ≤ i ∧ i ≤ 2 * lfl n i f - 1 ∨ (n = 0)
  | 0, i, f, h1, h2, h3 => Or.inr rfl
  | n + 1, i, f, h1, h2, h3 => by
    refine Or.inl ?_
    unfold lfl
    split
    · rename_i h
      have h4 : i ≤ 2 * f * 2 ^ n := by rw [Nat.pow_succ] at h3; rw [Nat.mul_comm 2 f, Nat.mul_assoc, Nat.mul_comm 2]; exact h3
      rcases lfl_spec n i (2 * f) (by omega) (by omega) h4 with ⟨a, b, c⟩ | rfl
      · exact ⟨by omega, b, c⟩
      · simp at h4; show f ≤ 2 * f ∧ 2 * f ≤ i ∧ i ≤ 2 * (2 * f) - 1; omega
    · omega
section M6
variable {E : zEnv} {κ α : Nat → Nat → Int32} {τ : (Nat → Nat → Int64) × (Nat → Nat)}
theorem l_placeAssumed (d : Nat) {v : Nat} (hV : aV α ≤ 30) (hv : v ≤ 30) (hA : aWA α) : ∀ m k, k + m = aA α → zX E (d + 2) mX9_placeAssumed 2 [some (.ref 100), some (.int (nI v)), some (.int (nI k))] [] (κ, α, τ) (fun r ν => r = some (.int (zon (zfind (a_placeB α v) k m))) ∧ ν = (κ, α, τ)) := by
  obtain ⟨a1, a2, a3⟩ := hA
  intro m
  induction m with
  | zero =>
    intro k hk
    refine x_iload_n (pc := 2) 2 dX9_placeAssumed_2 rfl rfl ?_
    refine x_aload_n (pc := 3) 0 dX9_placeAssumed_3 rfl rfl ?_
    refine x_getr (pc := 4) (101) dX9_placeAssumed_4 fX9_7 (zat_b rfl rfl) rfl ?_
    refine x_iconst (pc := 7) (nI 3) dX9_placeAssumed_7 (by decide) ?_
    have hj8 : 3 < 13326 := by omega
    refine x_iald_h (pc := 8) (3) dX9_placeAssumed_8 (zar_b rfl rfl rfl) rfl (by first | rfl | simp only [pk_mul, nI_add] | simp only [zon, pk_mul, nI_add]) hj8 (Nat.lt_of_lt_of_le hj8 (by decide)) ?_
    rw [a1]
    refine x_icmp_ge_t (pc := 9) 36 dX9_placeAssumed_9 (by decide) (nI_le (by omega) (by omega)) ?_
    refine x_iconst (pc := 36) (-1) dX9_placeAssumed_36 (by decide) ?_
    refine x_iret (pc := 37) dX9_placeAssumed_37 rfl ?_
    exact ⟨rfl, rfl⟩
  | succ m ih =>
    intro k hk
    obtain ⟨g1, g2, g3, g4, g5⟩ := (a3 k (by omega)).is hV
    refine x_iload_n (pc := 2) 2 dX9_placeAssumed_2 rfl rfl ?_
    refine x_aload_n (pc := 3) 0 dX9_placeAssumed_3 rfl rfl ?_
    refine x_getr (pc := 4) (101) dX9_placeAssumed_4 fX9_7 (zat_b rfl rfl) rfl ?_
    refine x_iconst (pc := 7) (nI 3) dX9_placeAssumed_7 (by decide) ?_
    have hj8 : 3 < 13326 := by omega
    refine x_iald_h (pc := 8) (3) dX9_placeAssumed_8 (zar_b rfl rfl rfl) rfl (by first | rfl | simp only [pk_mul, nI_add] | simp only [zon, pk_mul, nI_add]) hj8 (Nat.lt_of_lt_of_le hj8 (by decide)) ?_
    rw [a1]
    refine x_icmp_ge_f (pc := 9) 36 dX9_placeAssumed_9 (by decide) (nI_ge (by omega) (by omega)) ?_
    refine x_aload_n (pc := 12) 0 dX9_placeAssumed_12 rfl rfl ?_
    refine x_getr (pc := 13) (101) dX9_placeAssumed_13 fX9_7 (zat_b rfl rfl) rfl ?_
    refine x_bipush (pc := 16) (nI 16) dX9_placeAssumed_16 (by decide) ?_
    refine x_iload_n (pc := 18) 2 dX9_placeAssumed_18 rfl rfl ?_
    refine x_iadd (pc := 19) dX9_placeAssumed_19 ?_
    have hj20 : 16 + k < 13326 := by omega
    refine x_iald_h (pc := 20) (16 + k) dX9_placeAssumed_20 (zar_b rfl rfl rfl) rfl (by first | rfl | simp only [pk_mul, nI_add] | simp only [zon, pk_mul, nI_add]) hj20 (Nat.lt_of_lt_of_le hj20 (by decide)) ?_
    refine x_callS1i (pc := 21) dX9_placeAssumed_21 lX9_71 (t_size d _) (Nat.le_of_ble_eq_true rfl) (Or.inl zgr) ?_
    rw [g3]
    have step : zfind (a_placeB α v) k (m + 1) = bif a_placeB α v k then some k else zfind (a_placeB α v) (k + 1) m := rfl
    rw [step]
    cases h : a_placeB α v k with
    | true =>
      refine x_iload_n (pc := 24) 1 dX9_placeAssumed_24 rfl rfl ?_
      refine x_icmp_ne_f (pc := 25) 30 dX9_placeAssumed_25 (by decide) (by rw [Nat.eq_of_beq_eq_true h]) ?_
      refine x_iload_n (pc := 28) 2 dX9_placeAssumed_28 rfl rfl ?_
      refine x_iret (pc := 29) dX9_placeAssumed_29 rfl ?_
      exact ⟨rfl, rfl⟩
    | false =>
      refine x_iload_n (pc := 24) 1 dX9_placeAssumed_24 rfl rfl ?_
      refine x_icmp_ne_t (pc := 25) 30 dX9_placeAssumed_25 (by decide) (fun q => by rw [a_placeB, (nI_eq (by omega) (by omega)).mp q, Nat.beq_refl] at h; cases h) ?_
      refine x_iinc (pc := 30) (nI (k + 1)) dX9_placeAssumed_30 rfl (zinc _) (by decide) rfl ?_
      refine x_goto (pc := 33) 2 dX9_placeAssumed_33 (by decide) ?_
      exact ih (k + 1) (by omega)
theorem t_placeAssumed (d : Nat) {v : Nat} (hV : aV α ≤ 30) (hv : v ≤ 30) (hA : aWA α) : zTr E (d + 2) mX9_placeAssumed [.ref 100, .int (nI v)] (κ, α, τ) (some (.int (zon (a_placeAssumed α v)))) (κ, α, τ) := by
  refine zM.tr (zM_of [some (.ref 100), some (.int (nI v)), none] (by decide) rfl (Nat.le_of_ble_eq_true rfl) ?_)
  refine x_iconst (pc := 0) (nI 0) dX9_placeAssumed_0 (by decide) ?_
  refine x_istore_n (pc := 1) 2 dX9_placeAssumed_1 rfl (by decide) rfl ?_
  exact l_placeAssumed d hV hv hA (aA α) 0 (by omega)
theorem l_assumptionOpen (d : Nat) (hV : aV α ≤ 30) (hA : aWA α) : ∀ m k, k + m = aA α → zX E (d + 2) mX9_assumptionOpen 2 [some (.ref 100), some (.int (nI k))] [] (κ, α, τ) (fun r ν => r = some (.int (zon (zfind (fun k => decide (a_tr α (α 101 (16 + k)) ≤ 0)) k m))) ∧ ν = (κ, α, τ)) := by
  obtain ⟨a1, a2, a3⟩ := hA
  intro m
  induction m with
  | zero =>
    intro k hk
    refine x_iload_n (pc := 2) 1 dX9_assumptionOpen_2 rfl rfl ?_
    refine x_aload_n (pc := 3) 0 dX9_assumptionOpen_3 rfl rfl ?_
    refine x_getr (pc := 4) (101) dX9_assumptionOpen_4 fX9_7 (zat_b rfl rfl) rfl ?_
    refine x_iconst (pc := 7) (nI 3) dX9_assumptionOpen_7 (by decide) ?_
    have hj8 : 3 < 13326 := by omega
    refine x_iald_h (pc := 8) (3) dX9_assumptionOpen_8 (zar_b rfl rfl rfl) rfl (by first | rfl | simp only [pk_mul, nI_add] | simp only [zon, pk_mul, nI_add]) hj8 (Nat.lt_of_lt_of_le hj8 (by decide)) ?_
    rw [a1]
    refine x_icmp_ge_t (pc := 9) 36 dX9_assumptionOpen_9 (by decide) (nI_le (by omega) (by omega)) ?_
    refine x_iconst (pc := 36) (-1) dX9_assumptionOpen_36 (by decide) ?_
    refine x_iret (pc := 37) dX9_assumptionOpen_37 rfl ?_
    exact ⟨rfl, rfl⟩
  | succ m ih =>
    intro k hk
    refine x_iload_n (pc := 2) 1 dX9_assumptionOpen_2 rfl rfl ?_
    refine x_aload_n (pc := 3) 0 dX9_assumptionOpen_3 rfl rfl ?_
    refine x_getr (pc := 4) (101) dX9_assumptionOpen_4 fX9_7 (zat_b rfl rfl) rfl ?_
    refine x_iconst (pc := 7) (nI 3) dX9_assumptionOpen_7 (by decide) ?_
    have hj8 : 3 < 13326 := by omega
    refine x_iald_h (pc := 8) (3) dX9_assumptionOpen_8 (zar_b rfl rfl rfl) rfl (by first | rfl | simp only [pk_mul, nI_add] | simp only [zon, pk_mul, nI_add]) hj8 (Nat.lt_of_lt_of_le hj8 (by decide)) ?_
    rw [a1]
    refine x_icmp_ge_f (pc := 9) 36 dX9_assumptionOpen_9 (by decide) (nI_ge (by omega) (by omega)) ?_
    refine x_aload_n (pc := 12) 0 dX9_assumptionOpen_12 rfl rfl ?_
    refine x_aload_n (pc := 13) 0 dX9_assumptionOpen_13 rfl rfl ?_
    refine x_getr (pc := 14) (101) dX9_assumptionOpen_14 fX9_7 (zat_b rfl rfl) rfl ?_
    refine x_bipush (pc := 17) (nI 16) dX9_assumptionOpen_17 (by decide) ?_
    refine x_iload_n (pc := 19) 1 dX9_assumptionOpen_19 rfl rfl ?_
    refine x_iadd (pc := 20) dX9_assumptionOpen_20 ?_
    have hj21 : 16 + k < 13326 := by omega
    refine x_iald_h (pc := 21) (16 + k) dX9_assumptionOpen_21 (zar_b rfl rfl rfl) rfl (by first | rfl | simp only [pk_mul, nI_add] | simp only [zon, pk_mul, nI_add]) hj21 (Nat.lt_of_lt_of_le hj21 (by decide)) ?_
    refine x_callV1i (pc := 22) dX9_assumptionOpen_22 lX9_111 (zat_b rfl rfl) rfl (t_truth d ((a3 k (by omega)).mono hV)) (Nat.le_of_ble_eq_true rfl) (Or.inl zgr) ?_
    have step : zfind (fun k => decide (a_tr α (α 101 (16 + k)) ≤ 0)) k (m + 1) = bif decide (a_tr α (α 101 (16 + k)) ≤ 0) then some k else zfind (fun k => decide (a_tr α (α 101 (16 + k)) ≤ 0)) (k + 1) m := rfl
    rw [step]
    by_cases h : a_tr α (α 101 (16 + k)) ≤ 0
    · rw [decide_eq_true h]
      refine x_if_gt_f (pc := 25) 30 dX9_assumptionOpen_25 (by decide) (Int32.not_lt.mpr h) ?_
      refine x_iload_n (pc := 28) 1 dX9_assumptionOpen_28 rfl rfl ?_
      refine x_iret (pc := 29) dX9_assumptionOpen_29 rfl ?_
      exact ⟨rfl, rfl⟩
    · rw [decide_eq_false h]
      refine x_if_gt_t (pc := 25) 30 dX9_assumptionOpen_25 (by decide) (Int32.not_le.mp h) ?_
      refine x_iinc (pc := 30) (nI (k + 1)) dX9_assumptionOpen_30 rfl (zinc _) (by decide) rfl ?_
      refine x_goto (pc := 33) 2 dX9_assumptionOpen_33 (by decide) ?_
      exact ih (k + 1) (by omega)
theorem t_assumptionOpen (d : Nat) (hV : aV α ≤ 30) (hA : aWA α) : zTr E (d + 2) mX9_assumptionOpen [.ref 100] (κ, α, τ) (some (.int (zon (a_assOpen α)))) (κ, α, τ) := by
  refine zM.tr (zM_of [some (.ref 100), none] (by decide) rfl (Nat.le_of_ble_eq_true rfl) ?_)
  refine x_iconst (pc := 0) (nI 0) dX9_assumptionOpen_0 (by decide) ?_
  refine x_istore_n (pc := 1) 1 dX9_assumptionOpen_1 rfl (by decide) rfl ?_
  exact l_assumptionOpen d hV hA (aA α) 0 (by omega)
theorem l_choice (d : Nat) (hv : α 101 0 = nI (aV α)) (h30 : aV α ≤ 30) : ∀ m v b, v + m = aV α + 1 → 1 ≤ v → b < v → zX E (d + 1) mX9_choice 4 [some (.ref 100), some (.int (nI b)), some (.int (nI v))] [] (κ, α, τ) (fun r ν => r = some (.int (nI (zit (a_chF α) v m b))) ∧ ν = (κ, α, τ)) := by
  intro m
  induction m with
  | zero =>
    intro v b hm hv1 hb
    refine x_iload_n (pc := 4) 2 dX9_choice_4 rfl rfl ?_
    refine x_aload_n (pc := 5) 0 dX9_choice_5 rfl rfl ?_
    refine x_getr (pc := 6) (101) dX9_choice_6 fX9_7 (zat_b rfl rfl) rfl ?_
    refine x_iconst (pc := 9) (nI 0) dX9_choice_9 (by decide) ?_
    have hj10 : 0 < 13326 := by omega
    refine x_iald_h (pc := 10) (0) dX9_choice_10 (zar_b rfl rfl rfl) rfl (by first | rfl | simp only [pk_mul, nI_add] | simp only [zon, pk_mul, nI_add]) hj10 (Nat.lt_of_lt_of_le hj10 (by decide)) ?_
    rw [hv]
    refine x_icmp_gt_t (pc := 11) 56 dX9_choice_11 (by decide) (nI_lt (by omega) (by omega)) ?_
    refine x_iload_n (pc := 56) 1 dX9_choice_56 rfl rfl ?_
    refine x_iret (pc := 57) dX9_choice_57 rfl ?_
    exact ⟨rfl, rfl⟩
  | succ m ih =>
    intro v b hm hv1 hb
    refine x_iload_n (pc := 4) 2 dX9_choice_4 rfl rfl ?_
    refine x_aload_n (pc := 5) 0 dX9_choice_5 rfl rfl ?_
    refine x_getr (pc := 6) (101) dX9_choice_6 fX9_7 (zat_b rfl rfl) rfl ?_
    refine x_iconst (pc := 9) (nI 0) dX9_choice_9 (by decide) ?_
    have hj10 : 0 < 13326 := by omega
    refine x_iald_h (pc := 10) (0) dX9_choice_10 (zar_b rfl rfl rfl) rfl (by first | rfl | simp only [pk_mul, nI_add] | simp only [zon, pk_mul, nI_add]) hj10 (Nat.lt_of_lt_of_le hj10 (by decide)) ?_
    rw [hv]
    have step : zit (a_chF α) v (m + 1) b = zit (a_chF α) (v + 1) m (a_chF α v b) := rfl
    rw [step]
    by_cases h1 : α 105 v = 0
    · by_cases h3 : b = 0
      · have e2 : a_chF α v b = v := by unfold a_chF; rw [if_pos ⟨h1, Or.inl h3⟩]
        rw [e2]
        refine x_icmp_gt_f (pc := 11) 56 dX9_choice_11 (by decide) (nI_nlt (by omega) (by omega)) ?_
        refine x_aload_n (pc := 14) 0 dX9_choice_14 rfl rfl ?_
        refine x_getr (pc := 15) (105) dX9_choice_15 fX9_23 (zat_b rfl rfl) rfl ?_
        refine x_iload_n (pc := 18) 2 dX9_choice_18 rfl rfl ?_
        have hj19 : v < 31 := by omega
        refine x_iald_h (pc := 19) (v) dX9_choice_19 (zar_b rfl rfl rfl) rfl (by first | rfl | simp only [pk_mul, nI_add] | simp only [zon, pk_mul, nI_add]) hj19 (Nat.lt_of_lt_of_le hj19 (by decide)) ?_
        refine x_if_ne_f (pc := 20) 50 dX9_choice_20 (by decide) (h1) ?_
        refine x_iload_n (pc := 23) 1 dX9_choice_23 rfl rfl ?_
        refine x_if_eq_t (pc := 24) 48 dX9_choice_24 (by decide) (by rw [h3]; rfl) ?_
        refine x_iload_n (pc := 48) 2 dX9_choice_48 rfl rfl ?_
        refine x_istore_n (pc := 49) 1 dX9_choice_49 rfl (by decide) rfl ?_
        refine x_iinc (pc := 50) (nI (v + 1)) dX9_choice_50 rfl (zinc _) (by decide) rfl ?_
        refine x_goto (pc := 53) 4 dX9_choice_53 (by decide) ?_
        exact ih (v + 1) v (by omega) (by omega) (by omega)
      · by_cases h4 : α 101 (63 + b) < α 101 (63 + v)
        · have e2 : a_chF α v b = v := by unfold a_chF; rw [if_pos ⟨h1, Or.inr h4⟩]
          rw [e2]
          refine x_icmp_gt_f (pc := 11) 56 dX9_choice_11 (by decide) (nI_nlt (by omega) (by omega)) ?_
          refine x_aload_n (pc := 14) 0 dX9_choice_14 rfl rfl ?_
          refine x_getr (pc := 15) (105) dX9_choice_15 fX9_23 (zat_b rfl rfl) rfl ?_
          refine x_iload_n (pc := 18) 2 dX9_choice_18 rfl rfl ?_
          have hj19 : v < 31 := by omega
          refine x_iald_h (pc := 19) (v) dX9_choice_19 (zar_b rfl rfl rfl) rfl (by first | rfl | simp only [pk_mul, nI_add] | simp only [zon, pk_mul, nI_add]) hj19 (Nat.lt_of_lt_of_le hj19 (by decide)) ?_
          refine x_if_ne_f (pc := 20) 50 dX9_choice_20 (by decide) (h1) ?_
          refine x_iload_n (pc := 23) 1 dX9_choice_23 rfl rfl ?_
          refine x_if_eq_f (pc := 24) 48 dX9_choice_24 (by decide) (nI_ne0 (by omega) (by omega)) ?_
          refine x_aload_n (pc := 27) 0 dX9_choice_27 rfl rfl ?_
          refine x_getr (pc := 28) (101) dX9_choice_28 fX9_7 (zat_b rfl rfl) rfl ?_
          refine x_bipush (pc := 31) (nI 63) dX9_choice_31 (by decide) ?_
          refine x_iload_n (pc := 33) 2 dX9_choice_33 rfl rfl ?_
          refine x_iadd (pc := 34) dX9_choice_34 ?_
          have hj35 : 63 + v < 13326 := by omega
          refine x_iald_h (pc := 35) (63 + v) dX9_choice_35 (zar_b rfl rfl rfl) rfl (by first | rfl | simp only [pk_mul, nI_add] | simp only [zon, pk_mul, nI_add]) hj35 (Nat.lt_of_lt_of_le hj35 (by decide)) ?_
          refine x_aload_n (pc := 36) 0 dX9_choice_36 rfl rfl ?_
          refine x_getr (pc := 37) (101) dX9_choice_37 fX9_7 (zat_b rfl rfl) rfl ?_
          refine x_bipush (pc := 40) (nI 63) dX9_choice_40 (by decide) ?_
          refine x_iload_n (pc := 42) 1 dX9_choice_42 rfl rfl ?_
          refine x_iadd (pc := 43) dX9_choice_43 ?_
          have hj44 : 63 + b < 13326 := by omega
          refine x_iald_h (pc := 44) (63 + b) dX9_choice_44 (zar_b rfl rfl rfl) rfl (by first | rfl | simp only [pk_mul, nI_add] | simp only [zon, pk_mul, nI_add]) hj44 (Nat.lt_of_lt_of_le hj44 (by decide)) ?_
          refine x_icmp_le_f (pc := 45) 50 dX9_choice_45 (by decide) (Int32.not_le.mpr h4) ?_
          refine x_iload_n (pc := 48) 2 dX9_choice_48 rfl rfl ?_
          refine x_istore_n (pc := 49) 1 dX9_choice_49 rfl (by decide) rfl ?_
          refine x_iinc (pc := 50) (nI (v + 1)) dX9_choice_50 rfl (zinc _) (by decide) rfl ?_
          refine x_goto (pc := 53) 4 dX9_choice_53 (by decide) ?_
          exact ih (v + 1) v (by omega) (by omega) (by omega)
        · have e2 : a_chF α v b = b := by unfold a_chF; rw [if_neg (fun q => q.2.elim h3 h4)]
          rw [e2]
          refine x_icmp_gt_f (pc := 11) 56 dX9_choice_11 (by decide) (nI_nlt (by omega) (by omega)) ?_
          refine x_aload_n (pc := 14) 0 dX9_choice_14 rfl rfl ?_
          refine x_getr (pc := 15) (105) dX9_choice_15 fX9_23 (zat_b rfl rfl) rfl ?_
          refine x_iload_n (pc := 18) 2 dX9_choice_18 rfl rfl ?_
          have hj19 : v < 31 := by omega
          refine x_iald_h (pc := 19) (v) dX9_choice_19 (zar_b rfl rfl rfl) rfl (by first | rfl | simp only [pk_mul, nI_add] | simp only [zon, pk_mul, nI_add]) hj19 (Nat.lt_of_lt_of_le hj19 (by decide)) ?_
          refine x_if_ne_f (pc := 20) 50 dX9_choice_20 (by decide) (h1) ?_
          refine x_iload_n (pc := 23) 1 dX9_choice_23 rfl rfl ?_
          refine x_if_eq_f (pc := 24) 48 dX9_choice_24 (by decide) (nI_ne0 (by omega) (by omega)) ?_
          refine x_aload_n (pc := 27) 0 dX9_choice_27 rfl rfl ?_
          refine x_getr (pc := 28) (101) dX9_choice_28 fX9_7 (zat_b rfl rfl) rfl ?_
          refine x_bipush (pc := 31) (nI 63) dX9_choice_31 (by decide) ?_
          refine x_iload_n (pc := 33) 2 dX9_choice_33 rfl rfl ?_
          refine x_iadd (pc := 34) dX9_choice_34 ?_
          have hj35 : 63 + v < 13326 := by omega
          refine x_iald_h (pc := 35) (63 + v) dX9_choice_35 (zar_b rfl rfl rfl) rfl (by first | rfl | simp only [pk_mul, nI_add] | simp only [zon, pk_mul, nI_add]) hj35 (Nat.lt_of_lt_of_le hj35 (by decide)) ?_
          refine x_aload_n (pc := 36) 0 dX9_choice_36 rfl rfl ?_
          refine x_getr (pc := 37) (101) dX9_choice_37 fX9_7 (zat_b rfl rfl) rfl ?_
          refine x_bipush (pc := 40) (nI 63) dX9_choice_40 (by decide) ?_
          refine x_iload_n (pc := 42) 1 dX9_choice_42 rfl rfl ?_
          refine x_iadd (pc := 43) dX9_choice_43 ?_
          have hj44 : 63 + b < 13326 := by omega
          refine x_iald_h (pc := 44) (63 + b) dX9_choice_44 (zar_b rfl rfl rfl) rfl (by first | rfl | simp only [pk_mul, nI_add] | simp only [zon, pk_mul, nI_add]) hj44 (Nat.lt_of_lt_of_le hj44 (by decide)) ?_
          refine x_icmp_le_t (pc := 45) 50 dX9_choice_45 (by decide) (Int32.not_lt.mp h4) ?_
          refine x_iinc (pc := 50) (nI (v + 1)) dX9_choice_50 rfl (zinc _) (by decide) rfl ?_
          refine x_goto (pc := 53) 4 dX9_choice_53 (by decide) ?_
          exact ih (v + 1) b (by omega) (by omega) (by omega)
    · have e2 : a_chF α v b = b := by unfold a_chF; rw [if_neg (fun q => h1 q.1)]
      rw [e2]
      refine x_icmp_gt_f (pc := 11) 56 dX9_choice_11 (by decide) (nI_nlt (by omega) (by omega)) ?_
      refine x_aload_n (pc := 14) 0 dX9_choice_14 rfl rfl ?_
      refine x_getr (pc := 15) (105) dX9_choice_15 fX9_23 (zat_b rfl rfl) rfl ?_
      refine x_iload_n (pc := 18) 2 dX9_choice_18 rfl rfl ?_
      have hj19 : v < 31 := by omega
      refine x_iald_h (pc := 19) (v) dX9_choice_19 (zar_b rfl rfl rfl) rfl (by first | rfl | simp only [pk_mul, nI_add] | simp only [zon, pk_mul, nI_add]) hj19 (Nat.lt_of_lt_of_le hj19 (by decide)) ?_
      refine x_if_ne_t (pc := 20) 50 dX9_choice_20 (by decide) (h1) ?_
      refine x_iinc (pc := 50) (nI (v + 1)) dX9_choice_50 rfl (zinc _) (by decide) rfl ?_
      refine x_goto (pc := 53) 4 dX9_choice_53 (by decide) ?_
      exact ih (v + 1) b (by omega) (by omega) (by omega)
theorem t_choice (d : Nat) (hv : α 101 0 = nI (aV α)) (h30 : aV α ≤ 30) : zTr E (d + 1) mX9_choice [.ref 100] (κ, α, τ) (some (.int (nI (a_choice α)))) (κ, α, τ) := by
  refine zM.tr (zM_of [some (.ref 100), none, none] (by decide) rfl (Nat.le_of_ble_eq_true rfl) ?_)
  refine x_iconst (pc := 0) (nI 0) dX9_choice_0 (by decide) ?_
  refine x_istore_n (pc := 1) 1 dX9_choice_1 rfl (by decide) rfl ?_
  refine x_iconst (pc := 2) (nI 1) dX9_choice_2 (by decide) ?_
  refine x_istore_n (pc := 3) 2 dX9_choice_3 rfl (by decide) rfl ?_
  exact l_choice d hv h30 (aV α) 1 0 (by omega) (by omega) (by omega)
theorem t_begins (d : Nat) (f n : Int32) (hN : α 101 1 = nI (aN α)) (h400 : aN α < 400) : zTr E (d + 1) mX9_begins [.ref 100, .int f, .int n] (κ, α, τ) (some (.int (nI (aN α)))) (κ, a_begins α f n, τ) := by
  refine zM.tr (zM_of [some (.ref 100), some (.int f), some (.int n), none] (by decide) rfl (Nat.le_of_ble_eq_true rfl) ?_)
  refine x_aload_n (pc := 0) 0 dX9_begins_0 rfl rfl ?_
  refine x_getr (pc := 1) (101) dX9_begins_1 fX9_7 (zat_b rfl rfl) rfl ?_
  refine x_iconst (pc := 4) (nI 1) dX9_begins_4 (by decide) ?_
  have hj5 : 1 < 13326 := by omega
  refine x_iald_h (pc := 5) (1) dX9_begins_5 (zar_b rfl rfl rfl) rfl (by first | rfl | simp only [pk_mul, nI_add] | simp only [zon, pk_mul, nI_add]) hj5 (Nat.lt_of_lt_of_le hj5 (by decide)) ?_
  rw [hN]
  refine x_istore_n (pc := 6) 3 dX9_begins_6 rfl (by decide) rfl ?_
  refine x_aload_n (pc := 7) 0 dX9_begins_7 rfl rfl ?_
  refine x_getr (pc := 8) (101) dX9_begins_8 fX9_7 (zat_b rfl rfl) rfl ?_
  refine x_sipush (pc := 11) (nI 525) dX9_begins_11 (by decide) ?_
  refine x_iload_n (pc := 14) 3 dX9_begins_14 rfl rfl ?_
  refine x_iadd (pc := 15) dX9_begins_15 ?_
  refine x_iload_n (pc := 16) 1 dX9_begins_16 rfl rfl ?_
  have hj17 : 525 + aN α < 13326 := by omega
  refine x_iast_h (pc := 17) (525 + aN α) dX9_begins_17 (zar_b rfl rfl rfl) rfl (by first | rfl | simp only [pk_mul, nI_add] | simp only [zon, pk_mul, nI_add]) hj17 (Nat.lt_of_lt_of_le hj17 (by decide)) ?_
  refine x_aload_n (pc := 18) 0 dX9_begins_18 rfl rfl ?_
  refine x_getr (pc := 19) (101) dX9_begins_19 fX9_7 (zat_b rfl rfl) rfl ?_
  refine x_bipush (pc := 22) (nI 125) dX9_begins_22 (by decide) ?_
  refine x_iload_n (pc := 24) 3 dX9_begins_24 rfl rfl ?_
  refine x_iadd (pc := 25) dX9_begins_25 ?_
  refine x_iload_n (pc := 26) 2 dX9_begins_26 rfl rfl ?_
  have hj27 : 125 + aN α < 13326 := by omega
  refine x_iast_h (pc := 27) (125 + aN α) dX9_begins_27 (zar_b rfl rfl rfl) rfl (by first | rfl | simp only [pk_mul, nI_add] | simp only [zon, pk_mul, nI_add]) hj27 (Nat.lt_of_lt_of_le hj27 (by decide)) ?_
  refine x_aload_n (pc := 28) 0 dX9_begins_28 rfl rfl ?_
  refine x_getr (pc := 29) (101) dX9_begins_29 fX9_7 (zat_b rfl rfl) rfl ?_
  refine x_iconst (pc := 32) (nI 1) dX9_begins_32 (by decide) ?_
  refine x_dup2 (pc := 33) dX9_begins_33 rfl rfl ?_
  have hj34 : 1 < 13326 := by omega
  refine x_iald_h (pc := 34) (1) dX9_begins_34 (zar_b rfl rfl rfl) rfl (by first | rfl | simp only [pk_mul, nI_add] | simp only [zon, pk_mul, nI_add]) hj34 (Nat.lt_of_lt_of_le hj34 (by decide)) ?_
  rw [zup_i (by omega), zup_i (by omega), hN]
  refine x_iconst (pc := 35) (nI 1) dX9_begins_35 (by decide) ?_
  refine x_iadd (pc := 36) dX9_begins_36 ?_
  rw [nI_add]
  have hj37 : 1 < 13326 := by omega
  refine x_iast_h (pc := 37) (1) dX9_begins_37 (zar_b rfl rfl rfl) rfl (by first | rfl | simp only [pk_mul, nI_add] | simp only [zon, pk_mul, nI_add]) hj37 (Nat.lt_of_lt_of_le hj37 (by decide)) ?_
  refine x_aload_n (pc := 38) 0 dX9_begins_38 rfl rfl ?_
  refine x_getr (pc := 39) (101) dX9_begins_39 fX9_7 (zat_b rfl rfl) rfl ?_
  refine x_iconst (pc := 42) (nI 2) dX9_begins_42 (by decide) ?_
  refine x_dup2 (pc := 43) dX9_begins_43 rfl rfl ?_
  have hj44 : 2 < 13326 := by omega
  refine x_iald_h (pc := 44) (2) dX9_begins_44 (zar_b rfl rfl rfl) rfl (by first | rfl | simp only [pk_mul, nI_add] | simp only [zon, pk_mul, nI_add]) hj44 (Nat.lt_of_lt_of_le hj44 (by decide)) ?_
  rw [zup_i (by omega), zup_i (by omega), zup_i (by omega)]
  by_cases h : f = 0
  ·
    refine x_iload_n (pc := 45) 1 dX9_begins_45 rfl rfl ?_
    refine x_if_ne_f (pc := 46) 53 dX9_begins_46 (by decide) (h) ?_
    refine x_iconst (pc := 49) (nI 1) dX9_begins_49 (by decide) ?_
    refine x_goto (pc := 50) 54 dX9_begins_50 (by decide) ?_
    refine x_iadd (pc := 54) dX9_begins_54 ?_
    have hj55 : 2 < 13326 := by omega
    refine x_iast_h (pc := 55) (2) dX9_begins_55 (zar_b rfl rfl rfl) rfl (by first | rfl | simp only [pk_mul, nI_add] | simp only [zon, pk_mul, nI_add]) hj55 (Nat.lt_of_lt_of_le hj55 (by decide)) ?_
    refine x_iload_n (pc := 56) 3 dX9_begins_56 rfl rfl ?_
    refine x_iret (pc := 57) dX9_begins_57 rfl ?_
    exact ⟨rfl, by rw [a_begins, if_pos h]⟩
  ·
    refine x_iload_n (pc := 45) 1 dX9_begins_45 rfl rfl ?_
    refine x_if_ne_t (pc := 46) 53 dX9_begins_46 (by decide) (h) ?_
    refine x_iconst (pc := 53) (nI 0) dX9_begins_53 (by decide) ?_
    refine x_iadd (pc := 54) dX9_begins_54 ?_
    have hj55 : 2 < 13326 := by omega
    refine x_iast_h (pc := 55) (2) dX9_begins_55 (zar_b rfl rfl rfl) rfl (by first | rfl | simp only [pk_mul, nI_add] | simp only [zon, pk_mul, nI_add]) hj55 (Nat.lt_of_lt_of_le hj55 (by decide)) ?_
    refine x_iload_n (pc := 56) 3 dX9_begins_56 rfl rfl ?_
    refine x_iret (pc := 57) dX9_begins_57 rfl ?_
    exact ⟨rfl, by rw [a_begins, if_neg h]⟩
theorem l_luby (d : Nat) {i : Nat} (hi : i < 2 ^ 20) (P : Option Value → zMem → Prop) (μ : zMem) : ∀ n f, 1 ≤ f → f ≤ i → i ≤ f * 2 ^ n → zX E d mX9_luby 18 [some (.int (nI i)), some (.int (nI (lfl n i f)))] [] μ P → zX E d mX9_luby 2 [some (.int (nI i)), some (.int (nI f))] [] μ P := by
  intro n
  induction n with
  | zero =>
    intro f h1 h2 h3 K
    have e : f = i := by simp at h3; omega
    refine x_iconst (pc := 2) (nI 2) dX9_luby_2 (by decide) ?_
    refine x_iload_n (pc := 3) 1 dX9_luby_3 rfl rfl ?_
    refine x_imul (pc := 4) dX9_luby_4 ?_
    refine x_iconst (pc := 5) (nI 1) dX9_luby_5 (by decide) ?_
    refine x_isub (pc := 6) dX9_luby_6 ?_
    refine x_iload_n (pc := 7) 0 dX9_luby_7 rfl rfl ?_
    rw [pk_mul, show nI 1 = 1 from rfl, show nI (2 * f) - 1 = nI (2 * f - 1) by rw [show 2 * f = (2 * f - 1) + 1 by omega, nI_pred]; rfl]
    refine x_icmp_ge_t (pc := 8) 18 dX9_luby_8 (by decide) (nI_le (by omega) (by omega)) ?_
    exact K
  | succ n ih =>
    intro f h1 h2 h3 K
    refine x_iconst (pc := 2) (nI 2) dX9_luby_2 (by decide) ?_
    refine x_iload_n (pc := 3) 1 dX9_luby_3 rfl rfl ?_
    refine x_imul (pc := 4) dX9_luby_4 ?_
    refine x_iconst (pc := 5) (nI 1) dX9_luby_5 (by decide) ?_
    refine x_isub (pc := 6) dX9_luby_6 ?_
    refine x_iload_n (pc := 7) 0 dX9_luby_7 rfl rfl ?_
    rw [pk_mul, show nI 1 = 1 from rfl, show nI (2 * f) - 1 = nI (2 * f - 1) by rw [show 2 * f = (2 * f - 1) + 1 by omega, nI_pred]; rfl]
    by_cases h : 2 * f - 1 < i
    ·
      refine x_icmp_ge_f (pc := 8) 18 dX9_luby_8 (by decide) (nI_ge h (by omega)) ?_
      refine x_iload_n (pc := 11) 1 dX9_luby_11 rfl rfl ?_
      refine x_iconst (pc := 12) (nI 2) dX9_luby_12 (by decide) ?_
      refine x_imul (pc := 13) dX9_luby_13 ?_
      rw [pk_mul]
      refine x_istore_n (pc := 14) 1 dX9_luby_14 rfl (by decide) rfl ?_
      refine x_goto (pc := 15) 2 dX9_luby_15 (by decide) ?_
      rw [Nat.mul_comm f 2]
      have h4 : i ≤ 2 * f * 2 ^ n := by rw [Nat.pow_succ] at h3; rw [Nat.mul_comm 2 f, Nat.mul_assoc, Nat.mul_comm 2]; exact h3
      refine ih (2 * f) (by omega) (by omega) h4 ?_
      rw [lfl, if_pos h] at K
      exact K
    · rw [lfl, if_neg h] at K
      refine x_icmp_ge_t (pc := 8) 18 dX9_luby_8 (by decide) (nI_le (by omega) (by omega)) ?_
      exact K
theorem t_luby (d : Nat) : ∀ n i, 1 ≤ i → i ≤ n → i < 2 ^ 20 → zTr E (d + n + 1) mX9_luby [.int (nI i)] (κ, α, τ) (some (.int (nI (lubF n i)))) (κ, α, τ) := by
  intro n
  induction n with
  | zero => intro i h1 h2; omega
  | succ n ih =>
    intro i h1 h2 h3
    obtain ⟨s1, s2, s3⟩ := (lfl_spec 20 i 1 (by omega) h1 (by omega)).resolve_right (by omega)
    refine zM.tr (zM_of [some (.int (nI i)), none] (by decide) rfl (Nat.le_of_ble_eq_true rfl) ?_)
    refine x_iconst (pc := 0) (nI 1) dX9_luby_0 (by decide) ?_
    refine x_istore_n (pc := 1) 1 dX9_luby_1 rfl (by decide) rfl ?_
    refine l_luby (d + (n + 1) + 1) h3 _ _ 20 1 (by omega) h1 (by omega) ?_
    have hlub : lubF (n + 1) i = if 2 * lfl 20 i 1 - 1 = i then lfl 20 i 1 else lubF n (i - lfl 20 i 1 + 1) := rfl
    generalize lfl 20 i 1 = f at *
    refine x_iconst (pc := 18) (nI 2) dX9_luby_18 (by decide) ?_
    refine x_iload_n (pc := 19) 1 dX9_luby_19 rfl rfl ?_
    refine x_imul (pc := 20) dX9_luby_20 ?_
    refine x_iconst (pc := 21) (nI 1) dX9_luby_21 (by decide) ?_
    refine x_isub (pc := 22) dX9_luby_22 ?_
    refine x_iload_n (pc := 23) 0 dX9_luby_23 rfl rfl ?_
    rw [pk_mul, show nI 1 = 1 from rfl, show nI (2 * f) - 1 = nI (2 * f - 1) by rw [show 2 * f = (2 * f - 1) + 1 by omega, nI_pred]; rfl]
    by_cases h : 2 * f - 1 = i
    ·
      refine x_icmp_ne_f (pc := 24) 31 dX9_luby_24 (by decide) (by rw [h]) ?_
      refine x_iload_n (pc := 27) 1 dX9_luby_27 rfl rfl ?_
      refine x_goto (pc := 28) 39 dX9_luby_28 (by decide) ?_
      refine x_iret (pc := 39) dX9_luby_39 rfl ?_
      exact ⟨by rw [hlub, if_pos h], rfl⟩
    ·
      refine x_icmp_ne_t (pc := 24) 31 dX9_luby_24 (by decide) (fun q => h ((nI_eq (by omega) (by omega)).mp q)) ?_
      refine x_iload_n (pc := 31) 0 dX9_luby_31 rfl rfl ?_
      refine x_iload_n (pc := 32) 1 dX9_luby_32 rfl rfl ?_
      refine x_isub (pc := 33) dX9_luby_33 ?_
      refine x_iconst (pc := 34) (nI 1) dX9_luby_34 (by decide) ?_
      refine x_iadd (pc := 35) dX9_luby_35 ?_
      rw [pk_sub (by omega), nI_add]
      refine x_callS1i (pc := 36) dX9_luby_36 lX9_138 (ih (i - f + 1) (by omega) (by omega) (by omega)) (Nat.le_of_ble_eq_true rfl) (Or.inl zgr) ?_
      refine x_iret (pc := 39) dX9_luby_39 rfl ?_
      exact ⟨by rw [hlub, if_neg h], rfl⟩
end M6
