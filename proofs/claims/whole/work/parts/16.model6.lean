/-! the reference: starting anew, ends, the core -/
def a_anew (α : Nat → Nat → Int32) : Nat → Nat → Int32 :=
  if α 101 5 = 0 ∨ α 100 16 + nI 1 < α 101 5 * nI (lubF 208 ((α 100 17).toNatClampNeg + 1)) then zup α 100 16 (α 100 16 + nI 1)
  else a_leaves (zup (zup (zup (zup α 100 16 (α 100 16 + nI 1)) 100 17 (α 100 17 + nI 1)) 100 16 (nI 0)) 101 11 (α 101 11 + nI 1)) (nI 0)
def a_moF (α : Nat → Nat → Int32) (v : Nat) (a : Nat → Nat → Int32) : Nat → Nat → Int32 := zup a 101 (94 + v) (if 0 < α 105 v then nI 1 else nI 0)
def a_model (α : Nat → Nat → Int32) : Nat → Nat → Int32 := zup (zit (a_moF α) 1 (aV α) α) 101 14 (α 101 0)
def a_ends (α : Nat → Nat → Int32) (how : Nat) : Nat → Nat → Int32 := zup (a_leaves (if how = 1 then a_model α else α) (-1)) 101 12 (nI how)
def aLn (α : Nat → Nat → Int32) : Nat := (α 101 6).toNatClampNeg
def a_refuted (α : Nat → Nat → Int32) : Nat → Nat → Int32 :=
  if α 101 7 = 0 then a_ends (zup (zup (zup (zup α 101 13 (nI 0)) 101 7 (nI 1)) 101 (925 + aLn α) (-1)) 101 6 (nI (aLn α + 1))) 0 else a_ends (zup α 101 13 (nI 0)) 0
theorem aQ.up {α : Nat → Nat → Int32} {t p i : Nat} {v : Int32} (h : aQ α t) (h1 : p ≠ 109) (h2 : ¬ (p = 100 ∧ i = 10)) : aQ (zup α p i v) t := by
  obtain ⟨q1, q2, q3⟩ := h
  refine ⟨?_, q2, fun j hj => ?_⟩
  · unfold zup; rw [if_neg (fun z => h2 ⟨z.1.symm, z.2.symm⟩)]; exact q1
  · rw [zup_p (fun z => h1 z.symm)]; exact q3 j hj
theorem aQ.off {α β : Nat → Nat → Int32} {L : List Nat} {t : Nat} (h : aQ α t) (ho : zoff L α β) (h1 : 109 ∉ L) (h2 : 100 ∉ L) : aQ β t := by
  obtain ⟨q1, q2, q3⟩ := h
  exact ⟨by rw [ho.at h2]; exact q1, q2, fun j hj => by rw [ho.at h1]; exact q3 j hj⟩
section M7
variable {E : zEnv} {κ α : Nat → Nat → Int32} {τ : (Nat → Nat → Int64) × (Nat → Nat)}
theorem t_startsAnew (d : Nat) {t a : Nat} (hQ : aQ α t) (ha : α 100 17 = nI a) (ha2 : a ≤ 200) : zTr E (d + 210) mX9_startsAnew [.ref 100] (κ, α, τ) none (κ, a_anew α, τ) := by
  have hc : (α 100 17).toNatClampNeg = a := by rw [ha]; exact nI_clamp (by omega)
  refine zM.tr (zM_of [some (.ref 100)] (by decide) rfl (Nat.le_of_ble_eq_true rfl) ?_)
  unfold a_anew
  rw [hc]
  refine x_aload_n (pc := 0) 0 dX9_startsAnew_0 rfl rfl ?_
  refine x_dup (pc := 1) dX9_startsAnew_1 rfl ?_
  refine x_geti_h (pc := 2) dX9_startsAnew_2 fX9_141 (zat_b rfl rfl) rfl rfl ?_
  refine x_iconst (pc := 5) (nI 1) dX9_startsAnew_5 (by decide) ?_
  refine x_iadd (pc := 6) dX9_startsAnew_6 ?_
  refine x_puti_h (pc := 7) dX9_startsAnew_7 pX9_141 (zat_b rfl rfl) rfl rfl ?_
  refine x_aload_n (pc := 10) 0 dX9_startsAnew_10 rfl rfl ?_
  refine x_getr (pc := 11) (101) dX9_startsAnew_11 fX9_7 (zat_b rfl rfl) rfl ?_
  refine x_iconst (pc := 14) (nI 5) dX9_startsAnew_14 (by decide) ?_
  have hj15 : 5 < 13326 := by omega
  refine x_iald_h (pc := 15) (5) dX9_startsAnew_15 (zar_b rfl rfl rfl) rfl (by first | rfl | simp only [pk_mul, nI_add] | simp only [zon, pk_mul, nI_add]) hj15 (Nat.lt_of_lt_of_le hj15 (by decide)) ?_
  rw [zup_p (by decide)]
  by_cases h1 : α 101 5 = 0
  ·
    refine x_if_eq_t (pc := 16) 42 dX9_startsAnew_16 (by decide) (h1) ?_
    refine x_vret (pc := 42) dX9_startsAnew_42 rfl ?_
    exact ⟨rfl, by rw [if_pos (Or.inl h1)]⟩
  ·
    refine x_if_eq_f (pc := 16) 42 dX9_startsAnew_16 (by decide) (h1) ?_
    refine x_aload_n (pc := 19) 0 dX9_startsAnew_19 rfl rfl ?_
    refine x_geti_h (pc := 20) dX9_startsAnew_20 fX9_141 (zat_b rfl rfl) rfl rfl ?_
    rw [zup_same]
    refine x_aload_n (pc := 23) 0 dX9_startsAnew_23 rfl rfl ?_
    refine x_getr (pc := 24) (101) dX9_startsAnew_24 fX9_7 (zat_b rfl rfl) rfl ?_
    refine x_iconst (pc := 27) (nI 5) dX9_startsAnew_27 (by decide) ?_
    have hj28 : 5 < 13326 := by omega
    refine x_iald_h (pc := 28) (5) dX9_startsAnew_28 (zar_b rfl rfl rfl) rfl (by first | rfl | simp only [pk_mul, nI_add] | simp only [zon, pk_mul, nI_add]) hj28 (Nat.lt_of_lt_of_le hj28 (by decide)) ?_
    rw [zup_p (by decide)]
    refine x_aload_n (pc := 29) 0 dX9_startsAnew_29 rfl rfl ?_
    refine x_geti_h (pc := 30) dX9_startsAnew_30 fX9_144 (zat_b rfl rfl) rfl rfl ?_
    rw [zup_i (by decide), ha]
    refine x_iconst (pc := 33) (nI 1) dX9_startsAnew_33 (by decide) ?_
    refine x_iadd (pc := 34) dX9_startsAnew_34 ?_
    rw [nI_add]
    refine x_callS1i (pc := 35) dX9_startsAnew_35 lX9_138 (t_luby d 208 (a + 1) (by omega) (by omega) (by omega)) (Nat.le_of_ble_eq_true rfl) (Or.inl zgr) ?_
    refine x_imul (pc := 38) dX9_startsAnew_38 ?_
    by_cases h2 : α 100 16 + nI 1 < α 101 5 * nI (lubF 208 (a + 1))
    ·
      refine x_icmp_ge_f (pc := 39) 43 dX9_startsAnew_39 (by decide) (Int32.not_le.mpr h2) ?_
      refine x_vret (pc := 42) dX9_startsAnew_42 rfl ?_
      exact ⟨rfl, by rw [if_pos (Or.inr h2)]⟩
    ·
      refine x_icmp_ge_t (pc := 39) 43 dX9_startsAnew_39 (by decide) (Int32.not_lt.mp h2) ?_
      refine x_aload_n (pc := 43) 0 dX9_startsAnew_43 rfl rfl ?_
      refine x_dup (pc := 44) dX9_startsAnew_44 rfl ?_
      refine x_geti_h (pc := 45) dX9_startsAnew_45 fX9_144 (zat_b rfl rfl) rfl rfl ?_
      rw [zup_i (by decide)]
      refine x_iconst (pc := 48) (nI 1) dX9_startsAnew_48 (by decide) ?_
      refine x_iadd (pc := 49) dX9_startsAnew_49 ?_
      refine x_puti_h (pc := 50) dX9_startsAnew_50 pX9_144 (zat_b rfl rfl) rfl rfl ?_
      refine x_aload_n (pc := 53) 0 dX9_startsAnew_53 rfl rfl ?_
      refine x_iconst (pc := 54) (nI 0) dX9_startsAnew_54 (by decide) ?_
      refine x_puti_h (pc := 55) dX9_startsAnew_55 pX9_141 (zat_b rfl rfl) rfl rfl ?_
      refine x_aload_n (pc := 58) 0 dX9_startsAnew_58 rfl rfl ?_
      refine x_getr (pc := 59) (101) dX9_startsAnew_59 fX9_7 (zat_b rfl rfl) rfl ?_
      refine x_bipush (pc := 62) (nI 11) dX9_startsAnew_62 (by decide) ?_
      refine x_dup2 (pc := 64) dX9_startsAnew_64 rfl rfl ?_
      have hj65 : 11 < 13326 := by omega
      refine x_iald_h (pc := 65) (11) dX9_startsAnew_65 (zar_b rfl rfl rfl) rfl (by first | rfl | simp only [pk_mul, nI_add] | simp only [zon, pk_mul, nI_add]) hj65 (Nat.lt_of_lt_of_le hj65 (by decide)) ?_
      rw [zup_p (by decide), zup_p (by decide), zup_p (by decide)]
      refine x_iconst (pc := 66) (nI 1) dX9_startsAnew_66 (by decide) ?_
      refine x_iadd (pc := 67) dX9_startsAnew_67 ?_
      have hj68 : 11 < 13326 := by omega
      refine x_iast_h (pc := 68) (11) dX9_startsAnew_68 (zar_b rfl rfl rfl) rfl (by first | rfl | simp only [pk_mul, nI_add] | simp only [zon, pk_mul, nI_add]) hj68 (Nat.lt_of_lt_of_le hj68 (by decide)) ?_
      refine x_aload_n (pc := 69) 0 dX9_startsAnew_69 rfl rfl ?_
      refine x_iconst (pc := 70) (nI 0) dX9_startsAnew_70 (by decide) ?_
      have hQ2 : aQ (zup (zup (zup (zup α 100 16 (α 100 16 + nI 1)) 100 17 (α 100 17 + nI 1)) 100 16 (nI 0)) 101 11 (α 101 11 + nI 1)) t := (((hQ.up (by decide) (by decide)).up (by decide) (by decide)).up (by decide) (by decide)).up (by decide) (by decide)
      refine x_callV1v (pc := 71) dX9_startsAnew_71 lX9_131 (zat_b rfl rfl) rfl (t_leaves (d + 207) (nI 0) hQ2) (Nat.le_of_ble_eq_true rfl) (Or.inl zgr) ?_
      refine x_vret (pc := 74) dX9_startsAnew_74 rfl ?_
      exact ⟨rfl, by rw [if_neg (fun q => q.elim h1 h2), ha, nI_add]⟩
theorem l_ends (d : Nat) (hv : α 101 0 = nI (aV α)) (h30 : aV α ≤ 30) (P : Option Value → zMem → Prop) (K : ∀ v', zX E d mX9_ends 46 [some (.ref 100), some (.int (nI 1)), some v'] [] (κ, zit (a_moF α) 1 (aV α) α, τ) P) : ∀ m v β, v + m = aV α + 1 → zoff [101] α β → β 101 0 = α 101 0 → 1 ≤ v → zit (a_moF α) v m β = zit (a_moF α) 1 (aV α) α → zX E d mX9_ends 7 [some (.ref 100), some (.int (nI 1)), some (.int (nI v))] [] (κ, β, τ) P := by
  intro m
  induction m with
  | zero =>
    intro v β hm ho h0 h1 he
    refine x_iload_n (pc := 7) 2 dX9_ends_7 rfl rfl ?_
    refine x_aload_n (pc := 8) 0 dX9_ends_8 rfl rfl ?_
    refine x_getr (pc := 9) (101) dX9_ends_9 fX9_7 (zat_b rfl rfl) rfl ?_
    refine x_iconst (pc := 12) (nI 0) dX9_ends_12 (by decide) ?_
    have hj13 : 0 < 13326 := by omega
    refine x_iald_h (pc := 13) (0) dX9_ends_13 (zar_b rfl rfl rfl) rfl (by first | rfl | simp only [pk_mul, nI_add] | simp only [zon, pk_mul, nI_add]) hj13 (Nat.lt_of_lt_of_le hj13 (by decide)) ?_
    rw [h0, hv]
    refine x_icmp_gt_t (pc := 14) 46 dX9_ends_14 (by decide) (nI_lt (by omega) (by omega)) ?_
    rw [← he] at K
    exact K _
  | succ m ih =>
    intro v β hm ho h0 h1 he
    refine x_iload_n (pc := 7) 2 dX9_ends_7 rfl rfl ?_
    refine x_aload_n (pc := 8) 0 dX9_ends_8 rfl rfl ?_
    refine x_getr (pc := 9) (101) dX9_ends_9 fX9_7 (zat_b rfl rfl) rfl ?_
    refine x_iconst (pc := 12) (nI 0) dX9_ends_12 (by decide) ?_
    have hj13 : 0 < 13326 := by omega
    refine x_iald_h (pc := 13) (0) dX9_ends_13 (zar_b rfl rfl rfl) rfl (by first | rfl | simp only [pk_mul, nI_add] | simp only [zon, pk_mul, nI_add]) hj13 (Nat.lt_of_lt_of_le hj13 (by decide)) ?_
    rw [h0, hv]
    refine x_icmp_gt_f (pc := 14) 46 dX9_ends_14 (by decide) (nI_nlt (by omega) (by omega)) ?_
    refine x_aload_n (pc := 17) 0 dX9_ends_17 rfl rfl ?_
    refine x_getr (pc := 18) (101) dX9_ends_18 fX9_7 (zat_b rfl rfl) rfl ?_
    refine x_bipush (pc := 21) (nI 94) dX9_ends_21 (by decide) ?_
    refine x_iload_n (pc := 23) 2 dX9_ends_23 rfl rfl ?_
    refine x_iadd (pc := 24) dX9_ends_24 ?_
    refine x_aload_n (pc := 25) 0 dX9_ends_25 rfl rfl ?_
    refine x_getr (pc := 26) (105) dX9_ends_26 fX9_23 (zat_b rfl rfl) rfl ?_
    refine x_iload_n (pc := 29) 2 dX9_ends_29 rfl rfl ?_
    have hj30 : v < 31 := by omega
    refine x_iald_h (pc := 30) (v) dX9_ends_30 (zar_b rfl rfl rfl) rfl (by first | rfl | simp only [pk_mul, nI_add] | simp only [zon, pk_mul, nI_add]) hj30 (Nat.lt_of_lt_of_le hj30 (by decide)) ?_
    rw [ho.at (by decide)]
    have hs : zit (a_moF α) v (m + 1) β = zit (a_moF α) (v + 1) m (a_moF α v β) := rfl
    have hn : zoff [101] α (a_moF α v β) := ho.up (by decide)
    have hz : a_moF α v β 101 0 = α 101 0 := by unfold a_moF; rw [zup_i (by omega)]; exact h0
    by_cases h : 0 < α 105 v
    ·
      refine x_if_le_f (pc := 31) 38 dX9_ends_31 (by decide) (Int32.not_le.mpr h) ?_
      refine x_iconst (pc := 34) (nI 1) dX9_ends_34 (by decide) ?_
      refine x_goto (pc := 35) 39 dX9_ends_35 (by decide) ?_
      have hj39 : 94 + v < 13326 := by omega
      refine x_iast_h (pc := 39) (94 + v) dX9_ends_39 (zar_b rfl rfl rfl) rfl (by first | rfl | simp only [pk_mul, nI_add] | simp only [zon, pk_mul, nI_add]) hj39 (Nat.lt_of_lt_of_le hj39 (by decide)) ?_
      refine x_iinc (pc := 40) (nI (v + 1)) dX9_ends_40 rfl (zinc _) (by decide) rfl ?_
      refine x_goto (pc := 43) 7 dX9_ends_43 (by decide) ?_
      have e : a_moF α v β = zup β 101 (94 + v) (nI 1) := by unfold a_moF; rw [if_pos h]
      rw [← e]
      exact ih (v + 1) _ (by omega) hn hz (by omega) (by rw [← hs]; exact he)
    ·
      refine x_if_le_t (pc := 31) 38 dX9_ends_31 (by decide) (Int32.not_lt.mp h) ?_
      refine x_iconst (pc := 38) (nI 0) dX9_ends_38 (by decide) ?_
      have hj39 : 94 + v < 13326 := by omega
      refine x_iast_h (pc := 39) (94 + v) dX9_ends_39 (zar_b rfl rfl rfl) rfl (by first | rfl | simp only [pk_mul, nI_add] | simp only [zon, pk_mul, nI_add]) hj39 (Nat.lt_of_lt_of_le hj39 (by decide)) ?_
      refine x_iinc (pc := 40) (nI (v + 1)) dX9_ends_40 rfl (zinc _) (by decide) rfl ?_
      refine x_goto (pc := 43) 7 dX9_ends_43 (by decide) ?_
      have e : a_moF α v β = zup β 101 (94 + v) (nI 0) := by unfold a_moF; rw [if_neg h]
      rw [← e]
      exact ih (v + 1) _ (by omega) hn hz (by omega) (by rw [← hs]; exact he)
theorem a_moF_off (α : Nat → Nat → Int32) (v : Nat) (a : Nat → Nat → Int32) : zoff [101] a (a_moF α v a) := zoff.rf.up (by decide)
theorem a_model_off : zoff [101] α (a_model α) := (zit_off _ (a_moF_off α) _ _ _).up (by decide)
theorem zit_moF (α : Nat → Nat → Int32) : ∀ m v a i, (i < 94 + v ∨ 94 + v + m ≤ i) → zit (a_moF α) v m a 101 i = a 101 i
  | 0, v, a, i, h => rfl
  | m + 1, v, a, i, h => by
    show zit (a_moF α) (v + 1) m (a_moF α v a) 101 i = _
    rw [zit_moF α m (v + 1) _ i (by omega)]
    unfold a_moF
    rw [zup_i (by omega)]
theorem t_ends (d : Nat) {t how : Nat} (hQ : aQ α t) (hhow : how < 4) (hv : α 101 0 = nI (aV α)) (h30 : aV α ≤ 30) : zTr E (d + 3) mX9_ends [.ref 100, .int (nI how)] (κ, α, τ) (some (.int (nI how))) (κ, a_ends α how, τ) := by
  refine zM.tr (zM_of [some (.ref 100), some (.int (nI how)), none] (by decide) rfl (Nat.le_of_ble_eq_true rfl) ?_)
  unfold a_ends
  by_cases h : how = 1
  · subst h
    rw [if_pos rfl]
    refine x_iload_n (pc := 0) 1 dX9_ends_0 rfl rfl ?_
    refine x_iconst (pc := 1) (nI 1) dX9_ends_1 (by decide) ?_
    refine x_icmp_ne_f (pc := 2) 59 dX9_ends_2 (by decide) (rfl) ?_
    refine x_iconst (pc := 5) (nI 1) dX9_ends_5 (by decide) ?_
    refine x_istore_n (pc := 6) 2 dX9_ends_6 rfl (by decide) rfl ?_
    refine l_ends (d + 3) hv h30 _ (fun v' => ?_) (aV α) 1 α (by omega) zoff.rf rfl (by omega) rfl
    refine x_aload_n (pc := 46) 0 dX9_ends_46 rfl rfl ?_
    refine x_getr (pc := 47) (101) dX9_ends_47 fX9_7 (zat_b rfl rfl) rfl ?_
    refine x_bipush (pc := 50) (nI 14) dX9_ends_50 (by decide) ?_
    refine x_aload_n (pc := 52) 0 dX9_ends_52 rfl rfl ?_
    refine x_getr (pc := 53) (101) dX9_ends_53 fX9_7 (zat_b rfl rfl) rfl ?_
    refine x_iconst (pc := 56) (nI 0) dX9_ends_56 (by decide) ?_
    have hj57 : 0 < 13326 := by omega
    refine x_iald_h (pc := 57) (0) dX9_ends_57 (zar_b rfl rfl rfl) rfl (by first | rfl | simp only [pk_mul, nI_add] | simp only [zon, pk_mul, nI_add]) hj57 (Nat.lt_of_lt_of_le hj57 (by decide)) ?_
    rw [zit_moF α (aV α) 1 α 0 (by omega)]
    have hj58 : 14 < 13326 := by omega
    refine x_iast_h (pc := 58) (14) dX9_ends_58 (zar_b rfl rfl rfl) rfl (by first | rfl | simp only [pk_mul, nI_add] | simp only [zon, pk_mul, nI_add]) hj58 (Nat.lt_of_lt_of_le hj58 (by decide)) ?_
    refine x_aload_n (pc := 59) 0 dX9_ends_59 rfl rfl ?_
    refine x_iconst (pc := 60) (-1) dX9_ends_60 (by decide) ?_
    refine x_callV1v (pc := 61) dX9_ends_61 lX9_131 (zat_b rfl rfl) rfl (t_leaves d (-1) (t := t) (hQ.off a_model_off (by decide) (by decide))) (Nat.le_of_ble_eq_true rfl) (Or.inl zgr) ?_
    refine x_aload_n (pc := 64) 0 dX9_ends_64 rfl rfl ?_
    refine x_getr (pc := 65) (101) dX9_ends_65 fX9_7 (zat_b rfl rfl) rfl ?_
    refine x_bipush (pc := 68) (nI 12) dX9_ends_68 (by decide) ?_
    refine x_iload_n (pc := 70) 1 dX9_ends_70 rfl rfl ?_
    have hj71 : 12 < 13326 := by omega
    refine x_iast_h (pc := 71) (12) dX9_ends_71 (zar_b rfl rfl rfl) rfl (by first | rfl | simp only [pk_mul, nI_add] | simp only [zon, pk_mul, nI_add]) hj71 (Nat.lt_of_lt_of_le hj71 (by decide)) ?_
    refine x_iload_n (pc := 72) 1 dX9_ends_72 rfl rfl ?_
    refine x_iret (pc := 73) dX9_ends_73 rfl ?_
    exact ⟨rfl, rfl⟩
  · rw [if_neg h]
    refine x_iload_n (pc := 0) 1 dX9_ends_0 rfl rfl ?_
    refine x_iconst (pc := 1) (nI 1) dX9_ends_1 (by decide) ?_
    refine x_icmp_ne_t (pc := 2) 59 dX9_ends_2 (by decide) (fun q => h ((nI_eq (by omega) (by omega)).mp q)) ?_
    refine x_aload_n (pc := 59) 0 dX9_ends_59 rfl rfl ?_
    refine x_iconst (pc := 60) (-1) dX9_ends_60 (by decide) ?_
    refine x_callV1v (pc := 61) dX9_ends_61 lX9_131 (zat_b rfl rfl) rfl (t_leaves d (-1) hQ) (Nat.le_of_ble_eq_true rfl) (Or.inl zgr) ?_
    refine x_aload_n (pc := 64) 0 dX9_ends_64 rfl rfl ?_
    refine x_getr (pc := 65) (101) dX9_ends_65 fX9_7 (zat_b rfl rfl) rfl ?_
    refine x_bipush (pc := 68) (nI 12) dX9_ends_68 (by decide) ?_
    refine x_iload_n (pc := 70) 1 dX9_ends_70 rfl rfl ?_
    have hj71 : 12 < 13326 := by omega
    refine x_iast_h (pc := 71) (12) dX9_ends_71 (zar_b rfl rfl rfl) rfl (by first | rfl | simp only [pk_mul, nI_add] | simp only [zon, pk_mul, nI_add]) hj71 (Nat.lt_of_lt_of_le hj71 (by decide)) ?_
    refine x_iload_n (pc := 72) 1 dX9_ends_72 rfl rfl ?_
    refine x_iret (pc := 73) dX9_ends_73 rfl ?_
    exact ⟨rfl, rfl⟩
theorem t_refuted (d : Nat) {t : Nat} (hQ : aQ α t) (hv : α 101 0 = nI (aV α)) (h30 : aV α ≤ 30) (hl : α 101 6 = nI (aLn α)) (hl2 : α 101 7 = 0 → aLn α ≤ 400) : zTr E (d + 4) mX9_refuted [.ref 100] (κ, α, τ) (some (.int (nI 0))) (κ, a_refuted α, τ) := by
  refine zM.tr (zM_of [some (.ref 100)] (by decide) rfl (Nat.le_of_ble_eq_true rfl) ?_)
  unfold a_refuted
  refine x_aload_n (pc := 0) 0 dX9_refuted_0 rfl rfl ?_
  refine x_getr (pc := 1) (101) dX9_refuted_1 fX9_7 (zat_b rfl rfl) rfl ?_
  refine x_bipush (pc := 4) (nI 13) dX9_refuted_4 (by decide) ?_
  refine x_iconst (pc := 6) (nI 0) dX9_refuted_6 (by decide) ?_
  have hj7 : 13 < 13326 := by omega
  refine x_iast_h (pc := 7) (13) dX9_refuted_7 (zar_b rfl rfl rfl) rfl (by first | rfl | simp only [pk_mul, nI_add] | simp only [zon, pk_mul, nI_add]) hj7 (Nat.lt_of_lt_of_le hj7 (by decide)) ?_
  refine x_aload_n (pc := 8) 0 dX9_refuted_8 rfl rfl ?_
  refine x_getr (pc := 9) (101) dX9_refuted_9 fX9_7 (zat_b rfl rfl) rfl ?_
  refine x_bipush (pc := 12) (nI 7) dX9_refuted_12 (by decide) ?_
  have hj14 : 7 < 13326 := by omega
  refine x_iald_h (pc := 14) (7) dX9_refuted_14 (zar_b rfl rfl rfl) rfl (by first | rfl | simp only [pk_mul, nI_add] | simp only [zon, pk_mul, nI_add]) hj14 (Nat.lt_of_lt_of_le hj14 (by decide)) ?_
  rw [zup_i (by decide)]
  by_cases h : α 101 7 = 0
  · rw [if_pos h]
    have h400 := hl2 h
    refine x_if_ne_f (pc := 15) 54 dX9_refuted_15 (by decide) (h) ?_
    refine x_aload_n (pc := 18) 0 dX9_refuted_18 rfl rfl ?_
    refine x_getr (pc := 19) (101) dX9_refuted_19 fX9_7 (zat_b rfl rfl) rfl ?_
    refine x_bipush (pc := 22) (nI 7) dX9_refuted_22 (by decide) ?_
    refine x_iconst (pc := 24) (nI 1) dX9_refuted_24 (by decide) ?_
    have hj25 : 7 < 13326 := by omega
    refine x_iast_h (pc := 25) (7) dX9_refuted_25 (zar_b rfl rfl rfl) rfl (by first | rfl | simp only [pk_mul, nI_add] | simp only [zon, pk_mul, nI_add]) hj25 (Nat.lt_of_lt_of_le hj25 (by decide)) ?_
    refine x_aload_n (pc := 26) 0 dX9_refuted_26 rfl rfl ?_
    refine x_getr (pc := 27) (101) dX9_refuted_27 fX9_7 (zat_b rfl rfl) rfl ?_
    refine x_sipush (pc := 30) (nI 925) dX9_refuted_30 (by decide) ?_
    refine x_aload_n (pc := 33) 0 dX9_refuted_33 rfl rfl ?_
    refine x_getr (pc := 34) (101) dX9_refuted_34 fX9_7 (zat_b rfl rfl) rfl ?_
    refine x_bipush (pc := 37) (nI 6) dX9_refuted_37 (by decide) ?_
    have hj39 : 6 < 13326 := by omega
    refine x_iald_h (pc := 39) (6) dX9_refuted_39 (zar_b rfl rfl rfl) rfl (by first | rfl | simp only [pk_mul, nI_add] | simp only [zon, pk_mul, nI_add]) hj39 (Nat.lt_of_lt_of_le hj39 (by decide)) ?_
    rw [zup_i (by decide), zup_i (by decide), hl]
    refine x_iadd (pc := 40) dX9_refuted_40 ?_
    refine x_iconst (pc := 41) (-1) dX9_refuted_41 (by decide) ?_
    have hj42 : 925 + aLn α < 13326 := by omega
    refine x_iast_h (pc := 42) (925 + aLn α) dX9_refuted_42 (zar_b rfl rfl rfl) rfl (by first | rfl | simp only [pk_mul, nI_add] | simp only [zon, pk_mul, nI_add]) hj42 (Nat.lt_of_lt_of_le hj42 (by decide)) ?_
    refine x_aload_n (pc := 43) 0 dX9_refuted_43 rfl rfl ?_
    refine x_getr (pc := 44) (101) dX9_refuted_44 fX9_7 (zat_b rfl rfl) rfl ?_
    refine x_bipush (pc := 47) (nI 6) dX9_refuted_47 (by decide) ?_
    refine x_dup2 (pc := 49) dX9_refuted_49 rfl rfl ?_
    have hj50 : 6 < 13326 := by omega
    refine x_iald_h (pc := 50) (6) dX9_refuted_50 (zar_b rfl rfl rfl) rfl (by first | rfl | simp only [pk_mul, nI_add] | simp only [zon, pk_mul, nI_add]) hj50 (Nat.lt_of_lt_of_le hj50 (by decide)) ?_
    rw [zup_i (by omega), zup_i (by decide), zup_i (by decide), hl]
    refine x_iconst (pc := 51) (nI 1) dX9_refuted_51 (by decide) ?_
    refine x_iadd (pc := 52) dX9_refuted_52 ?_
    rw [nI_add]
    have hQ2 : aQ (zup (zup (zup (zup α 101 13 (nI 0)) 101 7 (nI 1)) 101 (925 + aLn α) (-1)) 101 6 (nI (aLn α + 1))) t := (((hQ.up (by decide) (by decide)).up (by decide) (by decide)).up (by decide) (fun q => absurd q.1 (by decide))).up (by decide) (by decide)
    have e0 : (zup (zup (zup (zup α 101 13 (nI 0)) 101 7 (nI 1)) 101 (925 + aLn α) (-1)) 101 6 (nI (aLn α + 1))) 101 0 = α 101 0 := by rw [zup_i (by decide), zup_i (by omega), zup_i (by decide), zup_i (by decide)]
    have hj53 : 6 < 13326 := by omega
    refine x_iast_h (pc := 53) (6) dX9_refuted_53 (zar_b rfl rfl rfl) rfl (by first | rfl | simp only [pk_mul, nI_add] | simp only [zon, pk_mul, nI_add]) hj53 (Nat.lt_of_lt_of_le hj53 (by decide)) ?_
    refine x_aload_n (pc := 54) 0 dX9_refuted_54 rfl rfl ?_
    refine x_iconst (pc := 55) (nI 0) dX9_refuted_55 (by decide) ?_
    refine x_callV1i (pc := 56) dX9_refuted_56 lX9_147 (zat_b rfl rfl) rfl (t_ends d (how := 0) hQ2 (by decide) (by unfold aV; rw [e0]; exact hv) (by unfold aV; rw [e0]; exact h30)) (Nat.le_of_ble_eq_true rfl) (Or.inl zgr) ?_
    refine x_iret (pc := 59) dX9_refuted_59 rfl ?_
    exact ⟨rfl, rfl⟩
  · rw [if_neg h]
    have hQ2 : aQ (zup α 101 13 (nI 0)) t := hQ.up (by decide) (by decide)
    have e0 : zup α 101 13 (nI 0) 101 0 = α 101 0 := zup_i (by decide)
    refine x_if_ne_t (pc := 15) 54 dX9_refuted_15 (by decide) (h) ?_
    refine x_aload_n (pc := 54) 0 dX9_refuted_54 rfl rfl ?_
    refine x_iconst (pc := 55) (nI 0) dX9_refuted_55 (by decide) ?_
    refine x_callV1i (pc := 56) dX9_refuted_56 lX9_147 (zat_b rfl rfl) rfl (t_ends d (how := 0) hQ2 (by decide) (by unfold aV; rw [e0]; exact hv) (by unfold aV; rw [e0]; exact h30)) (Nat.le_of_ble_eq_true rfl) (Or.inl zgr) ?_
    refine x_iret (pc := 59) dX9_refuted_59 rfl ?_
    exact ⟨rfl, rfl⟩
end M7
