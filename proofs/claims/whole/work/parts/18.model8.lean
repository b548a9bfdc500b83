/-! the reference: learning -/
def a_rsF (v : Nat) (a : Nat → Nat → Int32) : Nat → Nat → Int32 := zup (zup a 112 v (nI 0)) 113 v (nI 0)
def a_resStep (α : Nat → Nat → Int32) : Nat → Nat → Int32 := a_brings (zup α 112 (a_latest α) (nI 0)) (α 107 (a_latest α)).toNatClampNeg (a_latest α)
def a_res : Nat → (Nat → Nat → Int32) → (Nat → Nat → Int32)
  | 0, α => α
  | n + 1, α => if 1 < a_levelNow α then a_res n (a_resStep α) else α
def resOK : Nat → (Nat → Nat → Int32) → Prop
  | 0, α => a_levelNow α ≤ 1
  | n + 1, α => 1 < a_levelNow α → (∃ r, r < aN α ∧ α 107 (a_latest α) = nI r) ∧ resOK n (a_resStep α)
def a_wlF (v : Nat) (a : Nat → Nat → Int32) : Nat → Nat → Int32 := zup a 114 v (a 112 v)
def a_trF (v : Nat) (a : Nat → Nat → Int32) : Nat → Nat → Int32 := zup a 112 v (if a 112 v = 0 then nI 0 else if a_dropped a v = true then nI 0 else nI 1)
def a_litOf (α : Nat → Nat → Int32) (v : Nat) : Int32 := if 0 < α 105 v then -(nI v) else nI v
def a_inL (α : Nat → Nat → Int32) (l : Nat) : Nat → Nat → List Int32
  | 0, _ => []
  | m + 1, v => (if ¬ α 112 v = 0 ∧ α 106 v = nI l then [a_litOf α v] else []) ++ a_inL α l m (v + 1)
def a_outL (α : Nat → Nat → Int32) : Nat → List Int32
  | 0 => []
  | l + 1 => a_inL α (l + 1) (aV α) 1 ++ a_outL α l
def a_wrl (α : Nat → Nat → Int32) (b : Nat) (xs : List Int32) : Nat → Nat → Int32 := fun p j => if p = 101 ∧ b ≤ j ∧ j < b + xs.length then xs.getD (j - b) 0 else α p j
def a_scF (v : Nat) (a : Nat → Nat → Int32) : Nat → Nat → Int32 :=
  zup (zup a 101 (63 + v) (a 101 (63 + v) + if a 113 v = 0 then nI 0 else nI 16)) 101 (63 + v) ((a 101 (63 + v) + if a 113 v = 0 then nI 0 else nI 16) - (a 101 (63 + v) + if a 113 v = 0 then nI 0 else nI 16) / nI 8)
def a_l2 (α : Nat → Nat → Int32) (c : Nat) : Nat → Nat → Int32 := a_brings (zit a_rsF 0 31 α) c 0
def a_l3 (α : Nat → Nat → Int32) (c : Nat) : Nat → Nat → Int32 := a_res 31 (a_l2 α c)
def a_l5 (α : Nat → Nat → Int32) (c : Nat) : Nat → Nat → Int32 := zit a_trF 1 (aV α) (zit a_wlF 0 31 (a_l3 α c))
def a_cnt (α : Nat → Nat → Int32) : Nat := zcnt (fun v => decide (¬ α 112 v = 0)) 1 (aV α)
def a_l6 (α : Nat → Nat → Int32) (c : Nat) : Nat → Nat → Int32 := a_begins (a_l5 α c) (nI 1) (nI (a_cnt (a_l5 α c)))
def a_lst (α : Nat → Nat → Int32) (c : Nat) : List Int32 := a_outL (a_l6 α c) (α 100 11).toNatClampNeg
def a_l7 (α : Nat → Nat → Int32) (c : Nat) : Nat → Nat → Int32 := a_wrl (a_l6 α c) (1326 + 30 * aN α) (a_lst α c)
def a_l8 (α : Nat → Nat → Int32) (c : Nat) : Nat → Nat → Int32 :=
  zup (zup (zup (a_l7 α c) 101 (925 + aLn α) (nI (aN α))) 101 6 (nI (aLn α + 1))) 101 8 (α 101 8 + nI 1)
def a_l9 (α : Nat → Nat → Int32) (c : Nat) : Nat → Nat → Int32 := zit a_scF 1 (aV α) (a_l8 α c)
def a_l10 (α : Nat → Nat → Int32) (c : Nat) : Nat → Nat → Int32 :=
  a_leaves (a_l9 α c) (if 1 < a_cnt (a_l5 α c) then a_l9 α c 106 (zv (a_l9 α c 101 (1326 + 30 * aN α + 1))) else nI 0)
def a_learns (α : Nat → Nat → Int32) (c : Nat) : Nat → Nat → Int32 := a_comes (a_l10 α c) (a_l10 α c 101 (1326 + 30 * aN α + 0)) (nI (aN α))
theorem a_lat_le (α : Nat → Nat → Int32) : ∀ m v b, b < v → zit (a_latF α) v m b < v + m
  | 0, v, b, h => h
  | m + 1, v, b, h => by
    show zit (a_latF α) (v + 1) m (a_latF α v b) < _
    have := a_lat_le α m (v + 1) (a_latF α v b) (by unfold a_latF; split <;> omega)
    omega
theorem a_latest_le (α : Nat → Nat → Int32) : a_latest α ≤ aV α := by
  have := a_lat_le α (aV α) 1 0 (by omega)
  unfold a_latest
  omega
theorem a_rsF_off (v : Nat) (a : Nat → Nat → Int32) : zoff [112, 113, 114] a (a_rsF v a) := (zoff.rf.up (by decide)).up (by decide)
theorem a_wlF_off (v : Nat) (a : Nat → Nat → Int32) : zoff [112, 113, 114] a (a_wlF v a) := zoff.rf.up (by decide)
theorem a_trF_off (v : Nat) (a : Nat → Nat → Int32) : zoff [112, 113, 114] a (a_trF v a) := zoff.rf.up (by decide)
theorem a_resStep_off (α : Nat → Nat → Int32) : zoff [112, 113, 114] α (a_resStep α) := (zoff.rf.up (by decide)).tr ((a_brings_off _ _ _).mono (by decide))
theorem a_res_off : ∀ n α, zoff [112, 113, 114] α (a_res n α)
  | 0, α => zoff.rf
  | n + 1, α => by
    unfold a_res
    split
    · exact (a_resStep_off α).tr (a_res_off n _)
    · exact zoff.rf
theorem a_l2_off (α : Nat → Nat → Int32) (c : Nat) : zoff [112, 113, 114] α (a_l2 α c) := (zit_off _ a_rsF_off _ _ _).tr ((a_brings_off _ _ _).mono (by decide))
theorem a_l3_off (α : Nat → Nat → Int32) (c : Nat) : zoff [112, 113, 114] α (a_l3 α c) := (a_l2_off α c).tr (a_res_off _ _)
theorem a_l5_off (α : Nat → Nat → Int32) (c : Nat) : zoff [112, 113, 114] α (a_l5 α c) := (a_l3_off α c).tr ((zit_off _ a_wlF_off _ _ _).tr (zit_off _ a_trF_off _ _ _))
theorem a_wrl_nil (α : Nat → Nat → Int32) (b : Nat) : a_wrl α b [] = α := by
  funext p j
  unfold a_wrl
  rw [if_neg]
  rintro ⟨-, h1, h2⟩
  simp at h2; omega
theorem a_wrl_snoc (α : Nat → Nat → Int32) (b : Nat) (xs : List Int32) (x : Int32) : zup (a_wrl α b xs) 101 (b + xs.length) x = a_wrl α b (xs ++ [x]) := by
  funext p j
  unfold zup a_wrl
  by_cases h : p = 101 ∧ j = b + xs.length
  · obtain ⟨rfl, rfl⟩ := h
    rw [if_pos ⟨rfl, rfl⟩, if_pos ⟨rfl, by omega, by simp⟩]
    simp
  · rw [if_neg h]
    by_cases h1 : p = 101 ∧ b ≤ j ∧ j < b + xs.length
    · rw [if_pos h1, if_pos ⟨h1.1, h1.2.1, by simp; omega⟩]
      simp only [List.getD_eq_getElem?_getD]
      rw [List.getElem?_append_left (by omega)]
    · rw [if_neg h1, if_neg]
      rintro ⟨q1, q2, q3⟩
      simp at q3
      exact h1 ⟨q1, q2, by
        rcases Nat.lt_or_ge j (b + xs.length) with q | q
        · exact q
        · exact absurd ⟨q1, by omega⟩ h⟩
theorem a_wrl_p {α : Nat → Nat → Int32} {b : Nat} {xs : List Int32} {p j : Nat} (h : p ≠ 101 ∨ j < b) : a_wrl α b xs p j = α p j := by
  unfold a_wrl
  rw [if_neg]
  rintro ⟨h1, h2, -⟩
  rcases h with h | h
  · exact h h1
  · omega
theorem a_inL_lok (α : Nat → Nat → Int32) (l : Nat) : ∀ m v, 1 ≤ v → v + m ≤ 31 → ∀ x ∈ a_inL α l m v, lok 30 x
  | 0, v, _, _, x, h => by simp [a_inL] at h
  | m + 1, v, h1, h2, x, h => by
    unfold a_inL at h
    rcases List.mem_append.mp h with h | h
    · split at h
      · rw [List.mem_singleton.mp h]
        unfold a_litOf
        split
        · exact ⟨v, h1, by omega, Or.inr rfl⟩
        · exact ⟨v, h1, by omega, Or.inl rfl⟩
      · simp at h
    · exact a_inL_lok α l m (v + 1) (by omega) (by omega) x h
theorem a_outL_lok (α : Nat → Nat → Int32) (h : aV α ≤ 30) : ∀ l, ∀ x ∈ a_outL α l, lok 30 x
  | 0, x, hx => by simp [a_outL] at hx
  | l + 1, x, hx => by
    unfold a_outL at hx
    rcases List.mem_append.mp hx with q | q
    · exact a_inL_lok α (l + 1) _ _ (by omega) (by omega) x q
    · exact a_outL_lok α h l x q
section M9
variable {E : zEnv} {κ α : Nat → Nat → Int32} {τ : (Nat → Nat → Int64) × (Nat → Nat)} {P : Option Value → zMem → Prop}
theorem l_le1 (d : Nat) {c : Int32} : ∀ m w α, w + m = 31 → (∀ w', zX E d mX9_learns 28 [some (.ref 100), some (.int c), some w', none, none, none, none] [] (κ, zit a_rsF w m α, τ) P) → zX E d mX9_learns 2 [some (.ref 100), some (.int c), some (.int (nI w)), none, none, none, none] [] (κ, α, τ) P := by
  intro m
  induction m with
  | zero =>
    intro w α hw K
    refine x_iload_n (pc := 2) 2 dX9_learns_2 rfl rfl ?_
    refine x_bipush (pc := 3) (nI 30) dX9_learns_3 (by decide) ?_
    refine x_icmp_gt_t (pc := 5) 28 dX9_learns_5 (by decide) (nI_lt (by omega) (by omega)) ?_
    exact K _
  | succ m ih =>
    intro w α hw K
    refine x_iload_n (pc := 2) 2 dX9_learns_2 rfl rfl ?_
    refine x_bipush (pc := 3) (nI 30) dX9_learns_3 (by decide) ?_
    refine x_icmp_gt_f (pc := 5) 28 dX9_learns_5 (by decide) (nI_nlt (by omega) (by omega)) ?_
    refine x_aload_n (pc := 8) 0 dX9_learns_8 rfl rfl ?_
    refine x_getr (pc := 9) (112) dX9_learns_9 fX9_38 (zat_b rfl rfl) rfl ?_
    refine x_iload_n (pc := 12) 2 dX9_learns_12 rfl rfl ?_
    refine x_iconst (pc := 13) (nI 0) dX9_learns_13 (by decide) ?_
    have hj14 : w < 31 := by omega
    refine x_zast_h (pc := 14) (w) dX9_learns_14 (zar_b rfl rfl rfl) rfl (by first | rfl | simp only [pk_mul, nI_add] | simp only [zon, pk_mul, nI_add]) hj14 (Nat.lt_of_lt_of_le hj14 (by decide)) (by decide) ?_
    refine x_aload_n (pc := 15) 0 dX9_learns_15 rfl rfl ?_
    refine x_getr (pc := 16) (113) dX9_learns_16 fX9_41 (zat_b rfl rfl) rfl ?_
    refine x_iload_n (pc := 19) 2 dX9_learns_19 rfl rfl ?_
    refine x_iconst (pc := 20) (nI 0) dX9_learns_20 (by decide) ?_
    have hj21 : w < 31 := by omega
    refine x_zast_h (pc := 21) (w) dX9_learns_21 (zar_b rfl rfl rfl) rfl (by first | rfl | simp only [pk_mul, nI_add] | simp only [zon, pk_mul, nI_add]) hj21 (Nat.lt_of_lt_of_le hj21 (by decide)) (by decide) ?_
    refine x_iinc (pc := 22) (nI (w + 1)) dX9_learns_22 rfl (zinc _) (by decide) rfl ?_
    refine x_goto (pc := 25) 2 dX9_learns_25 (by decide) ?_
    exact ih (w + 1) _ (by omega) K
theorem l_le3 (d : Nat) {c : Int32} : ∀ n α w, aW α → resOK n α → (∀ w', zX E (d + 3) mX9_learns 68 [some (.ref 100), some (.int c), w', none, none, none, none] [] (κ, a_res n α, τ) P) → zX E (d + 3) mX9_learns 34 [some (.ref 100), some (.int c), w, none, none, none, none] [] (κ, α, τ) P := by
  intro n
  induction n with
  | zero =>
    intro α w hW hr K
    have h31 : a_levelNow α ≤ 30 := Nat.le_trans (zcnt_le _ _ _) hW.v30
    refine x_aload_n (pc := 34) 0 dX9_learns_34 rfl rfl ?_
    refine x_callV0i (pc := 35) dX9_learns_35 lX9_121 (zat_b rfl rfl) rfl (t_levelNow (d + 1) hW) (Nat.le_of_ble_eq_true rfl) (Or.inl zgr) ?_
    refine x_iconst (pc := 38) (nI 1) dX9_learns_38 (by decide) ?_
    refine x_icmp_le_t (pc := 39) 68 dX9_learns_39 (by decide) (nI_le hr (by omega)) ?_
    exact K _
  | succ n ih =>
    intro α w hW hr K
    have h31 : a_levelNow α ≤ 30 := Nat.le_trans (zcnt_le _ _ _) hW.v30
    by_cases h : 1 < a_levelNow α
    · obtain ⟨⟨r, hr1, hr2⟩, hr3⟩ := hr h
      have hlat := a_latest_le α
      have hv := hW.v30
      have hn := hW.n400
      have hrc : (α 107 (a_latest α)).toNatClampNeg = r := by rw [hr2]; exact nI_clamp (by omega)
      have e : a_res (n + 1) α = a_res n (a_resStep α) := by rw [a_res, if_pos h]
      rw [e] at K
      refine x_aload_n (pc := 34) 0 dX9_learns_34 rfl rfl ?_
      refine x_callV0i (pc := 35) dX9_learns_35 lX9_121 (zat_b rfl rfl) rfl (t_levelNow (d + 1) hW) (Nat.le_of_ble_eq_true rfl) (Or.inl zgr) ?_
      refine x_iconst (pc := 38) (nI 1) dX9_learns_38 (by decide) ?_
      refine x_icmp_le_f (pc := 39) 68 dX9_learns_39 (by decide) (nI_ge h (by omega)) ?_
      refine x_aload_n (pc := 42) 0 dX9_learns_42 rfl rfl ?_
      refine x_callV0i (pc := 43) dX9_learns_43 lX9_125 (zat_b rfl rfl) rfl (t_latest (d + 1) hW) (Nat.le_of_ble_eq_true rfl) (Or.inl zgr) ?_
      refine x_istore_n (pc := 46) 2 dX9_learns_46 rfl (by decide) rfl ?_
      refine x_aload_n (pc := 47) 0 dX9_learns_47 rfl rfl ?_
      refine x_getr (pc := 48) (112) dX9_learns_48 fX9_38 (zat_b rfl rfl) rfl ?_
      refine x_iload_n (pc := 51) 2 dX9_learns_51 rfl rfl ?_
      refine x_iconst (pc := 52) (nI 0) dX9_learns_52 (by decide) ?_
      have hj53 : a_latest α < 31 := by omega
      refine x_zast_h (pc := 53) (a_latest α) dX9_learns_53 (zar_b rfl rfl rfl) rfl (by first | rfl | simp only [pk_mul, nI_add] | simp only [zon, pk_mul, nI_add]) hj53 (Nat.lt_of_lt_of_le hj53 (by decide)) (by decide) ?_
      refine x_aload_n (pc := 54) 0 dX9_learns_54 rfl rfl ?_
      refine x_aload_n (pc := 55) 0 dX9_learns_55 rfl rfl ?_
      refine x_getr (pc := 56) (107) dX9_learns_56 fX9_29 (zat_b rfl rfl) rfl ?_
      refine x_iload_n (pc := 59) 2 dX9_learns_59 rfl rfl ?_
      have hj60 : a_latest α < 31 := by omega
      refine x_iald_h (pc := 60) (a_latest α) dX9_learns_60 (zar_b rfl rfl rfl) rfl (by first | rfl | simp only [pk_mul, nI_add] | simp only [zon, pk_mul, nI_add]) hj60 (Nat.lt_of_lt_of_le hj60 (by decide)) ?_
      rw [zup_p (by decide), hr2]
      have ho : zoff [112, 113, 114] α (zup α 112 (a_latest α) (nI 0)) := zoff.rf.up (by decide)
      have hW2 := hW.off ho (by decide)
      have hN2 : r < aN (zup α 112 (a_latest α) (nI 0)) := by rw [zo_N ho (by decide)]; exact hr1
      refine x_iload_n (pc := 61) 2 dX9_learns_61 rfl rfl ?_
      refine x_callV2v (pc := 62) dX9_learns_62 lX9_117 (zat_b rfl rfl) rfl (t_brings d hW2 hN2 (by omega)) (Nat.le_of_ble_eq_true rfl) (Or.inl zgr) ?_
      refine x_goto (pc := 65) 34 dX9_learns_65 (by decide) ?_
      have e2 : a_brings (zup α 112 (a_latest α) (nI 0)) r (a_latest α) = a_resStep α := by unfold a_resStep; rw [hrc]
      rw [e2]
      refine ih (a_resStep α) _ (hW.off (a_resStep_off α) (by decide)) hr3 K
    · have e : a_res (n + 1) α = α := by rw [a_res, if_neg h]
      rw [e] at K
      refine x_aload_n (pc := 34) 0 dX9_learns_34 rfl rfl ?_
      refine x_callV0i (pc := 35) dX9_learns_35 lX9_121 (zat_b rfl rfl) rfl (t_levelNow (d + 1) hW) (Nat.le_of_ble_eq_true rfl) (Or.inl zgr) ?_
      refine x_iconst (pc := 38) (nI 1) dX9_learns_38 (by decide) ?_
      refine x_icmp_le_t (pc := 39) 68 dX9_learns_39 (by decide) (nI_le (by omega) (by omega)) ?_
      exact K _
theorem l_le4 (d : Nat) {c : Int32} : ∀ m w β, w + m = 31 → (∀ v, v < 31 → vp_nar .boolean (β 112 v) = β 112 v) → (∀ w', zX E d mX9_learns 94 [some (.ref 100), some (.int c), some w', none, none, none, none] [] (κ, zit a_wlF w m β, τ) P) → zX E d mX9_learns 70 [some (.ref 100), some (.int c), some (.int (nI w)), none, none, none, none] [] (κ, β, τ) P := by
  intro m
  induction m with
  | zero =>
    intro w β hw hb K
    refine x_iload_n (pc := 70) 2 dX9_learns_70 rfl rfl ?_
    refine x_bipush (pc := 71) (nI 30) dX9_learns_71 (by decide) ?_
    refine x_icmp_gt_t (pc := 73) 94 dX9_learns_73 (by decide) (nI_lt (by omega) (by omega)) ?_
    exact K _
  | succ m ih =>
    intro w β hw hb K
    refine x_iload_n (pc := 70) 2 dX9_learns_70 rfl rfl ?_
    refine x_bipush (pc := 71) (nI 30) dX9_learns_71 (by decide) ?_
    refine x_icmp_gt_f (pc := 73) 94 dX9_learns_73 (by decide) (nI_nlt (by omega) (by omega)) ?_
    refine x_aload_n (pc := 76) 0 dX9_learns_76 rfl rfl ?_
    refine x_getr (pc := 77) (114) dX9_learns_77 fX9_44 (zat_b rfl rfl) rfl ?_
    refine x_iload_n (pc := 80) 2 dX9_learns_80 rfl rfl ?_
    refine x_aload_n (pc := 81) 0 dX9_learns_81 rfl rfl ?_
    refine x_getr (pc := 82) (112) dX9_learns_82 fX9_38 (zat_b rfl rfl) rfl ?_
    refine x_iload_n (pc := 85) 2 dX9_learns_85 rfl rfl ?_
    have hj86 : w < 31 := by omega
    refine x_zald_h (pc := 86) (w) dX9_learns_86 (zar_b rfl rfl rfl) rfl (by first | rfl | simp only [pk_mul, nI_add] | simp only [zon, pk_mul, nI_add]) hj86 (Nat.lt_of_lt_of_le hj86 (by decide)) ?_
    have hj87 : w < 31 := by omega
    refine x_zast_h (pc := 87) (w) dX9_learns_87 (zar_b rfl rfl rfl) rfl (by first | rfl | simp only [pk_mul, nI_add] | simp only [zon, pk_mul, nI_add]) hj87 (Nat.lt_of_lt_of_le hj87 (by decide)) (hb w (by omega)) ?_
    refine x_iinc (pc := 88) (nI (w + 1)) dX9_learns_88 rfl (zinc _) (by decide) rfl ?_
    refine x_goto (pc := 91) 70 dX9_learns_91 (by decide) ?_
    exact ih (w + 1) _ (by omega) (fun v hv => by rw [zup_p (by decide)]; exact hb v hv) K
theorem l_le5 (d : Nat) {c : Int32} {V : Nat} (hV30 : V ≤ 30) : ∀ m w β, w + m = V + 1 → 1 ≤ w → aW β → aV β = V → (∀ v, w ≤ v → v ≤ V → ¬ β 112 v = 0 → ¬ β 107 v = -1 → ∃ r, r < aN β ∧ β 107 v = nI r) → (∀ w', zX E (d + 3) mX9_learns 140 [some (.ref 100), some (.int c), some w', none, none, none, none] [] (κ, zit a_trF w m β, τ) P) → zX E (d + 3) mX9_learns 96 [some (.ref 100), some (.int c), some (.int (nI w)), none, none, none, none] [] (κ, β, τ) P := by
  intro m
  induction m with
  | zero =>
    intro w β hw h1 hW hv hr K
    refine x_iload_n (pc := 96) 2 dX9_learns_96 rfl rfl ?_
    refine x_aload_n (pc := 97) 0 dX9_learns_97 rfl rfl ?_
    refine x_getr (pc := 98) (101) dX9_learns_98 fX9_7 (zat_b rfl rfl) rfl ?_
    refine x_iconst (pc := 101) (nI 0) dX9_learns_101 (by decide) ?_
    have hj102 : 0 < 13326 := by omega
    refine x_iald_h (pc := 102) (0) dX9_learns_102 (zar_b rfl rfl rfl) rfl (by first | rfl | simp only [pk_mul, nI_add] | simp only [zon, pk_mul, nI_add]) hj102 (Nat.lt_of_lt_of_le hj102 (by decide)) ?_
    rw [hW.v, hv]
    refine x_icmp_gt_t (pc := 103) 140 dX9_learns_103 (by decide) (nI_lt (by omega) (by omega)) ?_
    exact K _
  | succ m ih =>
    intro w β hw h1 hW hv hr K
    have ho : ∀ x, zoff [112, 113, 114] β (zup β 112 w x) := fun x => zoff.rf.up (by decide)
    have go : ∀ x, a_trF w β = zup β 112 w x → zX E (d + 3) mX9_learns 96 [some (.ref 100), some (.int c), some (.int (nI (w + 1))), none, none, none, none] [] (κ, zup β 112 w x, τ) P := by
      intro x hx
      refine ih (w + 1) _ (by omega) (by omega) (hW.off (ho x) (by decide)) (by rw [zo_V (ho x) (by decide)]; exact hv) (fun v q1 q2 q3 q4 => ?_) ?_
      · rw [zo_N (ho x) (by decide), zup_p (by decide)]
        rw [zup_i (by omega)] at q3
        rw [zup_p (by decide)] at q4
        exact hr v (by omega) q2 q3 q4
      · rw [← hx]
        exact K
    refine x_iload_n (pc := 96) 2 dX9_learns_96 rfl rfl ?_
    refine x_aload_n (pc := 97) 0 dX9_learns_97 rfl rfl ?_
    refine x_getr (pc := 98) (101) dX9_learns_98 fX9_7 (zat_b rfl rfl) rfl ?_
    refine x_iconst (pc := 101) (nI 0) dX9_learns_101 (by decide) ?_
    have hj102 : 0 < 13326 := by omega
    refine x_iald_h (pc := 102) (0) dX9_learns_102 (zar_b rfl rfl rfl) rfl (by first | rfl | simp only [pk_mul, nI_add] | simp only [zon, pk_mul, nI_add]) hj102 (Nat.lt_of_lt_of_le hj102 (by decide)) ?_
    rw [hW.v, hv]
    refine x_icmp_gt_f (pc := 103) 140 dX9_learns_103 (by decide) (nI_nlt (by omega) (by omega)) ?_
    refine x_aload_n (pc := 106) 0 dX9_learns_106 rfl rfl ?_
    refine x_getr (pc := 107) (112) dX9_learns_107 fX9_38 (zat_b rfl rfl) rfl ?_
    refine x_iload_n (pc := 110) 2 dX9_learns_110 rfl rfl ?_
    refine x_aload_n (pc := 111) 0 dX9_learns_111 rfl rfl ?_
    refine x_getr (pc := 112) (112) dX9_learns_112 fX9_38 (zat_b rfl rfl) rfl ?_
    refine x_iload_n (pc := 115) 2 dX9_learns_115 rfl rfl ?_
    have hj116 : w < 31 := by omega
    refine x_zald_h (pc := 116) (w) dX9_learns_116 (zar_b rfl rfl rfl) rfl (by first | rfl | simp only [pk_mul, nI_add] | simp only [zon, pk_mul, nI_add]) hj116 (Nat.lt_of_lt_of_le hj116 (by decide)) ?_
    by_cases h2 : β 112 w = 0
    ·
      refine x_if_eq_t (pc := 117) 132 dX9_learns_117 (by decide) (h2) ?_
      refine x_iconst (pc := 132) (nI 0) dX9_learns_132 (by decide) ?_
      have hj133 : w < 31 := by omega
      refine x_zast_h (pc := 133) (w) dX9_learns_133 (zar_b rfl rfl rfl) rfl (by first | rfl | simp only [pk_mul, nI_add] | simp only [zon, pk_mul, nI_add]) hj133 (Nat.lt_of_lt_of_le hj133 (by decide)) (by decide) ?_
      refine x_iinc (pc := 134) (nI (w + 1)) dX9_learns_134 rfl (zinc _) (by decide) rfl ?_
      refine x_goto (pc := 137) 96 dX9_learns_137 (by decide) ?_
      exact go _ (by unfold a_trF; rw [if_pos h2])
    ·
      refine x_if_eq_f (pc := 117) 132 dX9_learns_117 (by decide) (h2) ?_
      refine x_aload_n (pc := 120) 0 dX9_learns_120 rfl rfl ?_
      refine x_iload_n (pc := 121) 2 dX9_learns_121 rfl rfl ?_
      refine x_callV1i (pc := 122) dX9_learns_122 lX9_128 (zat_b rfl rfl) rfl (t_isDropped d hW (by omega) (fun q => hr w (Nat.le_refl _) (by omega) h2 q)) (Nat.le_of_ble_eq_true rfl) (Or.inl zgr) ?_
      cases h3 : a_dropped β w with
      | true =>
        refine x_if_ne_t (pc := 125) 132 dX9_learns_125 (by decide) (by decide) ?_
        refine x_iconst (pc := 132) (nI 0) dX9_learns_132 (by decide) ?_
        have hj133 : w < 31 := by omega
        refine x_zast_h (pc := 133) (w) dX9_learns_133 (zar_b rfl rfl rfl) rfl (by first | rfl | simp only [pk_mul, nI_add] | simp only [zon, pk_mul, nI_add]) hj133 (Nat.lt_of_lt_of_le hj133 (by decide)) (by decide) ?_
        refine x_iinc (pc := 134) (nI (w + 1)) dX9_learns_134 rfl (zinc _) (by decide) rfl ?_
        refine x_goto (pc := 137) 96 dX9_learns_137 (by decide) ?_
        exact go _ (by unfold a_trF; rw [if_neg h2, if_pos h3])
      | false =>
        refine x_if_ne_f (pc := 125) 132 dX9_learns_125 (by decide) (by decide) ?_
        refine x_iconst (pc := 128) (nI 1) dX9_learns_128 (by decide) ?_
        refine x_goto (pc := 129) 133 dX9_learns_129 (by decide) ?_
        have hj133 : w < 31 := by omega
        refine x_zast_h (pc := 133) (w) dX9_learns_133 (zar_b rfl rfl rfl) rfl (by first | rfl | simp only [pk_mul, nI_add] | simp only [zon, pk_mul, nI_add]) hj133 (Nat.lt_of_lt_of_le hj133 (by decide)) (by decide) ?_
        refine x_iinc (pc := 134) (nI (w + 1)) dX9_learns_134 rfl (zinc _) (by decide) rfl ?_
        refine x_goto (pc := 137) 96 dX9_learns_137 (by decide) ?_
        exact go _ (by unfold a_trF; rw [if_neg h2, if_neg (by rw [h3]; decide)])
theorem l_le6 (d : Nat) {c : Int32} (hW : aW α) : ∀ m w n, w + m = aV α + 1 → n + m ≤ 31 → (∀ w', zX E d mX9_learns 177 [some (.ref 100), some (.int c), some (.int (nI (n + zcnt (fun v => decide (¬ α 112 v = 0)) w m))), some w', none, none, none] [] (κ, α, τ) P) → zX E d mX9_learns 144 [some (.ref 100), some (.int c), some (.int (nI n)), some (.int (nI w)), none, none, none] [] (κ, α, τ) P := by
  have hv := hW.v30
  intro m
  induction m with
  | zero =>
    intro w n hw hn K
    refine x_iload_n (pc := 144) 3 dX9_learns_144 rfl rfl ?_
    refine x_aload_n (pc := 145) 0 dX9_learns_145 rfl rfl ?_
    refine x_getr (pc := 146) (101) dX9_learns_146 fX9_7 (zat_b rfl rfl) rfl ?_
    refine x_iconst (pc := 149) (nI 0) dX9_learns_149 (by decide) ?_
    have hj150 : 0 < 13326 := by omega
    refine x_iald_h (pc := 150) (0) dX9_learns_150 (zar_b rfl rfl rfl) rfl (by first | rfl | simp only [pk_mul, nI_add] | simp only [zon, pk_mul, nI_add]) hj150 (Nat.lt_of_lt_of_le hj150 (by decide)) ?_
    rw [hW.v]
    refine x_icmp_gt_t (pc := 151) 177 dX9_learns_151 (by decide) (nI_lt (by omega) (by omega)) ?_
    exact K _
  | succ m ih =>
    intro w n hw hn K
    have step : zcnt (fun v => decide (¬ α 112 v = 0)) w (m + 1) = (bif decide (¬ α 112 w = 0) then 1 else 0) + zcnt (fun v => decide (¬ α 112 v = 0)) (w + 1) m := rfl
    rw [step] at K
    refine x_iload_n (pc := 144) 3 dX9_learns_144 rfl rfl ?_
    refine x_aload_n (pc := 145) 0 dX9_learns_145 rfl rfl ?_
    refine x_getr (pc := 146) (101) dX9_learns_146 fX9_7 (zat_b rfl rfl) rfl ?_
    refine x_iconst (pc := 149) (nI 0) dX9_learns_149 (by decide) ?_
    have hj150 : 0 < 13326 := by omega
    refine x_iald_h (pc := 150) (0) dX9_learns_150 (zar_b rfl rfl rfl) rfl (by first | rfl | simp only [pk_mul, nI_add] | simp only [zon, pk_mul, nI_add]) hj150 (Nat.lt_of_lt_of_le hj150 (by decide)) ?_
    rw [hW.v]
    by_cases h : α 112 w = 0
    ·
      refine x_icmp_gt_f (pc := 151) 177 dX9_learns_151 (by decide) (nI_nlt (by omega) (by omega)) ?_
      refine x_iload_n (pc := 154) 2 dX9_learns_154 rfl rfl ?_
      refine x_aload_n (pc := 155) 0 dX9_learns_155 rfl rfl ?_
      refine x_getr (pc := 156) (112) dX9_learns_156 fX9_38 (zat_b rfl rfl) rfl ?_
      refine x_iload_n (pc := 159) 3 dX9_learns_159 rfl rfl ?_
      have hj160 : w < 31 := by omega
      refine x_zald_h (pc := 160) (w) dX9_learns_160 (zar_b rfl rfl rfl) rfl (by first | rfl | simp only [pk_mul, nI_add] | simp only [zon, pk_mul, nI_add]) hj160 (Nat.lt_of_lt_of_le hj160 (by decide)) ?_
      refine x_if_eq_t (pc := 161) 168 dX9_learns_161 (by decide) (h) ?_
      refine x_iconst (pc := 168) (nI 0) dX9_learns_168 (by decide) ?_
      refine x_iadd (pc := 169) dX9_learns_169 ?_
      refine x_istore_n (pc := 170) 2 dX9_learns_170 rfl (by decide) rfl ?_
      refine x_iinc (pc := 171) (nI (w + 1)) dX9_learns_171 rfl (zinc _) (by decide) rfl ?_
      refine x_goto (pc := 174) 144 dX9_learns_174 (by decide) ?_
      rw [nI_add]
      refine ih (w + 1) n (by omega) (by omega) ?_
      simp only [h, not_true_eq_false, decide_false, cond_false, Nat.zero_add] at K
      exact K
    ·
      refine x_icmp_gt_f (pc := 151) 177 dX9_learns_151 (by decide) (nI_nlt (by omega) (by omega)) ?_
      refine x_iload_n (pc := 154) 2 dX9_learns_154 rfl rfl ?_
      refine x_aload_n (pc := 155) 0 dX9_learns_155 rfl rfl ?_
      refine x_getr (pc := 156) (112) dX9_learns_156 fX9_38 (zat_b rfl rfl) rfl ?_
      refine x_iload_n (pc := 159) 3 dX9_learns_159 rfl rfl ?_
      have hj160 : w < 31 := by omega
      refine x_zald_h (pc := 160) (w) dX9_learns_160 (zar_b rfl rfl rfl) rfl (by first | rfl | simp only [pk_mul, nI_add] | simp only [zon, pk_mul, nI_add]) hj160 (Nat.lt_of_lt_of_le hj160 (by decide)) ?_
      refine x_if_eq_f (pc := 161) 168 dX9_learns_161 (by decide) (h) ?_
      refine x_iconst (pc := 164) (nI 1) dX9_learns_164 (by decide) ?_
      refine x_goto (pc := 165) 169 dX9_learns_165 (by decide) ?_
      refine x_iadd (pc := 169) dX9_learns_169 ?_
      refine x_istore_n (pc := 170) 2 dX9_learns_170 rfl (by decide) rfl ?_
      refine x_iinc (pc := 171) (nI (w + 1)) dX9_learns_171 rfl (zinc _) (by decide) rfl ?_
      refine x_goto (pc := 174) 144 dX9_learns_174 (by decide) ?_
      rw [nI_add]
      refine ih (w + 1) (n + 1) (by omega) (by omega) ?_
      simp only [h, not_false_eq_true, decide_true, cond_true, ← Nat.add_assoc] at K
      exact K
end M9
