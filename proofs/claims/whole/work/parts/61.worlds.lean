/-! the class: all worlds of 12 variables -/
def k_col (v w : Nat) : Int64 := if v ≤ 6 then zcol (v - 1) else if nI w >>> ((nI v - nI 6 - nI 1) &&& 31) &&& nI 1 = 0 then 0 else -1
def k_hdF (p m : Int32) (w v : Nat) (h : Int64) : Int64 := if p &&& kb (nI v) = 0 then (if m &&& kb (nI v) = 0 then h else h ||| (k_col v w ^^^ (-1))) else h ||| k_col v w
def k_held (p m : Int32) (w : Nat) : Int64 := zit (k_hdF p m w) 1 12 0
/-- the words up to w: those of a clause alone are left -/
def k_lvT (τ : (Nat → Nat → Int64) × (Nat → Nat)) (p m : Int32) (w : Nat) : (Nat → Nat → Int64) × (Nat → Nat) := (fun q i => if q = 82 ∧ i < w then τ.1 q i &&& k_held p m i else τ.1 q i, τ.2)
def k_use (V : Nat) : Nat := 2 ^ (V - 6)
def k_ful (V : Nat) : Int64 := if V < 6 then (1 : Int64) <<< ((nI 1 <<< (nI V &&& 31)).toInt64 &&& 63) - 1 else -1
def k_fill (τ : (Nat → Nat → Int64) × (Nat → Nat)) (v : Int64) (w : Nat) : (Nat → Nat → Int64) × (Nat → Nat) := (fun q i => if q = 82 ∧ i < w then v else τ.1 q i, τ.2)
def k_sfF (κ : Nat → Nat → Int32) (U i : Nat) (τ : (Nat → Nat → Int64) × (Nat → Nat)) : (Nat → Nat → Int64) × (Nat → Nat) := if κ 14 i = 0 then k_lvT τ (κ 12 i) (κ 13 i) U else τ
def k_sift (κ : Nat → Nat → Int32) (τ : (Nat → Nat → Int64) × (Nat → Nat)) : (Nat → Nat → Int64) × (Nat → Nat) := zit (k_sfF κ (k_use (kV κ))) 0 (kN κ) (k_fill τ (k_ful (kV κ)) (k_use (kV κ)))
def k_hmF (τ : (Nat → Nat → Int64) × (Nat → Nat)) (w : Nat) (n : Int32) : Int32 := n + klb (τ.1 82 w)
def k_many (τ : (Nat → Nat → Int64) × (Nat → Nat)) (U : Nat) : Int32 := zit (k_hmF τ) 0 U (nI 0)
def k_alB (τ : (Nat → Nat → Int64) × (Nat → Nat)) (v : Nat) (so : Bool) (w : Nat) : Bool := decide (¬ τ.1 82 w &&& (bif so then k_col v w ^^^ (-1) else k_col v w) = 0)
def k_alike (τ : (Nat → Nat → Int64) × (Nat → Nat)) (U v : Nat) (so : Bool) : Bool := (zfind (k_alB τ v so) 0 U).isNone
def k_aaF (τ : (Nat → Nat → Int64) × (Nat → Nat)) (U : Nat) (so : Bool) (v : Nat) (x : Int32) : Int32 := x ||| (bif k_alike τ U v so then kb (nI v) else nI 0)
def k_allA (τ : (Nat → Nat → Int64) × (Nat → Nat)) (U V : Nat) (so : Bool) : Int32 := zit (k_aaF τ U so) 1 V (nI 0)
section W1
variable {E : zEnv} {κ α : Nat → Nat → Int32} {τ : (Nat → Nat → Int64) × (Nat → Nat)}
theorem s_column (d : Nat) {v w : Nat} (h1 : 1 ≤ v) (h2 : v ≤ 12) : zTr E (d + 1) mX7_column [.int (nI v), .int (nI w)] (κ, α, τ) (some (.long (k_col v w))) (κ, α, τ) := by
  refine zM.tr (zM_of [some (.int (nI v)), some (.int (nI w))] (by decide) rfl (Nat.le_of_ble_eq_true rfl) ?_)
  unfold k_col
  by_cases h : v ≤ 6
  · rw [if_pos h]
    refine x_iload_n (pc := 0) 0 dX7_column_0 rfl rfl ?_
    refine x_bipush (pc := 1) (nI 6) dX7_column_1 (by decide) ?_
    refine x_icmp_gt_f (pc := 3) 14 dX7_column_3 (by decide) (nI_nlt (b := v) (a := 6) (by omega) (by omega)) ?_
    refine x_cols (pc := 6) rfl dX7_column_6 ?_
    refine x_iload_n (pc := 9) 0 dX7_column_9 rfl rfl ?_
    refine x_iconst (pc := 10) (nI 1) dX7_column_10 (by decide) ?_
    refine x_isub (pc := 11) dX7_column_11 ?_
    rw [pk_sub h1]
    refine x_cold (pc := 12) (v - 1) (by omega) dX7_column_12 ?_
    refine x_lret (pc := 13) dX7_column_13 rfl ?_
    exact ⟨rfl, rfl⟩
  · rw [if_neg h]
    by_cases g : nI w >>> ((nI v - nI 6 - nI 1) &&& 31) &&& nI 1 = 0
    · rw [if_pos g]
      refine x_iload_n (pc := 0) 0 dX7_column_0 rfl rfl ?_
      refine x_bipush (pc := 1) (nI 6) dX7_column_1 (by decide) ?_
      refine x_icmp_gt_t (pc := 3) 14 dX7_column_3 (by decide) (nI_lt (a := 6) (by omega) (by omega)) ?_
      refine x_iload_n (pc := 14) 1 dX7_column_14 rfl rfl ?_
      refine x_iload_n (pc := 15) 0 dX7_column_15 rfl rfl ?_
      refine x_bipush (pc := 16) (nI 6) dX7_column_16 (by decide) ?_
      refine x_isub (pc := 18) dX7_column_18 ?_
      refine x_iconst (pc := 19) (nI 1) dX7_column_19 (by decide) ?_
      refine x_isub (pc := 20) dX7_column_20 ?_
      refine x_ishr (pc := 21) dX7_column_21 ?_
      refine x_iconst (pc := 22) (nI 1) dX7_column_22 (by decide) ?_
      refine x_iand (pc := 23) dX7_column_23 ?_
      refine x_if_eq_t (pc := 24) 33 dX7_column_24 (by decide) (g) ?_
      refine x_lconst (pc := 33) 0 dX7_column_33 (by decide) ?_
      refine x_lret (pc := 34) dX7_column_34 rfl ?_
      exact ⟨rfl, rfl⟩
    · rw [if_neg g]
      refine x_iload_n (pc := 0) 0 dX7_column_0 rfl rfl ?_
      refine x_bipush (pc := 1) (nI 6) dX7_column_1 (by decide) ?_
      refine x_icmp_gt_t (pc := 3) 14 dX7_column_3 (by decide) (nI_lt (a := 6) (by omega) (by omega)) ?_
      refine x_iload_n (pc := 14) 1 dX7_column_14 rfl rfl ?_
      refine x_iload_n (pc := 15) 0 dX7_column_15 rfl rfl ?_
      refine x_bipush (pc := 16) (nI 6) dX7_column_16 (by decide) ?_
      refine x_isub (pc := 18) dX7_column_18 ?_
      refine x_iconst (pc := 19) (nI 1) dX7_column_19 (by decide) ?_
      refine x_isub (pc := 20) dX7_column_20 ?_
      refine x_ishr (pc := 21) dX7_column_21 ?_
      refine x_iconst (pc := 22) (nI 1) dX7_column_22 (by decide) ?_
      refine x_iand (pc := 23) dX7_column_23 ?_
      refine x_if_eq_f (pc := 24) 33 dX7_column_24 (by decide) (g) ?_
      refine x_ldc2 (pc := 27) (-1) dX7_column_27 (zt_of 1008 (by decide +kernel) (by decide +kernel)) ?_
      refine x_goto (pc := 30) 34 dX7_column_30 (by decide) ?_
      refine x_lret (pc := 34) dX7_column_34 rfl ?_
      exact ⟨rfl, rfl⟩
theorem l_held (d : Nat) {w : Nat} {p m : Int32} (P : Option Value → zMem → Prop) : ∀ n v h, v + n = 13 → 1 ≤ v → (∀ x, zX E (d + 2) mX7_leaveThoseOf 78 [some (.ref 7), some (.int p), some (.int m), some (.int (nI w)), some (.long (zit (k_hdF p m w) v n h)), none, x] [] (κ, α, τ) P) → zX E (d + 2) mX7_leaveThoseOf 16 [some (.ref 7), some (.int p), some (.int m), some (.int (nI w)), some (.long h), none, some (.int (nI v))] [] (κ, α, τ) P := by
  intro n
  induction n with
  | zero =>
    intro v h hv h1 k
    refine x_iload (pc := 16) dX7_leaveThoseOf_16 rfl ?_
    refine x_bipush (pc := 18) (nI 12) dX7_leaveThoseOf_18 (by decide) ?_
    refine x_icmp_gt_t (pc := 20) 78 dX7_leaveThoseOf_20 (by decide) (nI_lt (a := 12) (by omega) (by omega)) ?_
    exact k _
  | succ n ih =>
    intro v h hv h1 k
    have step : zit (k_hdF p m w) v (n + 1) h = zit (k_hdF p m w) (v + 1) n (k_hdF p m w v h) := rfl
    rw [step] at k
    by_cases g1 : p &&& kb (nI v) = 0
    · by_cases g2 : m &&& kb (nI v) = 0
      · rw [show k_hdF p m w v h = h by unfold k_hdF; rw [if_pos g1, if_pos g2]] at k
        refine x_iload (pc := 16) dX7_leaveThoseOf_16 rfl ?_
        refine x_bipush (pc := 18) (nI 12) dX7_leaveThoseOf_18 (by decide) ?_
        refine x_icmp_gt_f (pc := 20) 78 dX7_leaveThoseOf_20 (by decide) (nI_nlt (b := v) (a := 12) (by omega) (by omega)) ?_
        refine x_iload_n (pc := 23) 1 dX7_leaveThoseOf_23 rfl rfl ?_
        refine x_iload (pc := 24) dX7_leaveThoseOf_24 rfl ?_
        refine x_callN1i (pc := 26) dX7_leaveThoseOf_26 lX7_69 (s_bitOf (d + 0) _) (Nat.le_of_ble_eq_true rfl) (Or.inl zgr) ?_
        refine x_iand (pc := 29) dX7_leaveThoseOf_29 ?_
        refine x_if_eq_t (pc := 30) 47 dX7_leaveThoseOf_30 (by decide) (g1) ?_
        refine x_iload_n (pc := 47) 2 dX7_leaveThoseOf_47 rfl rfl ?_
        refine x_iload (pc := 48) dX7_leaveThoseOf_48 rfl ?_
        refine x_callN1i (pc := 50) dX7_leaveThoseOf_50 lX7_69 (s_bitOf (d + 0) _) (Nat.le_of_ble_eq_true rfl) (Or.inl zgr) ?_
        refine x_iand (pc := 53) dX7_leaveThoseOf_53 ?_
        refine x_if_eq_t (pc := 54) 72 dX7_leaveThoseOf_54 (by decide) (g2) ?_
        refine x_iinc (pc := 72) (nI (v + 1)) dX7_leaveThoseOf_72 rfl (zinc _) (by decide) rfl ?_
        refine x_goto (pc := 75) 16 dX7_leaveThoseOf_75 (by decide) ?_
        exact ih (v + 1) h (by omega) (by omega) k
      · rw [show k_hdF p m w v h = h ||| (k_col v w ^^^ (-1)) by unfold k_hdF; rw [if_pos g1, if_neg g2]] at k
        refine x_iload (pc := 16) dX7_leaveThoseOf_16 rfl ?_
        refine x_bipush (pc := 18) (nI 12) dX7_leaveThoseOf_18 (by decide) ?_
        refine x_icmp_gt_f (pc := 20) 78 dX7_leaveThoseOf_20 (by decide) (nI_nlt (b := v) (a := 12) (by omega) (by omega)) ?_
        refine x_iload_n (pc := 23) 1 dX7_leaveThoseOf_23 rfl rfl ?_
        refine x_iload (pc := 24) dX7_leaveThoseOf_24 rfl ?_
        refine x_callN1i (pc := 26) dX7_leaveThoseOf_26 lX7_69 (s_bitOf (d + 0) _) (Nat.le_of_ble_eq_true rfl) (Or.inl zgr) ?_
        refine x_iand (pc := 29) dX7_leaveThoseOf_29 ?_
        refine x_if_eq_t (pc := 30) 47 dX7_leaveThoseOf_30 (by decide) (g1) ?_
        refine x_iload_n (pc := 47) 2 dX7_leaveThoseOf_47 rfl rfl ?_
        refine x_iload (pc := 48) dX7_leaveThoseOf_48 rfl ?_
        refine x_callN1i (pc := 50) dX7_leaveThoseOf_50 lX7_69 (s_bitOf (d + 0) _) (Nat.le_of_ble_eq_true rfl) (Or.inl zgr) ?_
        refine x_iand (pc := 53) dX7_leaveThoseOf_53 ?_
        refine x_if_eq_f (pc := 54) 72 dX7_leaveThoseOf_54 (by decide) (g2) ?_
        refine x_lload (pc := 57) dX7_leaveThoseOf_57 rfl ?_
        refine x_iload (pc := 59) dX7_leaveThoseOf_59 rfl ?_
        refine x_iload_n (pc := 61) 3 dX7_leaveThoseOf_61 rfl rfl ?_
        refine x_callS2i (pc := 62) dX7_leaveThoseOf_62 lX7_73 (s_column (d + 0) h1 (by omega)) (Nat.le_of_ble_eq_true rfl) (Or.inl zgr) ?_
        refine x_ldc2 (pc := 65) (-1) dX7_leaveThoseOf_65 (zt_of 1008 (by decide +kernel) (by decide +kernel)) ?_
        refine x_lxor (pc := 68) dX7_leaveThoseOf_68 ?_
        refine x_lor (pc := 69) dX7_leaveThoseOf_69 ?_
        refine x_lstore (pc := 70) dX7_leaveThoseOf_70 (by decide) rfl ?_
        refine x_iinc (pc := 72) (nI (v + 1)) dX7_leaveThoseOf_72 rfl (zinc _) (by decide) rfl ?_
        refine x_goto (pc := 75) 16 dX7_leaveThoseOf_75 (by decide) ?_
        exact ih (v + 1) _ (by omega) (by omega) k
    · rw [show k_hdF p m w v h = h ||| k_col v w by unfold k_hdF; rw [if_neg g1]] at k
      refine x_iload (pc := 16) dX7_leaveThoseOf_16 rfl ?_
      refine x_bipush (pc := 18) (nI 12) dX7_leaveThoseOf_18 (by decide) ?_
      refine x_icmp_gt_f (pc := 20) 78 dX7_leaveThoseOf_20 (by decide) (nI_nlt (b := v) (a := 12) (by omega) (by omega)) ?_
      refine x_iload_n (pc := 23) 1 dX7_leaveThoseOf_23 rfl rfl ?_
      refine x_iload (pc := 24) dX7_leaveThoseOf_24 rfl ?_
      refine x_callN1i (pc := 26) dX7_leaveThoseOf_26 lX7_69 (s_bitOf (d + 0) _) (Nat.le_of_ble_eq_true rfl) (Or.inl zgr) ?_
      refine x_iand (pc := 29) dX7_leaveThoseOf_29 ?_
      refine x_if_eq_f (pc := 30) 47 dX7_leaveThoseOf_30 (by decide) (g1) ?_
      refine x_lload (pc := 33) dX7_leaveThoseOf_33 rfl ?_
      refine x_iload (pc := 35) dX7_leaveThoseOf_35 rfl ?_
      refine x_iload_n (pc := 37) 3 dX7_leaveThoseOf_37 rfl rfl ?_
      refine x_callS2i (pc := 38) dX7_leaveThoseOf_38 lX7_73 (s_column (d + 0) h1 (by omega)) (Nat.le_of_ble_eq_true rfl) (Or.inl zgr) ?_
      refine x_lor (pc := 41) dX7_leaveThoseOf_41 ?_
      refine x_lstore (pc := 42) dX7_leaveThoseOf_42 (by decide) rfl ?_
      refine x_goto (pc := 44) 72 dX7_leaveThoseOf_44 (by decide) ?_
      refine x_iinc (pc := 72) (nI (v + 1)) dX7_leaveThoseOf_72 rfl (zinc _) (by decide) rfl ?_
      refine x_goto (pc := 75) 16 dX7_leaveThoseOf_75 (by decide) ?_
      exact ih (v + 1) _ (by omega) (by omega) k
theorem k_lvT_s {p m : Int32} {w : Nat} : zwl (κ, α, k_lvT τ p m w) 82 w (zrl (κ, α, k_lvT τ p m w) 82 w &&& k_held p m w) = (κ, α, k_lvT τ p m (w + 1)) := by
  show (κ, α, (_, _)) = (κ, α, (_, _))
  congr 3
  funext q j
  show (if q = 82 ∧ j = w then (if 82 = 82 ∧ w < w then τ.1 82 w &&& k_held p m w else τ.1 82 w) &&& k_held p m w else (if q = 82 ∧ j < w then τ.1 q j &&& k_held p m j else τ.1 q j)) = if q = 82 ∧ j < w + 1 then τ.1 q j &&& k_held p m j else τ.1 q j
  by_cases h1 : q = 82
  · subst h1
    by_cases h2 : j = w
    · subst h2
      rw [if_pos ⟨rfl, rfl⟩, if_neg (fun q => absurd q.2 (Nat.lt_irrefl _)), if_pos ⟨rfl, Nat.lt_succ_self _⟩]
    · rw [if_neg (fun q => h2 q.2)]
      by_cases h3 : j < w
      · rw [if_pos ⟨rfl, h3⟩, if_pos ⟨rfl, by omega⟩]
      · rw [if_neg (fun q => h3 q.2), if_neg (fun q => by omega)]
  · rw [if_neg (fun q => h1 q.1), if_neg (fun q => h1 q.1), if_neg (fun q => h1 q.1)]
theorem l_leave3 (d : Nat) {p m : Int32} {U : Nat} (hU : κ 7 1 = nI U) (hU64 : U ≤ 64) : ∀ n w, w + n = U → ∀ x4 x6, zX E (d + 2) mX7_leaveThoseOf 2 [some (.ref 7), some (.int p), some (.int m), some (.int (nI w)), x4, none, x6] [] (κ, α, k_lvT τ p m w) (fun r ν => r = none ∧ ν = (κ, α, k_lvT τ p m U)) := by
  intro n
  induction n with
  | zero =>
    intro w hw x4 x6
    have : w = U := by omega
    subst this
    refine x_iload_n (pc := 2) 3 dX7_leaveThoseOf_2 rfl rfl ?_
    refine x_aload_n (pc := 3) 0 dX7_leaveThoseOf_3 rfl rfl ?_
    refine x_geti_l (pc := 4) dX7_leaveThoseOf_4 fX7_58 (zat_b rfl rfl) rfl rfl ?_
    rw [hU]
    refine x_icmp_ge_t (pc := 7) 95 dX7_leaveThoseOf_7 (by decide) (nI_le (by omega) (by omega)) ?_
    refine x_vret (pc := 95) dX7_leaveThoseOf_95 rfl ?_
    exact ⟨rfl, rfl⟩
  | succ n ih =>
    intro w hw x4 x6
    refine x_iload_n (pc := 2) 3 dX7_leaveThoseOf_2 rfl rfl ?_
    refine x_aload_n (pc := 3) 0 dX7_leaveThoseOf_3 rfl rfl ?_
    refine x_geti_l (pc := 4) dX7_leaveThoseOf_4 fX7_58 (zat_b rfl rfl) rfl rfl ?_
    rw [hU]
    refine x_icmp_ge_f (pc := 7) 95 dX7_leaveThoseOf_7 (by decide) (nI_ge (by omega) (by omega)) ?_
    refine x_lconst (pc := 10) 0 dX7_leaveThoseOf_10 (by decide) ?_
    refine x_lstore (pc := 11) dX7_leaveThoseOf_11 (by decide) rfl ?_
    refine x_iconst (pc := 13) (nI 1) dX7_leaveThoseOf_13 (by decide) ?_
    refine x_istore (pc := 14) dX7_leaveThoseOf_14 (by decide) rfl ?_
    refine l_held d _ 12 1 0 (by omega) (by omega) (fun x => ?_)
    show zX E (d + 2) mX7_leaveThoseOf 78 [some (.ref 7), some (.int p), some (.int m), some (.int (nI w)), some (.long (k_held p m w)), none, x] [] (κ, α, k_lvT τ p m w) _
    refine x_aload_n (pc := 78) 0 dX7_leaveThoseOf_78 rfl rfl ?_
    refine x_getr (pc := 79) (82) dX7_leaveThoseOf_79 fX7_11 (zat_b rfl rfl) rfl ?_
    refine x_iload_n (pc := 82) 3 dX7_leaveThoseOf_82 rfl rfl ?_
    refine x_dup2 (pc := 83) dX7_leaveThoseOf_83 rfl rfl ?_
    have hj84 : w < 64 := by omega
    refine x_lald (pc := 84) (w) dX7_leaveThoseOf_84 (zar_b rfl rfl rfl) (by first | rfl | simp only [pk_mul, nI_add] | simp only [zon, pk_mul, nI_add]) hj84 (Nat.lt_of_lt_of_le hj84 (by decide)) ?_
    refine x_lload (pc := 85) dX7_leaveThoseOf_85 rfl ?_
    refine x_land (pc := 87) dX7_leaveThoseOf_87 ?_
    have hj88 : w < 64 := by omega
    refine x_last (pc := 88) (w) dX7_leaveThoseOf_88 (zar_b rfl rfl rfl) (by first | rfl | simp only [pk_mul, nI_add] | simp only [zon, pk_mul, nI_add]) hj88 (Nat.lt_of_lt_of_le hj88 (by decide)) ?_
    rw [k_lvT_s]
    refine x_iinc (pc := 89) (nI (w + 1)) dX7_leaveThoseOf_89 rfl (zinc _) (by decide) rfl ?_
    refine x_goto (pc := 92) 2 dX7_leaveThoseOf_92 (by decide) ?_
    exact ih (w + 1) (by omega) _ _
theorem k_lvT_0 {p m : Int32} : k_lvT τ p m 0 = τ := by
  unfold k_lvT
  have : (fun q i => if q = 82 ∧ i < 0 then τ.1 q i &&& k_held p m i else τ.1 q i) = τ.1 := by
    funext q i
    rw [if_neg (fun z => absurd z.2 (Nat.not_lt_zero _))]
  rw [this]
theorem s_leaveThoseOf (d : Nat) (p m : Int32) {U : Nat} (hU : κ 7 1 = nI U) (hU64 : U ≤ 64) : zTr E (d + 2) mX7_leaveThoseOf [.ref 7, .int p, .int m] (κ, α, τ) none (κ, α, k_lvT τ p m U) := by
  refine zM.tr (zM_of [some (.ref 7), some (.int p), some (.int m), none, none, none, none] (by decide) rfl (Nat.le_of_ble_eq_true rfl) ?_)
  refine x_iconst (pc := 0) (nI 0) dX7_leaveThoseOf_0 (by decide) ?_
  refine x_istore_n (pc := 1) 3 dX7_leaveThoseOf_1 rfl (by decide) rfl ?_
  have := l_leave3 (E := E) (α := α) (τ := τ) (p := p) (m := m) d hU hU64 U 0 (by omega) none none
  rw [k_lvT_0] at this
  exact this
theorem j_range (d : Nat) {n : Nat} (hn : n ≤ 64) : zTr E (d + 1) mJ7_rangeCheck_23922 [.int (nI 64), .int (nI 0), .int (nI n)] (κ, α, τ) none (κ, α, τ) := by
  refine zM.tr (zM_of [some (.int (nI 64)), some (.int (nI 0)), some (.int (nI n))] (by decide) rfl (Nat.le_of_ble_eq_true rfl) ?_)
  refine x_iload_n (pc := 0) 1 dJ7_rangeCheck_23922_0 rfl rfl ?_
  refine x_iload_n (pc := 1) 2 dJ7_rangeCheck_23922_1 rfl rfl ?_
  refine x_icmp_le_t (pc := 2) 46 dJ7_rangeCheck_23922_2 (by decide) (nI_le (by omega) (by omega)) ?_
  refine x_iload_n (pc := 46) 1 dJ7_rangeCheck_23922_46 rfl rfl ?_
  refine x_if_ge_t (pc := 47) 59 dJ7_rangeCheck_23922_47 (by decide) (by decide) ?_
  refine x_iload_n (pc := 59) 2 dJ7_rangeCheck_23922_59 rfl rfl ?_
  refine x_iload_n (pc := 60) 0 dJ7_rangeCheck_23922_60 rfl rfl ?_
  refine x_icmp_le_t (pc := 61) 73 dJ7_rangeCheck_23922_61 (by decide) (nI_le (by omega) (by omega)) ?_
  refine x_vret (pc := 73) dJ7_rangeCheck_23922_73 rfl ?_
  exact ⟨rfl, rfl⟩
theorem k_fill_s {v : Int64} {w : Nat} : zwl (κ, α, k_fill τ v w) 82 w v = (κ, α, k_fill τ v (w + 1)) := by
  show (κ, α, (_, _)) = (κ, α, (_, _))
  congr 3
  funext q j
  show (if q = 82 ∧ j = w then v else (if q = 82 ∧ j < w then v else τ.1 q j)) = if q = 82 ∧ j < w + 1 then v else τ.1 q j
  by_cases h1 : q = 82
  · by_cases h2 : j = w
    · rw [if_pos ⟨h1, h2⟩, if_pos ⟨h1, by omega⟩]
    · rw [if_neg (fun q => h2 q.2)]
      by_cases h3 : j < w
      · rw [if_pos ⟨h1, h3⟩, if_pos ⟨h1, by omega⟩]
      · rw [if_neg (fun q => h3 q.2), if_neg (fun q => by omega)]
  · rw [if_neg (fun q => h1 q.1), if_neg (fun q => h1 q.1), if_neg (fun q => h1 q.1)]
theorem l_fill (d : Nat) {v : Int64} {n : Nat} (hn : n ≤ 64) : ∀ m i, i + m = n → zX E (d + 2) mJ7_fill_bad5a 10 [some (.ref 82), some (.int (nI 0)), some (.int (nI n)), some (.long v), none, some (.int (nI i))] [] (κ, α, k_fill τ v i) (fun r ν => r = none ∧ ν = (κ, α, k_fill τ v n)) := by
  intro m
  induction m with
  | zero =>
    intro i hi
    have : i = n := by omega
    subst this
    refine x_iload (pc := 10) dJ7_fill_bad5a_10 rfl ?_
    refine x_iload_n (pc := 12) 2 dJ7_fill_bad5a_12 rfl rfl ?_
    refine x_icmp_ge_t (pc := 13) 27 dJ7_fill_bad5a_13 (by decide) (nI_le (by omega) (by omega)) ?_
    refine x_vret (pc := 27) dJ7_fill_bad5a_27 rfl ?_
    exact ⟨rfl, rfl⟩
  | succ m ih =>
    intro i hi
    refine x_iload (pc := 10) dJ7_fill_bad5a_10 rfl ?_
    refine x_iload_n (pc := 12) 2 dJ7_fill_bad5a_12 rfl rfl ?_
    refine x_icmp_ge_f (pc := 13) 27 dJ7_fill_bad5a_13 (by decide) (nI_ge (by omega) (by omega)) ?_
    refine x_aload_n (pc := 16) 0 dJ7_fill_bad5a_16 rfl rfl ?_
    refine x_iload (pc := 17) dJ7_fill_bad5a_17 rfl ?_
    refine x_lload_n (pc := 19) 3 dJ7_fill_bad5a_19 rfl rfl ?_
    have hj20 : i < 64 := by omega
    refine x_last (pc := 20) (i) dJ7_fill_bad5a_20 (zar_b rfl rfl rfl) (by first | rfl | simp only [pk_mul, nI_add] | simp only [zon, pk_mul, nI_add]) hj20 (Nat.lt_of_lt_of_le hj20 (by decide)) ?_
    rw [k_fill_s]
    refine x_iinc (pc := 21) (nI (i + 1)) dJ7_fill_bad5a_21 rfl (zinc _) (by decide) rfl ?_
    refine x_goto (pc := 24) 10 dJ7_fill_bad5a_24 (by decide) ?_
    exact ih (i + 1) (by omega)
theorem j_fill (d : Nat) {v : Int64} {n : Nat} (hn : n ≤ 64) : zTr E (d + 2) mJ7_fill_bad5a [.ref 82, .int (nI 0), .int (nI n), .long v] (κ, α, τ) none (κ, α, k_fill τ v n) := by
  refine zM.tr (zM_of [some (.ref 82), some (.int (nI 0)), some (.int (nI n)), some (.long v), none, none] (by decide) rfl (Nat.le_of_ble_eq_true rfl) ?_)
  refine x_aload_n (pc := 0) 0 dJ7_fill_bad5a_0 rfl rfl ?_
  refine x_alen (pc := 1) dJ7_fill_bad5a_1 (zar_b (p := 82) (a := 4) rfl rfl rfl) (by decide) ?_
  show zX E (d + 2) mJ7_fill_bad5a 2 [some (.ref 82), some (.int (nI 0)), some (.int (nI n)), some (.long v), none, none] [.int (nI 64)] (κ, α, τ) _
  refine x_iload_n (pc := 2) 1 dJ7_fill_bad5a_2 rfl rfl ?_
  refine x_iload_n (pc := 3) 2 dJ7_fill_bad5a_3 rfl rfl ?_
  refine x_callS3v (pc := 4) dJ7_fill_bad5a_4 lJ7_13 (j_range d hn) (Nat.le_of_ble_eq_true rfl) (Or.inl zgr) ?_
  refine x_iload_n (pc := 7) 1 dJ7_fill_bad5a_7 rfl rfl ?_
  refine x_istore (pc := 8) dJ7_fill_bad5a_8 (by decide) rfl ?_
  have h := l_fill (E := E) (κ := κ) (α := α) (τ := τ) d (v := v) hn n 0 (by omega)
  have e : k_fill τ v 0 = τ := by
    unfold k_fill
    have : (fun q i => if q = 82 ∧ i < 0 then v else τ.1 q i) = τ.1 := by
      funext q i
      rw [if_neg (fun z => absurd z.2 (Nat.not_lt_zero _))]
    rw [this]
  rw [e] at h
  exact h
theorem k_use_tab : ∀ V < 13, nI 1 <<< ((k_min (k_max (nI V) (nI 6)) (nI 12) - nI 6) &&& 31) = nI (k_use V) ∧ k_use V ≤ 64 := by decide +kernel
theorem s_startWithAll (d : Nat) {V : Nat} (hV : V ≤ 12) : zTr E (d + 3) mX7_startWithAll [.ref 7, .int (nI V)] (κ, α, τ) none (zup κ 7 1 (nI (k_use V)), α, k_fill τ (k_ful V) (k_use V)) := by
  obtain ⟨t1, t2⟩ := k_use_tab V (by omega)
  refine zM.tr (zM_of [some (.ref 7), some (.int (nI V)), none, none, none] (by decide) rfl (Nat.le_of_ble_eq_true rfl) ?_)
  refine x_iload_n (pc := 0) 1 dX7_startWithAll_0 rfl rfl ?_
  refine x_bipush (pc := 1) (nI 6) dX7_startWithAll_1 (by decide) ?_
  refine x_mmax (pc := 3) dX7_startWithAll_3 lX7_49 (Nat.le_of_ble_eq_true rfl) ?_
  refine x_bipush (pc := 6) (nI 12) dX7_startWithAll_6 (by decide) ?_
  refine x_mmin (pc := 8) dX7_startWithAll_8 lX7_55 (Nat.le_of_ble_eq_true rfl) ?_
  refine x_istore_n (pc := 11) 2 dX7_startWithAll_11 rfl (by decide) rfl ?_
  refine x_aload_n (pc := 12) 0 dX7_startWithAll_12 rfl rfl ?_
  refine x_iconst (pc := 13) (nI 1) dX7_startWithAll_13 (by decide) ?_
  refine x_iload_n (pc := 14) 2 dX7_startWithAll_14 rfl rfl ?_
  refine x_bipush (pc := 15) (nI 6) dX7_startWithAll_15 (by decide) ?_
  refine x_isub (pc := 17) dX7_startWithAll_17 ?_
  refine x_ishl (pc := 18) dX7_startWithAll_18 ?_
  rw [t1]
  have fin : zX E (d + 3) mX7_startWithAll 41 [some (.ref 7), some (.int (nI V)), some (.int (k_min (k_max (nI V) (nI 6)) (nI 12))), none, none] [.long (k_ful V)] (zup κ 7 1 (nI (k_use V)), α, τ) (fun r ν => r = none ∧ ν = (zup κ 7 1 (nI (k_use V)), α, k_fill τ (k_ful V) (k_use V))) := by
    refine x_lstore_n (pc := 41) 3 dX7_startWithAll_41 rfl (by decide) rfl ?_
    refine x_aload_n (pc := 42) 0 dX7_startWithAll_42 rfl rfl ?_
    refine x_getr (pc := 43) (82) dX7_startWithAll_43 fX7_11 (zat_b rfl rfl) rfl ?_
    refine x_iconst (pc := 46) (nI 0) dX7_startWithAll_46 (by decide) ?_
    refine x_aload_n (pc := 47) 0 dX7_startWithAll_47 rfl rfl ?_
    refine x_geti_l (pc := 48) dX7_startWithAll_48 fX7_58 (zat_b rfl rfl) rfl rfl ?_
    rw [zup_same]
    refine x_lload_n (pc := 51) 3 dX7_startWithAll_51 rfl rfl ?_
    refine x_callS4v (pc := 52) dX7_startWithAll_52 lX7_63 (j_fill d t2) (Nat.le_of_ble_eq_true rfl) (Or.inl rfl) ?_
    refine x_vret (pc := 55) dX7_startWithAll_55 rfl ?_
    exact ⟨rfl, rfl⟩
  unfold k_ful at fin ⊢
  by_cases h : V < 6
  · rw [if_pos h] at fin ⊢
    refine x_puti_l (pc := 19) dX7_startWithAll_19 pX7_58 (zat_b rfl rfl) rfl rfl ?_
    refine x_iload_n (pc := 22) 1 dX7_startWithAll_22 rfl rfl ?_
    refine x_bipush (pc := 23) (nI 6) dX7_startWithAll_23 (by decide) ?_
    refine x_icmp_lt_t (pc := 25) 34 dX7_startWithAll_25 (by decide) (nI_lt h (by omega)) ?_
    refine x_lconst (pc := 34) 1 dX7_startWithAll_34 (by decide) ?_
    refine x_iconst (pc := 35) (nI 1) dX7_startWithAll_35 (by decide) ?_
    refine x_iload_n (pc := 36) 1 dX7_startWithAll_36 rfl rfl ?_
    refine x_ishl (pc := 37) dX7_startWithAll_37 ?_
    refine x_lshl (pc := 38) dX7_startWithAll_38 ?_
    refine x_lconst (pc := 39) 1 dX7_startWithAll_39 (by decide) ?_
    refine x_lsub (pc := 40) dX7_startWithAll_40 ?_
    exact fin
  · rw [if_neg h] at fin ⊢
    refine x_puti_l (pc := 19) dX7_startWithAll_19 pX7_58 (zat_b rfl rfl) rfl rfl ?_
    refine x_iload_n (pc := 22) 1 dX7_startWithAll_22 rfl rfl ?_
    refine x_bipush (pc := 23) (nI 6) dX7_startWithAll_23 (by decide) ?_
    refine x_icmp_lt_f (pc := 25) 34 dX7_startWithAll_25 (by decide) (nI_nlt (by omega) (by omega)) ?_
    refine x_ldc2 (pc := 28) (-1) dX7_startWithAll_28 (zt_of 1008 (by decide +kernel) (by decide +kernel)) ?_
    refine x_goto (pc := 31) 41 dX7_startWithAll_31 (by decide) ?_
    exact fin
theorem k_lvT_2 {p m : Int32} {U : Nat} : (k_lvT τ p m U).2 = τ.2 := rfl
theorem k_sfF_2 {U i : Nat} : (k_sfF κ U i τ).2 = τ.2 := by unfold k_sfF; split <;> rfl
theorem k_sfL_2 {U : Nat} : ∀ m i (τ : (Nat → Nat → Int64) × (Nat → Nat)), (zit (k_sfF κ U) i m τ).2 = τ.2
  | 0, i, τ => rfl
  | m + 1, i, τ => by
    show (zit (k_sfF κ U) (i + 1) m (k_sfF κ U i τ)).2 = τ.2
    rw [k_sfL_2 m, k_sfF_2]
theorem k_sift_2 : (k_sift κ τ).2 = τ.2 := by unfold k_sift; rw [k_sfL_2]; rfl
theorem l_sift (d : Nat) {U : Nat} (hU : κ 7 1 = nI U) (hU64 : U ≤ 64) (hN : κ 11 5 = nI (kN κ)) (hN4 : kN κ ≤ 400) : ∀ m i (τ : (Nat → Nat → Int64) × (Nat → Nat)), i + m = kN κ → zX E (d + 3) mX7_sift 15 [some (.ref 7), some (.ref 10), some (.ref 11), some (.int (nI i))] [] (κ, α, τ) (fun r ν => r = none ∧ ν = (κ, α, zit (k_sfF κ U) i m τ)) := by
  intro m
  induction m with
  | zero =>
    intro i τ hi
    refine x_iload_n (pc := 15) 3 dX7_sift_15 rfl rfl ?_
    refine x_aload_n (pc := 16) 2 dX7_sift_16 rfl rfl ?_
    refine x_geti_l (pc := 17) dX7_sift_17 fX7_29 (zat_b rfl rfl) rfl rfl ?_
    rw [hN]
    refine x_icmp_ge_t (pc := 20) 53 dX7_sift_20 (by decide) (nI_le (by omega) (by omega)) ?_
    refine x_vret (pc := 53) dX7_sift_53 rfl ?_
    exact ⟨rfl, rfl⟩
  | succ m ih =>
    intro i τ hi
    have step : zit (k_sfF κ U) i (m + 1) τ = zit (k_sfF κ U) (i + 1) m (k_sfF κ U i τ) := rfl
    rw [step]
    refine x_iload_n (pc := 15) 3 dX7_sift_15 rfl rfl ?_
    refine x_aload_n (pc := 16) 2 dX7_sift_16 rfl rfl ?_
    refine x_geti_l (pc := 17) dX7_sift_17 fX7_29 (zat_b rfl rfl) rfl rfl ?_
    rw [hN]
    refine x_icmp_ge_f (pc := 20) 53 dX7_sift_20 (by decide) (nI_ge (by omega) (by omega)) ?_
    refine x_aload_n (pc := 23) 2 dX7_sift_23 rfl rfl ?_
    refine x_iload_n (pc := 24) 3 dX7_sift_24 rfl rfl ?_
    refine x_callV1i (pc := 25) dX7_sift_25 lX7_34 (zat_b rfl rfl) rfl (s_isLearnt (d + 1) (by omega)) (Nat.le_of_ble_eq_true rfl) (Or.inl zgr) ?_
    by_cases g : κ 14 i = 0
    · rw [decide_eq_false (p := ¬ κ 14 i = 0) (by simpa using g), show k_sfF κ U i τ = k_lvT τ (κ 12 i) (κ 13 i) U by unfold k_sfF; rw [if_pos g]]
      refine x_if_ne_f (pc := 28) 47 dX7_sift_28 (by decide) (rfl) ?_
      refine x_aload_n (pc := 31) 0 dX7_sift_31 rfl rfl ?_
      refine x_aload_n (pc := 32) 2 dX7_sift_32 rfl rfl ?_
      refine x_getr (pc := 33) (12) dX7_sift_33 fX7_38 (zat_b rfl rfl) rfl ?_
      refine x_iload_n (pc := 36) 3 dX7_sift_36 rfl rfl ?_
      have hj37 : i < 400 := by omega
      refine x_iald_l (pc := 37) (i) dX7_sift_37 (zar_b rfl rfl rfl) rfl (by first | rfl | simp only [pk_mul, nI_add] | simp only [zon, pk_mul, nI_add]) hj37 (Nat.lt_of_lt_of_le hj37 (by decide)) ?_
      refine x_aload_n (pc := 38) 2 dX7_sift_38 rfl rfl ?_
      refine x_getr (pc := 39) (13) dX7_sift_39 fX7_42 (zat_b rfl rfl) rfl ?_
      refine x_iload_n (pc := 42) 3 dX7_sift_42 rfl rfl ?_
      have hj43 : i < 400 := by omega
      refine x_iald_l (pc := 43) (i) dX7_sift_43 (zar_b rfl rfl rfl) rfl (by first | rfl | simp only [pk_mul, nI_add] | simp only [zon, pk_mul, nI_add]) hj43 (Nat.lt_of_lt_of_le hj43 (by decide)) ?_
      refine x_callV2v (pc := 44) dX7_sift_44 lX7_45 (zat_b rfl rfl) rfl (s_leaveThoseOf d _ _ hU hU64) (Nat.le_of_ble_eq_true rfl) (Or.inl rfl) ?_
      refine x_iinc (pc := 47) (nI (i + 1)) dX7_sift_47 rfl (zinc _) (by decide) rfl ?_
      refine x_goto (pc := 50) 15 dX7_sift_50 (by decide) ?_
      exact ih (i + 1) _ (by omega)
    · rw [decide_eq_true (p := ¬ κ 14 i = 0) g, show k_sfF κ U i τ = τ by unfold k_sfF; rw [if_neg g]]
      refine x_if_ne_t (pc := 28) 47 dX7_sift_28 (by decide) (by decide) ?_
      refine x_iinc (pc := 47) (nI (i + 1)) dX7_sift_47 rfl (zinc _) (by decide) rfl ?_
      refine x_goto (pc := 50) 15 dX7_sift_50 (by decide) ?_
      exact ih (i + 1) _ (by omega)
theorem s_sift (d : Nat) (hV : κ 10 4 = nI (kV κ)) (hV12 : kV κ ≤ 12) (hN : κ 11 5 = nI (kN κ)) (hN4 : kN κ ≤ 400) : zTr E (d + 4) mX7_sift [.ref 7, .ref 10] (κ, α, τ) none (zup κ 7 1 (nI (k_use (kV κ))), α, k_sift κ τ) := by
  obtain ⟨t1, t2⟩ := k_use_tab (kV κ) (by omega)
  refine zM.tr (zM_of [some (.ref 7), some (.ref 10), none, none] (by decide) rfl (Nat.le_of_ble_eq_true rfl) ?_)
  refine x_aload_n (pc := 0) 0 dX7_sift_0 rfl rfl ?_
  refine x_aload_n (pc := 1) 1 dX7_sift_1 rfl rfl ?_
  refine x_geti_l (pc := 2) dX7_sift_2 fX7_15 (zat_b rfl rfl) rfl rfl ?_
  rw [hV]
  refine x_callV1v (pc := 5) dX7_sift_5 lX7_21 (zat_b rfl rfl) rfl (s_startWithAll d hV12) (Nat.le_of_ble_eq_true rfl) (Or.inl rfl) ?_
  refine x_aload_n (pc := 8) 1 dX7_sift_8 rfl rfl ?_
  refine x_getr (pc := 9) (11) dX7_sift_9 fX7_25 (zat_b rfl rfl) rfl ?_
  refine x_astore_n (pc := 12) 2 dX7_sift_12 rfl (by decide) rfl ?_
  refine x_iconst (pc := 13) (nI 0) dX7_sift_13 (by decide) ?_
  refine x_istore_n (pc := 14) 3 dX7_sift_14 rfl (by decide) rfl ?_
  have eN : kN (zup κ 7 1 (nI (k_use (kV κ)))) = kN κ := by unfold kN; rw [zup_p (by decide)]
  have h := l_sift (E := E) (α := α) (κ := zup κ 7 1 (nI (k_use (kV κ)))) (d + 1) (U := k_use (kV κ)) (zup_same _ _ _ _) t2 (by rw [eN, zup_p (by decide)]; exact hN) (by rw [eN]; exact hN4) (kN κ) 0 (k_fill τ (k_ful (kV κ)) (k_use (kV κ))) (by omega)
  have eF : k_sfF (zup κ 7 1 (nI (k_use (kV κ)))) (k_use (kV κ)) = k_sfF κ (k_use (kV κ)) := by
    funext i τ
    unfold k_sfF
    rw [zup_p (by decide), zup_p (by decide), zup_p (by decide)]
  rw [eF] at h
  exact h
theorem l_many (d : Nat) {U : Nat} (hU : κ 7 1 = nI U) (hU64 : U ≤ 64) : ∀ m w n, w + m = U → zX E (d + 2) mX7_howMany 4 [some (.ref 7), some (.int n), some (.int (nI w))] [] (κ, α, τ) (fun r ν => r = some (.int (zit (k_hmF τ) w m n)) ∧ ν = (κ, α, τ)) := by
  intro m
  induction m with
  | zero =>
    intro w n hw
    refine x_iload_n (pc := 4) 2 dX7_howMany_4 rfl rfl ?_
    refine x_aload_n (pc := 5) 0 dX7_howMany_5 rfl rfl ?_
    refine x_geti_l (pc := 6) dX7_howMany_6 fX7_58 (zat_b rfl rfl) rfl rfl ?_
    rw [hU]
    refine x_icmp_ge_t (pc := 9) 30 dX7_howMany_9 (by decide) (nI_le (by omega) (by omega)) ?_
    refine x_iload_n (pc := 30) 1 dX7_howMany_30 rfl rfl ?_
    refine x_iret (pc := 31) dX7_howMany_31 rfl ?_
    exact ⟨rfl, rfl⟩
  | succ m ih =>
    intro w n hw
    refine x_iload_n (pc := 4) 2 dX7_howMany_4 rfl rfl ?_
    refine x_aload_n (pc := 5) 0 dX7_howMany_5 rfl rfl ?_
    refine x_geti_l (pc := 6) dX7_howMany_6 fX7_58 (zat_b rfl rfl) rfl rfl ?_
    rw [hU]
    refine x_icmp_ge_f (pc := 9) 30 dX7_howMany_9 (by decide) (nI_ge (by omega) (by omega)) ?_
    refine x_iload_n (pc := 12) 1 dX7_howMany_12 rfl rfl ?_
    refine x_aload_n (pc := 13) 0 dX7_howMany_13 rfl rfl ?_
    refine x_getr (pc := 14) (82) dX7_howMany_14 fX7_11 (zat_b rfl rfl) rfl ?_
    refine x_iload_n (pc := 17) 2 dX7_howMany_17 rfl rfl ?_
    have hj18 : w < 64 := by omega
    refine x_lald (pc := 18) (w) dX7_howMany_18 (zar_b rfl rfl rfl) (by first | rfl | simp only [pk_mul, nI_add] | simp only [zon, pk_mul, nI_add]) hj18 (Nat.lt_of_lt_of_le hj18 (by decide)) ?_
    refine x_callS1i (pc := 19) dX7_howMany_19 lX7_80 (s_lbitCount d _) (Nat.le_of_ble_eq_true rfl) (Or.inl zgr) ?_
    refine x_iadd (pc := 22) dX7_howMany_22 ?_
    refine x_istore_n (pc := 23) 1 dX7_howMany_23 rfl (by decide) rfl ?_
    refine x_iinc (pc := 24) (nI (w + 1)) dX7_howMany_24 rfl (zinc _) (by decide) rfl ?_
    refine x_goto (pc := 27) 4 dX7_howMany_27 (by decide) ?_
    exact ih (w + 1) _ (by omega)
theorem s_many (d : Nat) {U : Nat} (hU : κ 7 1 = nI U) (hU64 : U ≤ 64) : zTr E (d + 2) mX7_howMany [.ref 7] (κ, α, τ) (some (.int (k_many τ U))) (κ, α, τ) := by
  refine zM.tr (zM_of [some (.ref 7), none, none] (by decide) rfl (Nat.le_of_ble_eq_true rfl) ?_)
  refine x_iconst (pc := 0) (nI 0) dX7_howMany_0 (by decide) ?_
  refine x_istore_n (pc := 1) 1 dX7_howMany_1 rfl (by decide) rfl ?_
  refine x_iconst (pc := 2) (nI 0) dX7_howMany_2 (by decide) ?_
  refine x_istore_n (pc := 3) 2 dX7_howMany_3 rfl (by decide) rfl ?_
  exact l_many d hU hU64 U 0 (nI 0) (by omega)
theorem l_alike (d : Nat) {U v : Nat} (so : Bool) (hv : 1 ≤ v) (hv12 : v ≤ 12) (hU : κ 7 1 = nI U) (hU64 : U ≤ 64) : ∀ m w, w + m = U → ∀ x4 x5, zX E (d + 2) mX7_isAlike 2 [some (.ref 7), some (.int (nI v)), some (.int (zbo so)), some (.int (nI w)), x4, x5] [] (κ, α, τ) (fun r ν => r = some (.int (zbo (zfind (k_alB τ v so) w m).isNone)) ∧ ν = (κ, α, τ)) := by
  intro m
  induction m with
  | zero =>
    intro w hw x4 x5
    refine x_iload_n (pc := 2) 3 dX7_isAlike_2 rfl rfl ?_
    refine x_aload_n (pc := 3) 0 dX7_isAlike_3 rfl rfl ?_
    refine x_geti_l (pc := 4) dX7_isAlike_4 fX7_58 (zat_b rfl rfl) rfl rfl ?_
    rw [hU]
    refine x_icmp_ge_t (pc := 7) 52 dX7_isAlike_7 (by decide) (nI_le (by omega) (by omega)) ?_
    refine x_iconst (pc := 52) (nI 1) dX7_isAlike_52 (by decide) ?_
    refine x_zret (pc := 53) dX7_isAlike_53 rfl (by decide) ?_
    exact ⟨rfl, rfl⟩
  | succ m ih =>
    intro w hw x4 x5
    have step : zfind (k_alB τ v so) w (m + 1) = bif k_alB τ v so w then some w else zfind (k_alB τ v so) (w + 1) m := rfl
    rw [step]
    have fin : ∀ c : Int64, (bif so then k_col v w ^^^ (-1) else k_col v w) = c → ∀ x, zX E (d + 2) mX7_isAlike 38 [some (.ref 7), some (.int (nI v)), some (.int (zbo so)), some (.int (nI w)), x, none] [.long c, .long (τ.1 82 w)] (κ, α, τ) (fun r ν => r = some (.int (zbo (bif k_alB τ v so w then some w else zfind (k_alB τ v so) (w + 1) m).isNone)) ∧ ν = (κ, α, τ)) := by
      intro c hc x
      by_cases g : τ.1 82 w &&& c = 0
      · rw [show k_alB τ v so w = false by unfold k_alB; rw [hc]; exact decide_eq_false (by simpa using g)]
        refine x_land (pc := 38) dX7_isAlike_38 ?_
        refine x_lconst (pc := 39) 0 dX7_isAlike_39 (by decide) ?_
        refine x_lcmp (pc := 40) dX7_isAlike_40 ?_
        refine x_if_eq_t (pc := 41) 46 dX7_isAlike_41 (by decide) ((lg_cmp_eq _ _).mpr g) ?_
        refine x_iinc (pc := 46) (nI (w + 1)) dX7_isAlike_46 rfl (zinc _) (by decide) rfl ?_
        refine x_goto (pc := 49) 2 dX7_isAlike_49 (by decide) ?_
        exact ih (w + 1) (by omega) _ _
      · rw [show k_alB τ v so w = true by unfold k_alB; rw [hc]; exact decide_eq_true g]
        refine x_land (pc := 38) dX7_isAlike_38 ?_
        refine x_lconst (pc := 39) 0 dX7_isAlike_39 (by decide) ?_
        refine x_lcmp (pc := 40) dX7_isAlike_40 ?_
        refine x_if_eq_f (pc := 41) 46 dX7_isAlike_41 (by decide) (fun q => g ((lg_cmp_eq _ _).mp q)) ?_
        refine x_iconst (pc := 44) (nI 0) dX7_isAlike_44 (by decide) ?_
        refine x_zret (pc := 45) dX7_isAlike_45 rfl (by decide) ?_
        exact ⟨rfl, rfl⟩
    refine x_iload_n (pc := 2) 3 dX7_isAlike_2 rfl rfl ?_
    refine x_aload_n (pc := 3) 0 dX7_isAlike_3 rfl rfl ?_
    refine x_geti_l (pc := 4) dX7_isAlike_4 fX7_58 (zat_b rfl rfl) rfl rfl ?_
    rw [hU]
    cases so with
    | true =>
      refine x_icmp_ge_f (pc := 7) 52 dX7_isAlike_7 (by decide) (nI_ge (by omega) (by omega)) ?_
      refine x_iload_n (pc := 10) 1 dX7_isAlike_10 rfl rfl ?_
      refine x_iload_n (pc := 11) 3 dX7_isAlike_11 rfl rfl ?_
      refine x_callS2i (pc := 12) dX7_isAlike_12 lX7_73 (s_column (d + 0) hv hv12) (Nat.le_of_ble_eq_true rfl) (Or.inl zgr) ?_
      refine x_lstore (pc := 15) dX7_isAlike_15 (by decide) rfl ?_
      refine x_aload_n (pc := 17) 0 dX7_isAlike_17 rfl rfl ?_
      refine x_getr (pc := 18) (82) dX7_isAlike_18 fX7_11 (zat_b rfl rfl) rfl ?_
      refine x_iload_n (pc := 21) 3 dX7_isAlike_21 rfl rfl ?_
      have hj22 : w < 64 := by omega
      refine x_lald (pc := 22) (w) dX7_isAlike_22 (zar_b rfl rfl rfl) (by first | rfl | simp only [pk_mul, nI_add] | simp only [zon, pk_mul, nI_add]) hj22 (Nat.lt_of_lt_of_le hj22 (by decide)) ?_
      refine x_iload_n (pc := 23) 2 dX7_isAlike_23 rfl rfl ?_
      refine x_if_eq_f (pc := 24) 36 dX7_isAlike_24 (by decide) (by decide) ?_
      refine x_lload (pc := 27) dX7_isAlike_27 rfl ?_
      refine x_ldc2 (pc := 29) (-1) dX7_isAlike_29 (zt_of 1008 (by decide +kernel) (by decide +kernel)) ?_
      refine x_lxor (pc := 32) dX7_isAlike_32 ?_
      refine x_goto (pc := 33) 38 dX7_isAlike_33 (by decide) ?_
      exact fin _ rfl _
    | false =>
      refine x_icmp_ge_f (pc := 7) 52 dX7_isAlike_7 (by decide) (nI_ge (by omega) (by omega)) ?_
      refine x_iload_n (pc := 10) 1 dX7_isAlike_10 rfl rfl ?_
      refine x_iload_n (pc := 11) 3 dX7_isAlike_11 rfl rfl ?_
      refine x_callS2i (pc := 12) dX7_isAlike_12 lX7_73 (s_column (d + 0) hv hv12) (Nat.le_of_ble_eq_true rfl) (Or.inl zgr) ?_
      refine x_lstore (pc := 15) dX7_isAlike_15 (by decide) rfl ?_
      refine x_aload_n (pc := 17) 0 dX7_isAlike_17 rfl rfl ?_
      refine x_getr (pc := 18) (82) dX7_isAlike_18 fX7_11 (zat_b rfl rfl) rfl ?_
      refine x_iload_n (pc := 21) 3 dX7_isAlike_21 rfl rfl ?_
      have hj22 : w < 64 := by omega
      refine x_lald (pc := 22) (w) dX7_isAlike_22 (zar_b rfl rfl rfl) (by first | rfl | simp only [pk_mul, nI_add] | simp only [zon, pk_mul, nI_add]) hj22 (Nat.lt_of_lt_of_le hj22 (by decide)) ?_
      refine x_iload_n (pc := 23) 2 dX7_isAlike_23 rfl rfl ?_
      refine x_if_eq_t (pc := 24) 36 dX7_isAlike_24 (by decide) (rfl) ?_
      refine x_lload (pc := 36) dX7_isAlike_36 rfl ?_
      exact fin _ rfl _
theorem s_alike (d : Nat) {U v : Nat} (so : Bool) (hv : 1 ≤ v) (hv12 : v ≤ 12) (hU : κ 7 1 = nI U) (hU64 : U ≤ 64) : zTr E (d + 2) mX7_isAlike [.ref 7, .int (nI v), .int (zbo so)] (κ, α, τ) (some (.int (zbo (k_alike τ U v so)))) (κ, α, τ) := by
  refine zM.tr (zM_of [some (.ref 7), some (.int (nI v)), some (.int (zbo so)), none, none, none] (by decide) rfl (Nat.le_of_ble_eq_true rfl) ?_)
  refine x_iconst (pc := 0) (nI 0) dX7_isAlike_0 (by decide) ?_
  refine x_istore_n (pc := 1) 3 dX7_isAlike_1 rfl (by decide) rfl ?_
  exact l_alike d so hv hv12 hU hU64 U 0 (by omega) _ _
theorem l_allA (d : Nat) {U V : Nat} (so : Bool) (hV : V ≤ 12) (hU : κ 7 1 = nI U) (hU64 : U ≤ 64) : ∀ m v x, v + m = V + 1 → 1 ≤ v → zX E (d + 3) mX7_allAlike 5 [some (.ref 7), some (.int (nI V)), some (.int (zbo so)), some (.int x), some (.int (nI v))] [] (κ, α, τ) (fun r ν => r = some (.int (zit (k_aaF τ U so) v m x)) ∧ ν = (κ, α, τ)) := by
  intro m
  induction m with
  | zero =>
    intro v x hv h1
    refine x_iload (pc := 5) dX7_allAlike_5 rfl ?_
    refine x_iload_n (pc := 7) 1 dX7_allAlike_7 rfl rfl ?_
    refine x_icmp_gt_t (pc := 8) 39 dX7_allAlike_8 (by decide) (nI_lt (by omega) (by omega)) ?_
    refine x_iload_n (pc := 39) 3 dX7_allAlike_39 rfl rfl ?_
    refine x_iret (pc := 40) dX7_allAlike_40 rfl ?_
    exact ⟨rfl, rfl⟩
  | succ m ih =>
    intro v x hv h1
    have step : zit (k_aaF τ U so) v (m + 1) x = zit (k_aaF τ U so) (v + 1) m (k_aaF τ U so v x) := rfl
    rw [step]
    refine x_iload (pc := 5) dX7_allAlike_5 rfl ?_
    refine x_iload_n (pc := 7) 1 dX7_allAlike_7 rfl rfl ?_
    refine x_icmp_gt_f (pc := 8) 39 dX7_allAlike_8 (by decide) (nI_nlt (by omega) (by omega)) ?_
    refine x_iload_n (pc := 11) 3 dX7_allAlike_11 rfl rfl ?_
    refine x_aload_n (pc := 12) 0 dX7_allAlike_12 rfl rfl ?_
    refine x_iload (pc := 13) dX7_allAlike_13 rfl ?_
    refine x_iload_n (pc := 15) 2 dX7_allAlike_15 rfl rfl ?_
    refine x_callV2i (pc := 16) dX7_allAlike_16 lX7_86 (zat_b rfl rfl) rfl (s_alike d so h1 (by omega) hU hU64) (Nat.le_of_ble_eq_true rfl) (Or.inl zgr) ?_
    cases hc : k_alike τ U v so with
    | true =>
      rw [show k_aaF τ U so v x = x ||| kb (nI v) by unfold k_aaF; rw [hc]; rfl]
      refine x_if_eq_f (pc := 19) 30 dX7_allAlike_19 (by decide) (by decide) ?_
      refine x_iload (pc := 22) dX7_allAlike_22 rfl ?_
      refine x_callN1i (pc := 24) dX7_allAlike_24 lX7_69 (s_bitOf (d + 1) _) (Nat.le_of_ble_eq_true rfl) (Or.inl zgr) ?_
      refine x_goto (pc := 27) 31 dX7_allAlike_27 (by decide) ?_
      refine x_ior (pc := 31) dX7_allAlike_31 ?_
      refine x_istore_n (pc := 32) 3 dX7_allAlike_32 rfl (by decide) rfl ?_
      refine x_iinc (pc := 33) (nI (v + 1)) dX7_allAlike_33 rfl (zinc _) (by decide) rfl ?_
      refine x_goto (pc := 36) 5 dX7_allAlike_36 (by decide) ?_
      exact ih (v + 1) _ (by omega) (by omega)
    | false =>
      rw [show k_aaF τ U so v x = x ||| nI 0 by unfold k_aaF; rw [hc]; rfl]
      refine x_if_eq_t (pc := 19) 30 dX7_allAlike_19 (by decide) (rfl) ?_
      refine x_iconst (pc := 30) (nI 0) dX7_allAlike_30 (by decide) ?_
      refine x_ior (pc := 31) dX7_allAlike_31 ?_
      refine x_istore_n (pc := 32) 3 dX7_allAlike_32 rfl (by decide) rfl ?_
      refine x_iinc (pc := 33) (nI (v + 1)) dX7_allAlike_33 rfl (zinc _) (by decide) rfl ?_
      refine x_goto (pc := 36) 5 dX7_allAlike_36 (by decide) ?_
      exact ih (v + 1) _ (by omega) (by omega)
theorem s_allA (d : Nat) {U V : Nat} (so : Bool) (hV : V ≤ 12) (hU : κ 7 1 = nI U) (hU64 : U ≤ 64) : zTr E (d + 3) mX7_allAlike [.ref 7, .int (nI V), .int (zbo so)] (κ, α, τ) (some (.int (k_allA τ U V so))) (κ, α, τ) := by
  refine zM.tr (zM_of [some (.ref 7), some (.int (nI V)), some (.int (zbo so)), none, none] (by decide) rfl (Nat.le_of_ble_eq_true rfl) ?_)
  refine x_iconst (pc := 0) (nI 0) dX7_allAlike_0 (by decide) ?_
  refine x_istore_n (pc := 1) 3 dX7_allAlike_1 rfl (by decide) rfl ?_
  refine x_iconst (pc := 2) (nI 1) dX7_allAlike_2 (by decide) ?_
  refine x_istore (pc := 3) dX7_allAlike_3 (by decide) rfl ?_
  exact l_allA d so hV hU hU64 V 1 (nI 0) (by omega) (by omega)
end W1
