/-! the reference, its small methods: exact contracts -/
/-- the cells made are told by the last part of the memory -/
theorem zgr {κ κ' α α' : Nat → Nat → Int32} {τ : (Nat → Nat → Int64) × (Nat → Nat)} : zg (κ', α', τ) 5 = zg (κ, α, τ) 5 := rfl
theorem zinc (i : Nat) : nI i + Int32.ofInt 1 = nI (i + 1) := nI_1 i
theorem zdec (i : Nat) : nI (i + 1) + Int32.ofInt (-1) = nI i := pk_m1 i
def zbo (b : Bool) : Int32 := bif b then nI 1 else nI 0
theorem zbo_nar (b : Bool) : narrow .boolean (.int (zbo b)) = .int (zbo b) := by cases b <;> decide
theorem zbo_fit (b : Bool) : fits .boolean (.int (zbo b)) = true := by cases b <;> decide
theorem zbo_vp (b : Bool) : vp_nar .boolean (zbo b) = zbo b := by cases b <;> decide
theorem zbo_ne (b : Bool) : ¬ zbo b = 0 ↔ b = true := by cases b <;> decide
theorem zbo_eq (b : Bool) : zbo b = 0 ↔ b = false := by cases b <;> decide
def zab (v : Int32) : Int32 := if 0 ≤ v then v else -v
section M1
variable {E : zEnv} {d : Nat} {y : zY} {pc : Nat} {ls : List (Option Value)} {st : List Value} {μ ν : zMem} {r : Option Value} {P : Option Value → zMem → Prop}
theorem x_dup2 {a b : Value} (hd : decode y.2.1 pc = .ok (.dup2, 1)) (ha : a.category = 1) (hb : b.category = 1) (k : zX E d y (pc + 1) ls (a :: b :: a :: b :: st) μ P) : zX E d y pc ls (a :: b :: st) μ P := k.map (fun r ν k => ⟨k.1, fun p e s m args below meth c μ0 ad0 ad H locs LS C h1 h2 h3 h4 h5 h6 => lv_dup2_11 C.1 C.2.1 hd ((ztv_cat ad a).trans ha) ((ztv_cat ad b).trans hb) (k.2 p e s m args below meth c μ0 ad0 ad H locs LS C h1 h2 h3 h4 h5 h6)⟩)
end M1
section M2
variable {E : zEnv} {κ α : Nat → Nat → Int32} {τ : (Nat → Nat → Int64) × (Nat → Nat)}
theorem t_isIn (d : Nat) (v a b : Int32) : zTr E (d + 1) mX9_isIn [.int v, .int a, .int b] (κ, α, τ) (some (.int (zbo (decide (a ≤ v) && decide (v ≤ b))))) (κ, α, τ) := by
  refine zM.tr (zM_of [some (.int v), some (.int a), some (.int b)] (by decide) rfl (Nat.le_of_ble_eq_true rfl) ?_)
  refine x_iload_n (pc := 0) 0 dX9_isIn_0 rfl rfl ?_
  refine x_iload_n (pc := 1) 1 dX9_isIn_1 rfl rfl ?_
  refine x_icmp_lt (pc := 2) 14 dX9_isIn_2 (by decide) (fun h1 => ?_) (fun h1 => ?_)
  ·
    refine x_iconst (pc := 14) (nI 0) dX9_isIn_14 (by decide) ?_
    refine x_zret (pc := 15) dX9_isIn_15 rfl (by decide) ?_
    exact ⟨by have : ¬ a ≤ v := fun q => absurd h1 (Int32.not_lt.mpr q); simp [zbo, this], rfl⟩
  ·
    refine x_iload_n (pc := 5) 0 dX9_isIn_5 rfl rfl ?_
    refine x_iload_n (pc := 6) 2 dX9_isIn_6 rfl rfl ?_
    refine x_icmp_gt (pc := 7) 14 dX9_isIn_7 (by decide) (fun h2 => ?_) (fun h2 => ?_)
    ·
      refine x_iconst (pc := 14) (nI 0) dX9_isIn_14 (by decide) ?_
      refine x_zret (pc := 15) dX9_isIn_15 rfl (by decide) ?_
      exact ⟨by have : ¬ v ≤ b := fun q => absurd h2 (Int32.not_lt.mpr q); simp [zbo, this], rfl⟩
    ·
      refine x_iconst (pc := 10) (nI 1) dX9_isIn_10 (by decide) ?_
      refine x_goto (pc := 11) 15 dX9_isIn_11 (by decide) ?_
      refine x_zret (pc := 15) dX9_isIn_15 rfl (by decide) ?_
      exact ⟨by simp [zbo, Int32.not_lt.mp h1, Int32.not_lt.mp h2], rfl⟩
theorem t_size (d : Nat) (v : Int32) : zTr E (d + 1) mX9_size [.int v] (κ, α, τ) (some (.int (zab v))) (κ, α, τ) := by
  refine zM.tr (zM_of [some (.int v)] (by decide) rfl (Nat.le_of_ble_eq_true rfl) ?_)
  refine x_iload_n (pc := 0) 0 dX9_size_0 rfl rfl ?_
  refine x_if_ge (pc := 1) 9 dX9_size_1 (by decide) (fun h1 => ?_) (fun h1 => ?_)
  ·
    refine x_iload_n (pc := 9) 0 dX9_size_9 rfl rfl ?_
    refine x_iret (pc := 10) dX9_size_10 rfl ?_
    exact ⟨by rw [zab, if_pos h1], rfl⟩
  ·
    refine x_iload_n (pc := 4) 0 dX9_size_4 rfl rfl ?_
    refine x_ineg (pc := 5) dX9_size_5 ?_
    refine x_goto (pc := 6) 10 dX9_size_6 (by decide) ?_
    refine x_iret (pc := 10) dX9_size_10 rfl ?_
    exact ⟨by rw [zab, if_neg h1], rfl⟩
def a_isVar (α : Nat → Nat → Int32) (v : Int32) : Bool := decide (nI 1 ≤ v) && decide (v ≤ α 101 0)
theorem t_isVariable (d : Nat) (v : Int32) : zTr E (d + 2) mX9_isVariable [.ref 100, .int v] (κ, α, τ) (some (.int (zbo (a_isVar α v)))) (κ, α, τ) := by
  refine zM.tr (zM_of [some (.ref 100), some (.int v)] (by decide) rfl (Nat.le_of_ble_eq_true rfl) ?_)
  refine x_iload_n (pc := 0) 1 dX9_isVariable_0 rfl rfl ?_
  refine x_iconst (pc := 1) (nI 1) dX9_isVariable_1 (by decide) ?_
  refine x_aload_n (pc := 2) 0 dX9_isVariable_2 rfl rfl ?_
  refine x_getr (pc := 3) (101) dX9_isVariable_3 fX9_7 (zat_b rfl rfl) rfl ?_
  refine x_iconst (pc := 6) (nI 0) dX9_isVariable_6 (by decide) ?_
  have hj7 : 0 < 13326 := by omega
  refine x_iald_h (pc := 7) (0) dX9_isVariable_7 (zar_b rfl rfl rfl) rfl (by first | rfl | simp only [pk_mul, nI_add] | simp only [zon, pk_mul, nI_add]) hj7 (Nat.lt_of_lt_of_le hj7 (by decide)) ?_
  refine x_callS3i (pc := 8) dX9_isVariable_8 lX9_67 (t_isIn d _ _ _) (Nat.le_of_ble_eq_true rfl) (Or.inl zgr) ?_
  refine x_zret (pc := 11) dX9_isVariable_11 rfl (zbo_nar _) ?_
  exact ⟨rfl, rfl⟩
def a_isLit (α : Nat → Nat → Int32) (l : Int32) : Bool := decide (-30 ≤ l) && decide (l ≤ nI 30) && a_isVar α (zab l)
theorem t_isLiteral (d : Nat) (l : Int32) : zTr E (d + 3) mX9_isLiteral [.ref 100, .int l] (κ, α, τ) (some (.int (zbo (a_isLit α l)))) (κ, α, τ) := by
  refine zM.tr (zM_of [some (.ref 100), some (.int l)] (by decide) rfl (Nat.le_of_ble_eq_true rfl) ?_)
  refine x_iload_n (pc := 0) 1 dX9_isLiteral_0 rfl rfl ?_
  refine x_bipush (pc := 1) (-30) dX9_isLiteral_1 (by decide) ?_
  refine x_icmp_lt (pc := 3) 27 dX9_isLiteral_3 (by decide) (fun h1 => ?_) (fun h1 => ?_)
  ·
    refine x_iconst (pc := 27) (nI 0) dX9_isLiteral_27 (by decide) ?_
    refine x_zret (pc := 28) dX9_isLiteral_28 rfl (by decide) ?_
    exact ⟨by have : ¬ (-30) ≤ l := fun q => absurd h1 (Int32.not_lt.mpr q); simp [a_isLit, zbo, this], rfl⟩
  ·
    refine x_iload_n (pc := 6) 1 dX9_isLiteral_6 rfl rfl ?_
    refine x_bipush (pc := 7) (nI 30) dX9_isLiteral_7 (by decide) ?_
    refine x_icmp_gt (pc := 9) 27 dX9_isLiteral_9 (by decide) (fun h2 => ?_) (fun h2 => ?_)
    ·
      refine x_iconst (pc := 27) (nI 0) dX9_isLiteral_27 (by decide) ?_
      refine x_zret (pc := 28) dX9_isLiteral_28 rfl (by decide) ?_
      exact ⟨by have : ¬ l ≤ nI 30 := fun q => absurd h2 (Int32.not_lt.mpr q); simp [a_isLit, zbo, this], rfl⟩
    · have g1 : (-30 : Int32) ≤ l := Int32.not_lt.mp h1
      have g2 : l ≤ nI 30 := Int32.not_lt.mp h2
      refine x_aload_n (pc := 12) 0 dX9_isLiteral_12 rfl rfl ?_
      refine x_iload_n (pc := 13) 1 dX9_isLiteral_13 rfl rfl ?_
      refine x_callS1i (pc := 14) dX9_isLiteral_14 lX9_71 (t_size (d + 1) _) (Nat.le_of_ble_eq_true rfl) (Or.inl zgr) ?_
      refine x_callV1i (pc := 17) dX9_isLiteral_17 lX9_75 (zat_b rfl rfl) rfl (t_isVariable d _) (Nat.le_of_ble_eq_true rfl) (Or.inl zgr) ?_
      refine x_if_eq (pc := 20) 27 dX9_isLiteral_20 (by decide) (fun h3 => ?_) (fun h3 => ?_)
      ·
        refine x_iconst (pc := 27) (nI 0) dX9_isLiteral_27 (by decide) ?_
        refine x_zret (pc := 28) dX9_isLiteral_28 rfl (by decide) ?_
        exact ⟨by rw [zbo_eq] at h3; simp [a_isLit, h3, zbo], rfl⟩
      ·
        refine x_iconst (pc := 23) (nI 1) dX9_isLiteral_23 (by decide) ?_
        refine x_goto (pc := 24) 28 dX9_isLiteral_24 (by decide) ?_
        refine x_zret (pc := 28) dX9_isLiteral_28 rfl (by decide) ?_
        exact ⟨by rw [zbo_ne] at h3; simp [a_isLit, g1, g2, h3, zbo], rfl⟩
theorem t_literal (d c k : Nat) (hc : c < 400) (hk : k < 30) : zTr E (d + 1) mX9_literal [.ref 100, .int (nI c), .int (nI k)] (κ, α, τ) (some (.int (α 101 (1326 + 30 * c + k)))) (κ, α, τ) := by
  refine zM.tr (zM_of [some (.ref 100), some (.int (nI c)), some (.int (nI k))] (by decide) rfl (Nat.le_of_ble_eq_true rfl) ?_)
  refine x_aload_n (pc := 0) 0 dX9_literal_0 rfl rfl ?_
  refine x_getr (pc := 1) (101) dX9_literal_1 fX9_7 (zat_b rfl rfl) rfl ?_
  refine x_sipush (pc := 4) (nI 1326) dX9_literal_4 (by decide) ?_
  refine x_bipush (pc := 7) (nI 30) dX9_literal_7 (by decide) ?_
  refine x_iload_n (pc := 9) 1 dX9_literal_9 rfl rfl ?_
  refine x_imul (pc := 10) dX9_literal_10 ?_
  refine x_iadd (pc := 11) dX9_literal_11 ?_
  refine x_iload_n (pc := 12) 2 dX9_literal_12 rfl rfl ?_
  refine x_iadd (pc := 13) dX9_literal_13 ?_
  have hj14 : 1326 + 30 * c + k < 13326 := by omega
  refine x_iald_h (pc := 14) (1326 + 30 * c + k) dX9_literal_14 (zar_b rfl rfl rfl) rfl (by first | rfl | simp only [pk_mul, nI_add] | simp only [zon, pk_mul, nI_add]) hj14 (Nat.lt_of_lt_of_le hj14 (by decide)) ?_
  refine x_iret (pc := 15) dX9_literal_15 rfl ?_
  exact ⟨rfl, rfl⟩
theorem t_sizeOf (d c : Nat) (hc : c < 400) : zTr E (d + 1) mX9_sizeOf [.ref 100, .int (nI c)] (κ, α, τ) (some (.int (α 101 (125 + c)))) (κ, α, τ) := by
  refine zM.tr (zM_of [some (.ref 100), some (.int (nI c))] (by decide) rfl (Nat.le_of_ble_eq_true rfl) ?_)
  refine x_aload_n (pc := 0) 0 dX9_sizeOf_0 rfl rfl ?_
  refine x_getr (pc := 1) (101) dX9_sizeOf_1 fX9_7 (zat_b rfl rfl) rfl ?_
  refine x_bipush (pc := 4) (nI 125) dX9_sizeOf_4 (by decide) ?_
  refine x_iload_n (pc := 6) 1 dX9_sizeOf_6 rfl rfl ?_
  refine x_iadd (pc := 7) dX9_sizeOf_7 ?_
  have hj8 : 125 + c < 13326 := by omega
  refine x_iald_h (pc := 8) (125 + c) dX9_sizeOf_8 (zar_b rfl rfl rfl) rfl (by first | rfl | simp only [pk_mul, nI_add] | simp only [zon, pk_mul, nI_add]) hj8 (Nat.lt_of_lt_of_le hj8 (by decide)) ?_
  refine x_iret (pc := 9) dX9_sizeOf_9 rfl ?_
  exact ⟨rfl, rfl⟩
def a_gone (α : Nat → Nat → Int32) (c : Nat) : Bool := decide (¬ α 101 (525 + c) &&& nI 2 = 0)
def a_learnt (α : Nat → Nat → Int32) (c : Nat) : Bool := decide (¬ α 101 (525 + c) &&& nI 1 = 0)
theorem t_isGone (d c : Nat) (hc : c < 400) : zTr E (d + 1) mX9_isGone [.ref 100, .int (nI c)] (κ, α, τ) (some (.int (zbo (a_gone α c)))) (κ, α, τ) := by
  refine zM.tr (zM_of [some (.ref 100), some (.int (nI c))] (by decide) rfl (Nat.le_of_ble_eq_true rfl) ?_)
  refine x_aload_n (pc := 0) 0 dX9_isGone_0 rfl rfl ?_
  refine x_getr (pc := 1) (101) dX9_isGone_1 fX9_7 (zat_b rfl rfl) rfl ?_
  refine x_sipush (pc := 4) (nI 525) dX9_isGone_4 (by decide) ?_
  refine x_iload_n (pc := 7) 1 dX9_isGone_7 rfl rfl ?_
  refine x_iadd (pc := 8) dX9_isGone_8 ?_
  have hj9 : 525 + c < 13326 := by omega
  refine x_iald_h (pc := 9) (525 + c) dX9_isGone_9 (zar_b rfl rfl rfl) rfl (by first | rfl | simp only [pk_mul, nI_add] | simp only [zon, pk_mul, nI_add]) hj9 (Nat.lt_of_lt_of_le hj9 (by decide)) ?_
  refine x_iconst (pc := 10) (nI 2) dX9_isGone_10 (by decide) ?_
  refine x_iand (pc := 11) dX9_isGone_11 ?_
  refine x_if_eq (pc := 12) 19 dX9_isGone_12 (by decide) (fun h1 => ?_) (fun h1 => ?_)
  ·
    refine x_iconst (pc := 19) (nI 0) dX9_isGone_19 (by decide) ?_
    refine x_zret (pc := 20) dX9_isGone_20 rfl (by decide) ?_
    exact ⟨by simp [a_gone, h1, zbo], rfl⟩
  ·
    refine x_iconst (pc := 15) (nI 1) dX9_isGone_15 (by decide) ?_
    refine x_goto (pc := 16) 20 dX9_isGone_16 (by decide) ?_
    refine x_zret (pc := 20) dX9_isGone_20 rfl (by decide) ?_
    exact ⟨by simp [a_gone, h1, zbo], rfl⟩
theorem t_isLearnt (d c : Nat) (hc : c < 400) : zTr E (d + 1) mX9_isLearnt [.ref 100, .int (nI c)] (κ, α, τ) (some (.int (zbo (a_learnt α c)))) (κ, α, τ) := by
  refine zM.tr (zM_of [some (.ref 100), some (.int (nI c))] (by decide) rfl (Nat.le_of_ble_eq_true rfl) ?_)
  refine x_aload_n (pc := 0) 0 dX9_isLearnt_0 rfl rfl ?_
  refine x_getr (pc := 1) (101) dX9_isLearnt_1 fX9_7 (zat_b rfl rfl) rfl ?_
  refine x_sipush (pc := 4) (nI 525) dX9_isLearnt_4 (by decide) ?_
  refine x_iload_n (pc := 7) 1 dX9_isLearnt_7 rfl rfl ?_
  refine x_iadd (pc := 8) dX9_isLearnt_8 ?_
  have hj9 : 525 + c < 13326 := by omega
  refine x_iald_h (pc := 9) (525 + c) dX9_isLearnt_9 (zar_b rfl rfl rfl) rfl (by first | rfl | simp only [pk_mul, nI_add] | simp only [zon, pk_mul, nI_add]) hj9 (Nat.lt_of_lt_of_le hj9 (by decide)) ?_
  refine x_iconst (pc := 10) (nI 1) dX9_isLearnt_10 (by decide) ?_
  refine x_iand (pc := 11) dX9_isLearnt_11 ?_
  refine x_if_eq (pc := 12) 19 dX9_isLearnt_12 (by decide) (fun h1 => ?_) (fun h1 => ?_)
  ·
    refine x_iconst (pc := 19) (nI 0) dX9_isLearnt_19 (by decide) ?_
    refine x_zret (pc := 20) dX9_isLearnt_20 rfl (by decide) ?_
    exact ⟨by simp [a_learnt, h1, zbo], rfl⟩
  ·
    refine x_iconst (pc := 15) (nI 1) dX9_isLearnt_15 (by decide) ?_
    refine x_goto (pc := 16) 20 dX9_isLearnt_16 (by decide) ?_
    refine x_zret (pc := 20) dX9_isLearnt_20 rfl (by decide) ?_
    exact ⟨by simp [a_learnt, h1, zbo], rfl⟩
theorem t_isRoom (d : Nat) : zTr E (d + 1) mX9_isRoom [.ref 100] (κ, α, τ) (some (.int (zbo (decide (α 101 2 < nI 80) && decide (α 101 1 < nI 400))))) (κ, α, τ) := by
  refine zM.tr (zM_of [some (.ref 100)] (by decide) rfl (Nat.le_of_ble_eq_true rfl) ?_)
  refine x_aload_n (pc := 0) 0 dX9_isRoom_0 rfl rfl ?_
  refine x_getr (pc := 1) (101) dX9_isRoom_1 fX9_7 (zat_b rfl rfl) rfl ?_
  refine x_iconst (pc := 4) (nI 2) dX9_isRoom_4 (by decide) ?_
  have hj5 : 2 < 13326 := by omega
  refine x_iald_h (pc := 5) (2) dX9_isRoom_5 (zar_b rfl rfl rfl) rfl (by first | rfl | simp only [pk_mul, nI_add] | simp only [zon, pk_mul, nI_add]) hj5 (Nat.lt_of_lt_of_le hj5 (by decide)) ?_
  refine x_bipush (pc := 6) (nI 80) dX9_isRoom_6 (by decide) ?_
  refine x_icmp_ge (pc := 8) 27 dX9_isRoom_8 (by decide) (fun h1 => ?_) (fun h1 => ?_)
  ·
    refine x_iconst (pc := 27) (nI 0) dX9_isRoom_27 (by decide) ?_
    refine x_zret (pc := 28) dX9_isRoom_28 rfl (by decide) ?_
    exact ⟨by simp [Int32.not_lt.mpr h1, zbo], rfl⟩
  · have g1 := Int32.not_le.mp h1
    refine x_aload_n (pc := 11) 0 dX9_isRoom_11 rfl rfl ?_
    refine x_getr (pc := 12) (101) dX9_isRoom_12 fX9_7 (zat_b rfl rfl) rfl ?_
    refine x_iconst (pc := 15) (nI 1) dX9_isRoom_15 (by decide) ?_
    have hj16 : 1 < 13326 := by omega
    refine x_iald_h (pc := 16) (1) dX9_isRoom_16 (zar_b rfl rfl rfl) rfl (by first | rfl | simp only [pk_mul, nI_add] | simp only [zon, pk_mul, nI_add]) hj16 (Nat.lt_of_lt_of_le hj16 (by decide)) ?_
    refine x_sipush (pc := 17) (nI 400) dX9_isRoom_17 (by decide) ?_
    refine x_icmp_ge (pc := 20) 27 dX9_isRoom_20 (by decide) (fun h2 => ?_) (fun h2 => ?_)
    ·
      refine x_iconst (pc := 27) (nI 0) dX9_isRoom_27 (by decide) ?_
      refine x_zret (pc := 28) dX9_isRoom_28 rfl (by decide) ?_
      exact ⟨by simp [Int32.not_lt.mpr h2, zbo], rfl⟩
    ·
      refine x_iconst (pc := 23) (nI 1) dX9_isRoom_23 (by decide) ?_
      refine x_goto (pc := 24) 28 dX9_isRoom_24 (by decide) ?_
      refine x_zret (pc := 28) dX9_isRoom_28 rfl (by decide) ?_
      exact ⟨by simp [g1, Int32.not_le.mp h2, zbo], rfl⟩
end M2
