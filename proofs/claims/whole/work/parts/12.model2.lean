/-! the reference: what a state is, and its search's readers -/
def aV (α : Nat → Nat → Int32) : Nat := (α 101 0).toNatClampNeg
def aN (α : Nat → Nat → Int32) : Nat := (α 101 1).toNatClampNeg
def aS (α : Nat → Nat → Int32) (c : Nat) : Nat := (α 101 (125 + c)).toNatClampNeg
def aL (α : Nat → Nat → Int32) (c k : Nat) : Int32 := α 101 (1326 + 30 * c + k)
/-- the clauses are in order -/
def aW (α : Nat → Nat → Int32) : Prop := (α 101 0 = nI (aV α) ∧ aV α ≤ 30) ∧ (α 101 1 = nI (aN α) ∧ aN α ≤ 400) ∧ (∀ c, c < aN α → α 101 (125 + c) = nI (aS α c) ∧ aS α c ≤ 30) ∧ ∀ c, c < aN α → ∀ k, k < aS α c → lok (aV α) (aL α c k)
theorem aW.v {α : Nat → Nat → Int32} (h : aW α) : α 101 0 = nI (aV α) := h.1.1
theorem aW.v30 {α : Nat → Nat → Int32} (h : aW α) : aV α ≤ 30 := h.1.2
theorem aW.n {α : Nat → Nat → Int32} (h : aW α) : α 101 1 = nI (aN α) := h.2.1.1
theorem aW.n400 {α : Nat → Nat → Int32} (h : aW α) : aN α ≤ 400 := h.2.1.2
theorem aW.s {α : Nat → Nat → Int32} (h : aW α) {c : Nat} (hc : c < aN α) : α 101 (125 + c) = nI (aS α c) := (h.2.2.1 c hc).1
theorem aW.s30 {α : Nat → Nat → Int32} (h : aW α) {c : Nat} (hc : c < aN α) : aS α c ≤ 30 := (h.2.2.1 c hc).2
theorem aW.l {α : Nat → Nat → Int32} (h : aW α) {c k : Nat} (hc : c < aN α) (hk : k < aS α c) : lok 30 (aL α c k) := (h.2.2.2 c hc k hk).mono h.v30
def a_tr (α : Nat → Nat → Int32) (l : Int32) : Int32 := if 0 < l then α 105 (zv l) else -(α 105 (zv l))
def zopn (t : Nat → Int32) : Nat → Nat → Nat → Nat
  | _, 0, n => n
  | k, m + 1, n => if 0 < t k then 31 else zopn t (k + 1) m (if t k = 0 then n + 1 else n)
def a_open (α : Nat → Nat → Int32) (c : Nat) : Nat := zopn (fun k => a_tr α (aL α c k)) 0 (aS α c) 0
def a_first (α : Nat → Nat → Int32) (m : Nat) : Option Nat := zfind (fun c => !a_gone α c && Nat.beq (a_open α c) m) 0 (aN α)
def a_openOne (α : Nat → Nat → Int32) (c : Nat) : Int32 := match zfind (fun k => decide (a_tr α (aL α c k) = 0)) 0 (aS α c) with
  | some k => aL α c k
  | none => 0
section M3
variable {E : zEnv} {κ α : Nat → Nat → Int32} {τ : (Nat → Nat → Int64) × (Nat → Nat)}
theorem t_sizeOfW (d : Nat) {c : Nat} (hW : aW α) (hc : c < aN α) : zTr E (d + 1) mX9_sizeOf [.ref 100, .int (nI c)] (κ, α, τ) (some (.int (nI (aS α c)))) (κ, α, τ) := by
  have := t_sizeOf (E := E) (κ := κ) (α := α) (τ := τ) d c (Nat.lt_of_lt_of_le hc hW.n400)
  rw [hW.s hc] at this
  exact this
theorem t_literalW (d : Nat) {c k : Nat} (hW : aW α) (hc : c < aN α) (hk : k < aS α c) : zTr E (d + 1) mX9_literal [.ref 100, .int (nI c), .int (nI k)] (κ, α, τ) (some (.int (aL α c k))) (κ, α, τ) := t_literal d c k (Nat.lt_of_lt_of_le hc hW.n400) (Nat.lt_of_lt_of_le hk (hW.s30 hc))
theorem t_truth (d : Nat) {l : Int32} (hl : lok 30 l) : zTr E (d + 1) mX9_truth [.ref 100, .int l] (κ, α, τ) (some (.int (a_tr α l))) (κ, α, τ) := by
  obtain ⟨g1, g2, g3, g4, g5⟩ := hl.is (Nat.le_refl _)
  have g6 := zv_tab1 (zv l) (by omega)
  refine zM.tr (zM_of [some (.ref 100), some (.int l)] (by decide) rfl (Nat.le_of_ble_eq_true rfl) ?_)
  rcases g4 with ⟨h, e⟩ | ⟨h, e⟩
  ·
    refine x_iload_n (pc := 0) 1 dX9_truth_0 rfl rfl ?_
    refine x_if_le_f (pc := 1) 13 dX9_truth_1 (by decide) (Int32.not_le.mpr h) ?_
    refine x_aload_n (pc := 4) 0 dX9_truth_4 rfl rfl ?_
    refine x_getr (pc := 5) (105) dX9_truth_5 fX9_23 (zat_b rfl rfl) rfl ?_
    refine x_iload_n (pc := 8) 1 dX9_truth_8 rfl rfl ?_
    have hj9 : zv l < 31 := by omega
    refine x_iald_h (pc := 9) (zv l) dX9_truth_9 (zar_b rfl rfl rfl) rfl (e) hj9 (Nat.lt_of_lt_of_le hj9 (by decide)) ?_
    refine x_goto (pc := 10) 21 dX9_truth_10 (by decide) ?_
    refine x_iret (pc := 21) dX9_truth_21 rfl ?_
    exact ⟨by rw [a_tr, if_pos h], rfl⟩
  ·
    refine x_iload_n (pc := 0) 1 dX9_truth_0 rfl rfl ?_
    refine x_if_le_t (pc := 1) 13 dX9_truth_1 (by decide) (Int32.not_lt.mp h) ?_
    refine x_aload_n (pc := 13) 0 dX9_truth_13 rfl rfl ?_
    refine x_getr (pc := 14) (105) dX9_truth_14 fX9_23 (zat_b rfl rfl) rfl ?_
    refine x_iload_n (pc := 17) 1 dX9_truth_17 rfl rfl ?_
    refine x_ineg (pc := 18) dX9_truth_18 ?_
    have hj19 : zv l < 31 := by omega
    refine x_iald_h (pc := 19) (zv l) dX9_truth_19 (zar_b rfl rfl rfl) rfl ((congrArg Neg.neg e).trans g6.2.2.2) hj19 (Nat.lt_of_lt_of_le hj19 (by decide)) ?_
    refine x_ineg (pc := 20) dX9_truth_20 ?_
    refine x_iret (pc := 21) dX9_truth_21 rfl ?_
    exact ⟨by rw [a_tr, if_neg h], rfl⟩
theorem l_open (d : Nat) {c : Nat} (hW : aW α) (hc : c < aN α) : ∀ m k n, k + m = aS α c → n ≤ k → zX E (d + 2) mX9_open 4 [some (.ref 100), some (.int (nI c)), some (.int (nI n)), some (.int (nI k)), none] [] (κ, α, τ) (fun r ν => r = some (.int (nI (zopn (fun k => a_tr α (aL α c k)) k m n))) ∧ ν = (κ, α, τ)) := by
  have hs := hW.s30 hc
  intro m
  induction m with
  | zero =>
    intro k n hk hn
    refine x_iload_n (pc := 4) 3 dX9_open_4 rfl rfl ?_
    refine x_aload_n (pc := 5) 0 dX9_open_5 rfl rfl ?_
    refine x_iload_n (pc := 6) 1 dX9_open_6 rfl rfl ?_
    refine x_callV1i (pc := 7) dX9_open_7 lX9_99 (zat_b rfl rfl) rfl (t_sizeOfW d hW hc) (Nat.le_of_ble_eq_true rfl) (Or.inl zgr) ?_
    refine x_icmp_ge_t (pc := 10) 52 dX9_open_10 (by decide) (nI_le (by omega) (by omega)) ?_
    refine x_iload_n (pc := 52) 2 dX9_open_52 rfl rfl ?_
    refine x_iret (pc := 53) dX9_open_53 rfl ?_
    exact ⟨rfl, rfl⟩
  | succ m ih =>
    intro k n hk hn
    refine x_iload_n (pc := 4) 3 dX9_open_4 rfl rfl ?_
    refine x_aload_n (pc := 5) 0 dX9_open_5 rfl rfl ?_
    refine x_iload_n (pc := 6) 1 dX9_open_6 rfl rfl ?_
    refine x_callV1i (pc := 7) dX9_open_7 lX9_99 (zat_b rfl rfl) rfl (t_sizeOfW d hW hc) (Nat.le_of_ble_eq_true rfl) (Or.inl zgr) ?_
    refine x_icmp_ge_f (pc := 10) 52 dX9_open_10 (by decide) (nI_ge (by omega) (by omega)) ?_
    refine x_aload_n (pc := 13) 0 dX9_open_13 rfl rfl ?_
    refine x_aload_n (pc := 14) 0 dX9_open_14 rfl rfl ?_
    refine x_iload_n (pc := 15) 1 dX9_open_15 rfl rfl ?_
    refine x_iload_n (pc := 16) 3 dX9_open_16 rfl rfl ?_
    refine x_callV2i (pc := 17) dX9_open_17 lX9_108 (zat_b rfl rfl) rfl (t_literalW d hW hc (by omega)) (Nat.le_of_ble_eq_true rfl) (Or.inl zgr) ?_
    refine x_callV1i (pc := 20) dX9_open_20 lX9_111 (zat_b rfl rfl) rfl (t_truth d (hW.l hc (by omega))) (Nat.le_of_ble_eq_true rfl) (Or.inl zgr) ?_
    refine x_istore (pc := 23) dX9_open_23 (by decide) rfl ?_
    refine x_iload (pc := 25) dX9_open_25 rfl ?_
    by_cases h1 : 0 < a_tr α (aL α c k)
    ·
      refine x_if_le_f (pc := 27) 33 dX9_open_27 (by decide) (Int32.not_le.mpr h1) ?_
      refine x_bipush (pc := 30) (nI 31) dX9_open_30 (by decide) ?_
      refine x_iret (pc := 32) dX9_open_32 rfl ?_
      exact ⟨by rw [zopn, if_pos h1], rfl⟩
    · by_cases h2 : a_tr α (aL α c k) = 0
      ·
        refine x_if_le_t (pc := 27) 33 dX9_open_27 (by decide) (Int32.not_lt.mp h1) ?_
        refine x_iload_n (pc := 33) 2 dX9_open_33 rfl rfl ?_
        refine x_iload (pc := 34) dX9_open_34 rfl ?_
        refine x_if_ne_f (pc := 36) 43 dX9_open_36 (by decide) (h2) ?_
        refine x_iconst (pc := 39) (nI 1) dX9_open_39 (by decide) ?_
        refine x_goto (pc := 40) 44 dX9_open_40 (by decide) ?_
        refine x_iadd (pc := 44) dX9_open_44 ?_
        refine x_istore_n (pc := 45) 2 dX9_open_45 rfl (by decide) rfl ?_
        refine x_iinc (pc := 46) (nI (k + 1)) dX9_open_46 rfl (zinc _) (by decide) rfl ?_
        refine x_goto (pc := 49) 4 dX9_open_49 (by decide) ?_
        refine zX.sub (zs1 (zs1 (zs1 (zs1 (zsn zse))))) ?_
        have := ih (k + 1) (n + 1) (by omega) (by omega)
        rw [zopn, if_neg h1, if_pos h2]
        rw [nI_add]
        exact this
      ·
        refine x_if_le_t (pc := 27) 33 dX9_open_27 (by decide) (Int32.not_lt.mp h1) ?_
        refine x_iload_n (pc := 33) 2 dX9_open_33 rfl rfl ?_
        refine x_iload (pc := 34) dX9_open_34 rfl ?_
        refine x_if_ne_t (pc := 36) 43 dX9_open_36 (by decide) (h2) ?_
        refine x_iconst (pc := 43) (nI 0) dX9_open_43 (by decide) ?_
        refine x_iadd (pc := 44) dX9_open_44 ?_
        refine x_istore_n (pc := 45) 2 dX9_open_45 rfl (by decide) rfl ?_
        refine x_iinc (pc := 46) (nI (k + 1)) dX9_open_46 rfl (zinc _) (by decide) rfl ?_
        refine x_goto (pc := 49) 4 dX9_open_49 (by decide) ?_
        refine zX.sub (zs1 (zs1 (zs1 (zs1 (zsn zse))))) ?_
        have := ih (k + 1) n (by omega) (by omega)
        rw [zopn, if_neg h1, if_neg h2]
        rw [nI_add]
        exact this
theorem t_open (d : Nat) {c : Nat} (hW : aW α) (hc : c < aN α) : zTr E (d + 2) mX9_open [.ref 100, .int (nI c)] (κ, α, τ) (some (.int (nI (a_open α c)))) (κ, α, τ) := by
  refine zM.tr (zM_of [some (.ref 100), some (.int (nI c)), none, none, none] (by decide) rfl (Nat.le_of_ble_eq_true rfl) ?_)
  refine x_iconst (pc := 0) (nI 0) dX9_open_0 (by decide) ?_
  refine x_istore_n (pc := 1) 2 dX9_open_1 rfl (by decide) rfl ?_
  refine x_iconst (pc := 2) (nI 0) dX9_open_2 (by decide) ?_
  refine x_istore_n (pc := 3) 3 dX9_open_3 rfl (by decide) rfl ?_
  exact l_open d hW hc (aS α c) 0 0 (by omega) (by omega)
end M3
