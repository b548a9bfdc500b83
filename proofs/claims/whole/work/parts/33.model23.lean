/-! the reference: what follows -/
theorem zcnt_lt {p : Nat → Bool} : ∀ {m k j : Nat}, k ≤ j → j < k + m → p j = false → zcnt p k m < m
  | 0, k, j, h1, h2, h3 => by omega
  | m + 1, k, j, h1, h2, h3 => by
    unfold zcnt
    rcases Nat.eq_or_lt_of_le h1 with rfl | h
    · rw [h3]
      have := zcnt_le p m (k + 1)
      simp only [cond_false]; omega
    · have := zcnt_lt (p := p) (m := m) (k := k + 1) h (by omega) h3
      cases p k <;> simp only [cond_true, cond_false] <;> omega
theorem zcnt_upd {p q : Nat → Bool} : ∀ {m k j : Nat}, k ≤ j → j < k + m → p j = false → q j = true → (∀ i, i ≠ j → q i = p i) → zcnt q k m = zcnt p k m + 1
  | 0, k, j, h1, h2, h3, h4, h5 => by omega
  | m + 1, k, j, h1, h2, h3, h4, h5 => by
    unfold zcnt
    rcases Nat.eq_or_lt_of_le h1 with rfl | h
    · rw [h3, h4, zcnt_congr (p := q) (q := p) (fun i a b => h5 i (by omega))]
      simp only [cond_true, cond_false]; omega
    · rw [zcnt_upd (p := p) (q := q) (m := m) (k := k + 1) h (by omega) h3 h4 h5, h5 k (by omega)]
      omega
def a_asgd (α : Nat → Nat → Int32) (v : Nat) : Bool := decide (¬ α 105 v = 0)
/-- as many are on the trail as have a truth -/
def aI (α : Nat → Nat → Int32) (t : Nat) : Prop := aQ α t ∧ t = zcnt (a_asgd α) 1 30
theorem aI.lt {α : Nat → Nat → Int32} {t v : Nat} (h : aI α t) (h1 : 1 ≤ v) (h2 : v ≤ 30) (h0 : α 105 v = 0) : t < 30 := by
  rw [h.2]
  exact zcnt_lt (j := v) h1 (by omega) (by simp [a_asgd, h0])
theorem a_comes_105 {α : Nat → Nat → Int32} {l w : Int32} (j : Nat) : a_comes α l w 105 j = if j = zv l then (if 0 < l then nI 1 else -1) else α 105 j := by
  unfold a_comes
  rw [zup_p (by decide), zup_p (by decide), zup_p (by decide), zup_p (by decide), zup_p (by decide)]
  unfold zup
  by_cases h : j = zv l <;> simp [h]
theorem aI.comes {α : Nat → Nat → Int32} {t : Nat} {l w : Int32} (h : aI α t) (hl : lok 30 l) (h0 : α 105 (zv l) = 0) : t < 30 ∧ aI (a_comes α l w) (t + 1) := by
  obtain ⟨g1, g2, -⟩ := hl.is (Nat.le_refl _)
  have ht := h.lt g1 g2 h0
  refine ⟨ht, a_comes_Q h.1 ht hl, ?_⟩
  rw [zcnt_upd (p := a_asgd α) (q := a_asgd (a_comes α l w)) (j := zv l) g1 (by omega) (by simp [a_asgd, h0]) ?_ ?_, ← h.2]
  · unfold a_asgd
    rw [a_comes_105, if_pos rfl]
    split <;> decide
  · intro i hi
    unfold a_asgd
    rw [a_comes_105, if_neg hi]
theorem a_tr0 {α : Nat → Nat → Int32} {l : Int32} (h : a_tr α l = 0) : α 105 (zv l) = 0 := by
  unfold a_tr at h
  split at h
  · exact h
  · have := congrArg Neg.neg h
    rw [Int32.neg_neg] at this
    exact this
theorem a_openOne_0 {α : Nat → Nat → Int32} {c : Nat} (hW : aW α) (hc : c < aN α) (ho : a_open α c = 1) : lok 30 (a_openOne α c) ∧ α 105 (zv (a_openOne α c)) = 0 := by
  refine ⟨a_openOne_lok hW hc ho, ?_⟩
  unfold a_openOne
  cases h : zfind (fun k => decide (a_tr α (aL α c k) = 0)) 0 (aS α c) with
  | none =>
    have := zopn_z (t := fun k => a_tr α (aL α c k)) (m := aS α c) (k := 0) (n := 0) (fun j a b => by simpa using zfind_none h j a b)
    unfold a_open at ho
    omega
  | some k =>
    obtain ⟨h1, h2, h3, h4⟩ := zfind_some h
    exact a_tr0 (by simpa using h3)
theorem a_comes_at {α : Nat → Nat → Int32} {l w : Int32} {p i : Nat} (h : ¬ (105 ≤ p ∧ p ≤ 109) ∧ ¬ (p = 100 ∧ i = 10)) : a_comes α l w p i = α p i := by
  unfold a_comes zup
  rw [if_neg (by omega), if_neg (by omega), if_neg (by omega), if_neg (by omega), if_neg (by omega), if_neg (by omega)]
theorem a_comes_W {α : Nat → Nat → Int32} {l w : Int32} (h : aW α) : aW (a_comes α l w) := by
  have e : a_comes α l w 101 = α 101 := by funext i; exact a_comes_at (by omega)
  unfold aW aV aN aS aL at *
  rw [e]
  exact h
theorem a_emp_at {α : Nat → Nat → Int32} {p i : Nat} (h : ¬ p = 105 ∧ ¬ (p = 100 ∧ (i = 10 ∨ i = 11))) : a_emp α p i = α p i := by
  unfold a_emp a_empL
  rw [(zit_off (L := [105]) (fun v a => zup a 105 v (nI 0)) (fun k a => zoff.rf.up (by decide)) 31 0 _).at (by simp; exact h.1)]
  unfold zup
  rw [if_neg (by omega), if_neg (by omega)]
theorem a_empL_105 : ∀ m v α j, v ≤ j → j < v + m → a_empL v m α 105 j = 0
  | 0, v, α, j, h1, h2 => by omega
  | m + 1, v, α, j, h1, h2 => by
    show a_empL (v + 1) m (zup α 105 v (nI 0)) 105 j = 0
    rcases Nat.eq_or_lt_of_le h1 with rfl | h
    · have keep : ∀ m w a, v < w → a_empL w m a 105 v = a 105 v := by
        intro m
        induction m with
        | zero => intro w a _; rfl
        | succ m ih => intro w a hw; show a_empL (w + 1) m (zup a 105 w (nI 0)) 105 v = _; rw [ih (w + 1) _ (by omega), zup_i (by omega)]
      rw [keep m (v + 1) _ (by omega), zup_same]; rfl
    · exact a_empL_105 m (v + 1) _ j h (by omega)
theorem a_emp_I (α : Nat → Nat → Int32) : aI (a_emp α) 0 := by
  refine ⟨⟨?_, by omega, fun i hi => by omega⟩, ?_⟩
  · unfold a_emp a_empL
    rw [(zit_off (L := [105]) (fun v a => zup a 105 v (nI 0)) (fun k a => zoff.rf.up (by decide)) 31 0 _).at (by decide), zup_i (by decide), zup_same]
  · refine (zcnt_zero.mpr (fun j h1 h2 => ?_)).symm
    unfold a_asgd a_emp
    rw [a_empL_105 31 0 _ j (by omega) (by omega)]
    rfl
theorem a_emp_W {α : Nat → Nat → Int32} (h : aW α) : aW (a_emp α) := by
  have e : a_emp α 101 = α 101 := by funext i; exact a_emp_at (by omega)
  unfold aW aV aN aS aL at *
  rw [e]
  exact h
def a_foL : Nat → Bool → (Nat → Nat → Int32) → Bool × (Nat → Nat → Int32)
  | 0, b, α => (b, α)
  | n + 1, b, α => match a_first α 1 with
    | none => (b, α)
    | some c => a_foL n (b || (a_first (a_comes α (a_openOne α c) (nI c)) 0).isSome) (a_comes α (a_openOne α c) (nI c))
def a_follows (α : Nat → Nat → Int32) (i : Int32) : Int32 × (Nat → Nat → Int32) :=
  if -1 ≤ i then
    (if i = -1 then (if (a_foL 31 (a_first (a_emp (a0 α)) 0).isSome (a_emp (a0 α))).1 = true then nI 100 else (a_foL 31 (a_first (a_emp (a0 α)) 0).isSome (a_emp (a0 α))).2 100 10)
     else if i < (a_foL 31 (a_first (a_emp (a0 α)) 0).isSome (a_emp (a0 α))).2 100 10 then (a_foL 31 (a_first (a_emp (a0 α)) 0).isSome (a_emp (a0 α))).2 109 i.toNatClampNeg else nI 0,
     (a_foL 31 (a_first (a_emp (a0 α)) 0).isSome (a_emp (a0 α))).2)
  else (nI 0, a0 α)
section M24
variable {E : zEnv} {κ α : Nat → Nat → Int32} {τ : (Nat → Nat → Int64) × (Nat → Nat)}
theorem l_follows (d : Nat) {i : Int32} (P : Option Value → zMem → Prop) : ∀ n t b α, t + n = 31 → aI α t → aW α → (∀ b' β t' c', (b', β) = a_foL n b α → aI β t' → zX E (d + 4) mX9_follows 80 [some (.ref 100), some (.int i), some (.int (zbo b')), some c'] [] (κ, β, τ) P) → zX E (d + 4) mX9_follows 37 [some (.ref 100), some (.int i), some (.int (zbo b)), some (.int (zon (a_first α 1)))] [] (κ, α, τ) P := by
  intro n
  induction n with
  | zero =>
    intro t b α ht hI hW K
    have := hI.1.2.1
    omega
  | succ n ih =>
    intro t b α ht hI hW K
    have hn4 := hW.n400
    cases h1 : a_first α 1 with
    | none =>
      have e : a_foL (n + 1) b α = (b, α) := by rw [a_foL, h1]
      refine x_iload_n (pc := 37) 3 dX9_follows_37 rfl rfl ?_
      refine x_iconst (pc := 38) (-1) dX9_follows_38 (by decide) ?_
      refine x_icmp_eq_t (pc := 39) 80 dX9_follows_39 (by decide) (rfl) ?_
      exact K b α t _ e.symm hI
    | some c =>
      obtain ⟨hcN, hg, ho, -⟩ := a_first_some h1
      obtain ⟨hl, h0⟩ := a_openOne_0 hW hcN ho
      obtain ⟨ht30, hI2⟩ := hI.comes (w := nI c) hl h0
      have hW2 : aW (a_comes α (a_openOne α c) (nI c)) := a_comes_W hW
      have e : a_foL (n + 1) b α = a_foL n (b || (a_first (a_comes α (a_openOne α c) (nI c)) 0).isSome) (a_comes α (a_openOne α c) (nI c)) := by rw [a_foL, h1]
      rw [e] at K
      rw [show zon (some c) = nI c from rfl]
      refine x_iload_n (pc := 37) 3 dX9_follows_37 rfl rfl ?_
      refine x_iconst (pc := 38) (-1) dX9_follows_38 (by decide) ?_
      refine x_icmp_eq_f (pc := 39) 80 dX9_follows_39 (by decide) (nI_nem1 (by omega)) ?_
      refine x_aload_n (pc := 42) 0 dX9_follows_42 rfl rfl ?_
      refine x_aload_n (pc := 43) 0 dX9_follows_43 rfl rfl ?_
      refine x_iload_n (pc := 44) 3 dX9_follows_44 rfl rfl ?_
      refine x_callV1i (pc := 45) dX9_follows_45 lX9_171 (zat_b rfl rfl) rfl (t_openOne (d + 1) hW hcN) (Nat.le_of_ble_eq_true rfl) (Or.inl zgr) ?_
      refine x_iload_n (pc := 48) 3 dX9_follows_48 rfl rfl ?_
      refine x_callV2v (pc := 49) dX9_follows_49 lX9_135 (zat_b rfl rfl) rfl (t_comes (d + 1) hl hI.1.1 ht30) (Nat.le_of_ble_eq_true rfl) (Or.inl zgr) ?_
      have J : ∀ b', b' = (b || (a_first (a_comes α (a_openOne α c) (nI c)) 0).isSome) → zX E (d + 4) mX9_follows 70 [some (.ref 100), some (.int i), some (.int (zbo b)), some (.int (nI c))] [.int (zbo b')] (κ, a_comes α (a_openOne α c) (nI c), τ) P := by
        intro b' hb'
        refine x_istore_n (pc := 70) 2 dX9_follows_70 rfl (by decide) rfl ?_
        refine x_aload_n (pc := 71) 0 dX9_follows_71 rfl rfl ?_
        refine x_iconst (pc := 72) (nI 1) dX9_follows_72 (by decide) ?_
        refine x_callV1i (pc := 73) dX9_follows_73 lX9_165 (zat_b rfl rfl) rfl (t_firstOf d (b := 1) (by decide) hW2) (Nat.le_of_ble_eq_true rfl) (Or.inl zgr) ?_
        rw [← hb'] at K
        refine x_istore_n (pc := 76) 3 dX9_follows_76 rfl (by decide) rfl ?_
        refine x_goto (pc := 77) 37 dX9_follows_77 (by decide) ?_
        exact ih (t + 1) b' _ (by omega) hI2 hW2 K
      cases b with
      | true =>
        refine x_iload_n (pc := 52) 2 dX9_follows_52 rfl rfl ?_
        refine x_if_ne_t (pc := 53) 65 dX9_follows_53 (by decide) (by decide) ?_
        refine x_iconst (pc := 65) (nI 1) dX9_follows_65 (by decide) ?_
        refine x_goto (pc := 66) 70 dX9_follows_66 (by decide) ?_
        exact J true rfl
      | false =>
        cases hz : a_first (a_comes α (a_openOne α c) (nI c)) 0 with
        | none =>
          refine x_iload_n (pc := 52) 2 dX9_follows_52 rfl rfl ?_
          refine x_if_ne_f (pc := 53) 65 dX9_follows_53 (by decide) (rfl) ?_
          refine x_aload_n (pc := 56) 0 dX9_follows_56 rfl rfl ?_
          refine x_iconst (pc := 57) (nI 0) dX9_follows_57 (by decide) ?_
          refine x_callV1i (pc := 58) dX9_follows_58 lX9_165 (zat_b rfl rfl) rfl (t_firstOf d (b := 0) (by decide) hW2) (Nat.le_of_ble_eq_true rfl) (Or.inl zgr) ?_
          rw [hz]
          refine x_iconst (pc := 61) (-1) dX9_follows_61 (by decide) ?_
          refine x_icmp_eq_t (pc := 62) 69 dX9_follows_62 (by decide) (rfl) ?_
          refine x_iconst (pc := 69) (nI 0) dX9_follows_69 (by decide) ?_
          exact J false (by rw [hz]; rfl)
        | some c0 =>
          have hc0 : c0 < 2 ^ 31 := by
            obtain ⟨q, -⟩ := a_first_some hz
            have := hW2.n400
            omega
          refine x_iload_n (pc := 52) 2 dX9_follows_52 rfl rfl ?_
          refine x_if_ne_f (pc := 53) 65 dX9_follows_53 (by decide) (rfl) ?_
          refine x_aload_n (pc := 56) 0 dX9_follows_56 rfl rfl ?_
          refine x_iconst (pc := 57) (nI 0) dX9_follows_57 (by decide) ?_
          refine x_callV1i (pc := 58) dX9_follows_58 lX9_165 (zat_b rfl rfl) rfl (t_firstOf d (b := 0) (by decide) hW2) (Nat.le_of_ble_eq_true rfl) (Or.inl zgr) ?_
          rw [hz]
          refine x_iconst (pc := 61) (-1) dX9_follows_61 (by decide) ?_
          refine x_icmp_eq_f (pc := 62) 69 dX9_follows_62 (by decide) (nI_nem1 hc0) ?_
          refine x_iconst (pc := 65) (nI 1) dX9_follows_65 (by decide) ?_
          refine x_goto (pc := 66) 70 dX9_follows_66 (by decide) ?_
          exact J true (by rw [hz]; rfl)
theorem t_follows (d : Nat) (i : Int32) (hW : aW α) : zTr E (d + 4) mX9_follows [.ref 100, .int i] (κ, α, τ) (some (.int (a_follows α i).1)) (κ, (a_follows α i).2, τ) := by
  have hW0 : aW (a_emp (a0 α)) := a_emp_W (hW.off a0_off (by decide))
  refine zM.tr (zM_of [some (.ref 100), some (.int i), none, none] (by decide) rfl (Nat.le_of_ble_eq_true rfl) ?_)
  unfold a_follows
  by_cases hi : -1 ≤ i
  · rw [if_pos hi]
    refine x_aload_n (pc := 0) 0 dX9_follows_0 rfl rfl ?_
    refine x_iconst (pc := 1) (nI 0) dX9_follows_1 (by decide) ?_
    refine x_puti_h (pc := 2) dX9_follows_2 pX9_63 (zat_b rfl rfl) rfl rfl ?_
    refine x_iload_n (pc := 5) 1 dX9_follows_5 rfl rfl ?_
    refine x_iconst (pc := 6) (-1) dX9_follows_6 (by decide) ?_
    refine x_icmp_ge_t (pc := 7) 12 dX9_follows_7 (by decide) (hi) ?_
    refine x_aload_n (pc := 12) 0 dX9_follows_12 rfl rfl ?_
    refine x_callV0v (pc := 13) dX9_follows_13 lX9_183 (zat_b rfl rfl) rfl (t_empties (d + 2)) (Nat.le_of_ble_eq_true rfl) (Or.inl zgr) ?_
    show zX E (d + 4) mX9_follows 16 _ [] (κ, a_emp (a0 α), τ) _
    have J : zX E (d + 4) mX9_follows 30 [some (.ref 100), some (.int i), none, none] [.int (zbo (a_first (a_emp (a0 α)) 0).isSome)] (κ, a_emp (a0 α), τ) (fun a m => a = some (.int (if i = -1 then (if (a_foL 31 (a_first (a_emp (a0 α)) 0).isSome (a_emp (a0 α))).1 = true then nI 100 else (a_foL 31 (a_first (a_emp (a0 α)) 0).isSome (a_emp (a0 α))).2 100 10) else if i < (a_foL 31 (a_first (a_emp (a0 α)) 0).isSome (a_emp (a0 α))).2 100 10 then (a_foL 31 (a_first (a_emp (a0 α)) 0).isSome (a_emp (a0 α))).2 109 i.toNatClampNeg else nI 0)) ∧ m = (κ, (a_foL 31 (a_first (a_emp (a0 α)) 0).isSome (a_emp (a0 α))).2, τ)) := by
      refine x_istore_n (pc := 30) 2 dX9_follows_30 rfl (by decide) rfl ?_
      refine x_aload_n (pc := 31) 0 dX9_follows_31 rfl rfl ?_
      refine x_iconst (pc := 32) (nI 1) dX9_follows_32 (by decide) ?_
      refine x_callV1i (pc := 33) dX9_follows_33 lX9_165 (zat_b rfl rfl) rfl (t_firstOf d (b := 1) (by decide) hW0) (Nat.le_of_ble_eq_true rfl) (Or.inl zgr) ?_
      refine x_istore_n (pc := 36) 3 dX9_follows_36 rfl (by decide) rfl ?_
      refine l_follows d _ 31 0 (a_first (a_emp (a0 α)) 0).isSome (a_emp (a0 α)) (by omega) (a_emp_I _) hW0 (fun b' β t' c' he hI => ?_)
      generalize a_foL 31 (a_first (a_emp (a0 α)) 0).isSome (a_emp (a0 α)) = x at he ⊢
      subst he
      dsimp only
      by_cases h1 : i = -1
      · rw [if_pos h1]
        cases b' with
        | true =>
          rw [if_pos rfl]
          refine x_iload_n (pc := 80) 1 dX9_follows_80 rfl rfl ?_
          refine x_iconst (pc := 81) (-1) dX9_follows_81 (by decide) ?_
          refine x_icmp_ne_f (pc := 82) 101 dX9_follows_82 (by decide) (h1) ?_
          refine x_iload_n (pc := 85) 2 dX9_follows_85 rfl rfl ?_
          refine x_if_eq_f (pc := 86) 94 dX9_follows_86 (by decide) (by decide) ?_
          refine x_bipush (pc := 89) (nI 100) dX9_follows_89 (by decide) ?_
          refine x_goto (pc := 91) 119 dX9_follows_91 (by decide) ?_
          refine x_iret (pc := 119) dX9_follows_119 rfl ?_
          exact ⟨rfl, rfl⟩
        | false =>
          rw [if_neg (by decide)]
          refine x_iload_n (pc := 80) 1 dX9_follows_80 rfl rfl ?_
          refine x_iconst (pc := 81) (-1) dX9_follows_81 (by decide) ?_
          refine x_icmp_ne_f (pc := 82) 101 dX9_follows_82 (by decide) (h1) ?_
          refine x_iload_n (pc := 85) 2 dX9_follows_85 rfl rfl ?_
          refine x_if_eq_t (pc := 86) 94 dX9_follows_86 (by decide) (rfl) ?_
          refine x_aload_n (pc := 94) 0 dX9_follows_94 rfl rfl ?_
          refine x_geti_h (pc := 95) dX9_follows_95 fX9_102 (zat_b rfl rfl) rfl rfl ?_
          refine x_goto (pc := 98) 119 dX9_follows_98 (by decide) ?_
          refine x_iret (pc := 119) dX9_follows_119 rfl ?_
          exact ⟨rfl, rfl⟩
      · rw [if_neg h1]
        obtain ⟨j, hj, rfl⟩ : ∃ j : Nat, j < 2 ^ 31 ∧ i = nI j := nI_of (fun q => by
          have q1 := Int32.lt_iff_toInt_lt.mp q
          have q2 := Int32.le_iff_toInt_le.mp hi
          rw [show (0 : Int32).toInt = 0 from rfl] at q1
          rw [show (-1 : Int32).toInt = -1 from rfl] at q2
          exact h1 (Int32.toInt_inj.mp (by rw [show (-1 : Int32).toInt = -1 from rfl]; omega)))
        rw [nI_clamp hj]
        by_cases h2 : nI j < β 100 10
        · rw [if_pos h2]
          have hjt : j < t' := (nI_ltI hj (by have := hI.1.2.1; omega)).mp (by rw [← hI.1.1]; exact h2)
          have ht := hI.1.2.1
          refine x_iload_n (pc := 80) 1 dX9_follows_80 rfl rfl ?_
          refine x_iconst (pc := 81) (-1) dX9_follows_81 (by decide) ?_
          refine x_icmp_ne_t (pc := 82) 101 dX9_follows_82 (by decide) (h1) ?_
          refine x_iload_n (pc := 101) 1 dX9_follows_101 rfl rfl ?_
          refine x_aload_n (pc := 102) 0 dX9_follows_102 rfl rfl ?_
          refine x_geti_h (pc := 103) dX9_follows_103 fX9_102 (zat_b rfl rfl) rfl rfl ?_
          refine x_icmp_ge_f (pc := 106) 118 dX9_follows_106 (by decide) (Int32.not_le.mpr h2) ?_
          refine x_aload_n (pc := 109) 0 dX9_follows_109 rfl rfl ?_
          refine x_getr (pc := 110) (109) dX9_follows_110 fX9_35 (zat_b rfl rfl) rfl ?_
          refine x_iload_n (pc := 113) 1 dX9_follows_113 rfl rfl ?_
          have hj114 : j < 30 := by omega
          refine x_iald_h (pc := 114) (j) dX9_follows_114 (zar_b rfl rfl rfl) rfl (by first | rfl | simp only [pk_mul, nI_add] | simp only [zon, pk_mul, nI_add]) hj114 (Nat.lt_of_lt_of_le hj114 (by decide)) ?_
          refine x_goto (pc := 115) 119 dX9_follows_115 (by decide) ?_
          refine x_iret (pc := 119) dX9_follows_119 rfl ?_
          exact ⟨rfl, rfl⟩
        · rw [if_neg h2]
          refine x_iload_n (pc := 80) 1 dX9_follows_80 rfl rfl ?_
          refine x_iconst (pc := 81) (-1) dX9_follows_81 (by decide) ?_
          refine x_icmp_ne_t (pc := 82) 101 dX9_follows_82 (by decide) (h1) ?_
          refine x_iload_n (pc := 101) 1 dX9_follows_101 rfl rfl ?_
          refine x_aload_n (pc := 102) 0 dX9_follows_102 rfl rfl ?_
          refine x_geti_h (pc := 103) dX9_follows_103 fX9_102 (zat_b rfl rfl) rfl rfl ?_
          refine x_icmp_ge_t (pc := 106) 118 dX9_follows_106 (by decide) (Int32.not_lt.mp h2) ?_
          refine x_iconst (pc := 118) (nI 0) dX9_follows_118 (by decide) ?_
          refine x_iret (pc := 119) dX9_follows_119 rfl ?_
          exact ⟨rfl, rfl⟩
    cases hz : a_first (a_emp (a0 α)) 0 with
    | none =>
      rw [hz] at J
      refine x_aload_n (pc := 16) 0 dX9_follows_16 rfl rfl ?_
      refine x_iconst (pc := 17) (nI 0) dX9_follows_17 (by decide) ?_
      refine x_callV1i (pc := 18) dX9_follows_18 lX9_165 (zat_b rfl rfl) rfl (t_firstOf d (b := 0) (by decide) hW0) (Nat.le_of_ble_eq_true rfl) (Or.inl zgr) ?_
      rw [hz]
      refine x_iconst (pc := 21) (-1) dX9_follows_21 (by decide) ?_
      refine x_icmp_eq_t (pc := 22) 29 dX9_follows_22 (by decide) (rfl) ?_
      refine x_iconst (pc := 29) (nI 0) dX9_follows_29 (by decide) ?_
      exact J
    | some c0 =>
      have hc0 : c0 < 2 ^ 31 := by
        obtain ⟨q, -⟩ := a_first_some hz
        have := hW0.n400
        omega
      rw [hz] at J
      refine x_aload_n (pc := 16) 0 dX9_follows_16 rfl rfl ?_
      refine x_iconst (pc := 17) (nI 0) dX9_follows_17 (by decide) ?_
      refine x_callV1i (pc := 18) dX9_follows_18 lX9_165 (zat_b rfl rfl) rfl (t_firstOf d (b := 0) (by decide) hW0) (Nat.le_of_ble_eq_true rfl) (Or.inl zgr) ?_
      rw [hz]
      refine x_iconst (pc := 21) (-1) dX9_follows_21 (by decide) ?_
      refine x_icmp_eq_f (pc := 22) 29 dX9_follows_22 (by decide) (nI_nem1 hc0) ?_
      refine x_iconst (pc := 25) (nI 1) dX9_follows_25 (by decide) ?_
      refine x_goto (pc := 26) 30 dX9_follows_26 (by decide) ?_
      exact J
  · rw [if_neg hi]
    refine x_aload_n (pc := 0) 0 dX9_follows_0 rfl rfl ?_
    refine x_iconst (pc := 1) (nI 0) dX9_follows_1 (by decide) ?_
    refine x_puti_h (pc := 2) dX9_follows_2 pX9_63 (zat_b rfl rfl) rfl rfl ?_
    refine x_iload_n (pc := 5) 1 dX9_follows_5 rfl rfl ?_
    refine x_iconst (pc := 6) (-1) dX9_follows_6 (by decide) ?_
    refine x_icmp_ge_f (pc := 7) 12 dX9_follows_7 (by decide) (hi) ?_
    refine x_iconst (pc := 10) (nI 0) dX9_follows_10 (by decide) ?_
    refine x_iret (pc := 11) dX9_follows_11 rfl ?_
    exact ⟨rfl, rfl⟩
end M24
