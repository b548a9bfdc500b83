/-! the reference: assumptions and clauses of a text -/
theorem a_ro1_f {α : Nat → Nat → Int32} {n : Nat} {f : Bool} (h : aWR α) (hz : a_ro1 α n f 100 25 = 0) : a_lit α true f 100 25 = 0 ∧ f = false := by
  have h1 : a_lit α true f 100 25 = 0 := by
    by_cases q : a_lit α true f 100 25 = 0
    · exact q
    · unfold a_ro1 at hz; rw [if_neg q] at hz; exact hz
  exact ⟨h1, (a_litV_lok h.1 h.hp h.2.2.1 h.2.2.2 h1).1⟩
section M21
variable {E : zEnv} {κ α : Nat → Nat → Int32} {τ : (Nat → Nat → Int64) × (Nat → Nat)}
theorem l_asL (d : Nat) (P : Option Value → zMem → Prop) : ∀ m n α, n + m = 10 → n ≤ 9 → (n = 9 → ¬ α 100 25 = 0) → aWR α → (∀ k β w, (k, β) = a_roL false false m n α → aWR β → k ≤ 9 → (β 100 25 = 0 → k ≤ 8) → zX E (d + 5) mX9_assumeTold 57 [some (.ref 100), some (.int (nI k)), w] [] (κ, β, τ) P) → ∀ w, zX E (d + 5) mX9_assumeTold 6 [some (.ref 100), some (.int (nI n)), w] [] (κ, α, τ) P := by
  intro m
  induction m with
  | zero => intro n α h1 h2; omega
  | succ m ih =>
    intro n α h1 h2 h3 hR K w
    by_cases hf : α 100 25 = 0
    · have hn8 : n ≤ 8 := by
        rcases Nat.lt_or_ge n 9 with q | q
        · omega
        · exact absurd hf (h3 (by omega))
      by_cases hl : a_isl α = true
      · have e : a_roL false false (m + 1) n α = a_roL false false m (n + 1) (a_ro1 (a_here α) n (false || Nat.beq n 8)) := by rw [a_roL, if_pos hf, if_neg (fun q => by cases q.1), if_pos hl]
        rw [e] at K
        have hRh := hR.here
        refine x_aload_n (pc := 6) 0 dX9_assumeTold_6 rfl rfl ?_
        refine x_geti_h (pc := 7) dX9_assumeTold_7 fX9_220 (zat_b rfl rfl) rfl rfl ?_
        refine x_if_ne_f (pc := 10) 57 dX9_assumeTold_10 (by decide) (hf) ?_
        refine x_aload_n (pc := 13) 0 dX9_assumeTold_13 rfl rfl ?_
        refine x_callV0i (pc := 14) dX9_assumeTold_14 lX9_258 (zat_b rfl rfl) rfl (t_isLit (d + 1) hR.1) (Nat.le_of_ble_eq_true rfl) (Or.inl zgr) ?_
        show zX E (d + 5) mX9_assumeTold 17 _ [.int (zbo (a_isl α))] _ _
        rw [hl]
        have J : zX E (d + 5) mX9_assumeTold 33 [some (.ref 100), some (.int (nI n)), w] [.int (zbo (Nat.beq n 8)), .int (nI 1), .ref 100] (κ, a_here α, τ) P := by
          refine x_callV2i (pc := 33) dX9_assumeTold_33 lX9_229 (zat_b rfl rfl) rfl (t_lit d true (Nat.beq n 8) hRh.1 hRh.hp hRh.2.2.1 hRh.2.2.2) (Nat.le_of_ble_eq_true rfl) (Or.inl zgr) ?_
          refine x_istore_n (pc := 36) 2 dX9_assumeTold_36 rfl (by decide) rfl ?_
          refine x_aload_n (pc := 37) 0 dX9_assumeTold_37 rfl rfl ?_
          refine x_geti_h (pc := 38) dX9_assumeTold_38 fX9_220 (zat_b rfl rfl) rfl rfl ?_
          have hnext : ∀ w', zX E (d + 5) mX9_assumeTold 6 [some (.ref 100), some (.int (nI (n + 1))), w'] [] (κ, a_ro1 (a_here α) n (Nat.beq n 8), τ) P := by
            refine ih (n + 1) _ (by omega) (by omega) (fun q hz => ?_) hRh.ro1 K
            have hb := (a_ro1_f hRh hz).2
            rw [show n = 8 by omega] at hb
            cases hb
          by_cases hg : a_lit (a_here α) true (Nat.beq n 8) 100 25 = 0
          · have e2 : a_ro1 (a_here α) n (Nat.beq n 8) = zup (a_lit (a_here α) true (Nat.beq n 8)) 127 n (a_litV (a_here α) true (Nat.beq n 8)) := by unfold a_ro1; rw [if_pos hg]
            rw [e2] at hnext
            have hn7 : n < 8 := by
              rcases Nat.lt_or_ge n 8 with q | q
              · exact q
              · have hb := (a_litV_lok hRh.1 hRh.hp hRh.2.2.1 hRh.2.2.2 hg).1
                rw [show n = 8 by omega] at hb
                cases hb
            refine x_if_ne_f (pc := 41) 51 dX9_assumeTold_41 (by decide) (hg) ?_
            refine x_aload_n (pc := 44) 0 dX9_assumeTold_44 rfl rfl ?_
            refine x_getr (pc := 45) (127) dX9_assumeTold_45 fX9_60 (zat_b rfl rfl) rfl ?_
            refine x_iload_n (pc := 48) 1 dX9_assumeTold_48 rfl rfl ?_
            refine x_iload_n (pc := 49) 2 dX9_assumeTold_49 rfl rfl ?_
            have hj50 : n < 8 := by omega
            refine x_iast_h (pc := 50) (n) dX9_assumeTold_50 (zar_b rfl rfl rfl) rfl (by first | rfl | simp only [pk_mul, nI_add] | simp only [zon, pk_mul, nI_add]) hj50 (Nat.lt_of_lt_of_le hj50 (by decide)) ?_
            refine x_iinc (pc := 51) (nI (n + 1)) dX9_assumeTold_51 rfl (zinc _) (by decide) rfl ?_
            refine x_goto (pc := 54) 6 dX9_assumeTold_54 (by decide) ?_
            exact hnext _
          · have e2 : a_ro1 (a_here α) n (Nat.beq n 8) = a_lit (a_here α) true (Nat.beq n 8) := by unfold a_ro1; rw [if_neg hg]
            rw [e2] at hnext
            refine x_if_ne_t (pc := 41) 51 dX9_assumeTold_41 (by decide) (hg) ?_
            refine x_iinc (pc := 51) (nI (n + 1)) dX9_assumeTold_51 rfl (zinc _) (by decide) rfl ?_
            refine x_goto (pc := 54) 6 dX9_assumeTold_54 (by decide) ?_
            exact hnext _
        by_cases h8 : n = 8
        · subst h8
          refine x_if_eq_f (pc := 17) 57 dX9_assumeTold_17 (by decide) (by decide) ?_
          refine x_aload_n (pc := 20) 0 dX9_assumeTold_20 rfl rfl ?_
          refine x_iconst (pc := 21) (nI 1) dX9_assumeTold_21 (by decide) ?_
          refine x_iload_n (pc := 22) 1 dX9_assumeTold_22 rfl rfl ?_
          refine x_bipush (pc := 23) (nI 8) dX9_assumeTold_23 (by decide) ?_
          refine x_icmp_ne_f (pc := 25) 32 dX9_assumeTold_25 (by decide) (rfl) ?_
          refine x_iconst (pc := 28) (nI 1) dX9_assumeTold_28 (by decide) ?_
          refine x_goto (pc := 29) 33 dX9_assumeTold_29 (by decide) ?_
          exact J
        · have hb : Nat.beq n 8 = false := by
            cases q : Nat.beq n 8 with
            | false => rfl
            | true => exact absurd (Nat.eq_of_beq_eq_true q) h8
          rw [hb] at J
          refine x_if_eq_f (pc := 17) 57 dX9_assumeTold_17 (by decide) (by decide) ?_
          refine x_aload_n (pc := 20) 0 dX9_assumeTold_20 rfl rfl ?_
          refine x_iconst (pc := 21) (nI 1) dX9_assumeTold_21 (by decide) ?_
          refine x_iload_n (pc := 22) 1 dX9_assumeTold_22 rfl rfl ?_
          refine x_bipush (pc := 23) (nI 8) dX9_assumeTold_23 (by decide) ?_
          refine x_icmp_ne_t (pc := 25) 32 dX9_assumeTold_25 (by decide) (fun q => h8 ((nI_eq (by omega) (by decide)).mp q)) ?_
          refine x_iconst (pc := 32) (nI 0) dX9_assumeTold_32 (by decide) ?_
          exact J
      · have e : a_roL false false (m + 1) n α = (n, a_here α) := by rw [a_roL, if_pos hf, if_neg (fun q => by cases q.1), if_neg hl]
        refine x_aload_n (pc := 6) 0 dX9_assumeTold_6 rfl rfl ?_
        refine x_geti_h (pc := 7) dX9_assumeTold_7 fX9_220 (zat_b rfl rfl) rfl rfl ?_
        refine x_if_ne_f (pc := 10) 57 dX9_assumeTold_10 (by decide) (hf) ?_
        refine x_aload_n (pc := 13) 0 dX9_assumeTold_13 rfl rfl ?_
        refine x_callV0i (pc := 14) dX9_assumeTold_14 lX9_258 (zat_b rfl rfl) rfl (t_isLit (d + 1) hR.1) (Nat.le_of_ble_eq_true rfl) (Or.inl zgr) ?_
        show zX E (d + 5) mX9_assumeTold 17 _ [.int (zbo (a_isl α))] _ _
        rw [zbf hl]
        refine x_if_eq_t (pc := 17) 57 dX9_assumeTold_17 (by decide) (rfl) ?_
        exact K n (a_here α) _ e.symm hR.here h2 (fun _ => hn8)
    · have e : a_roL false false (m + 1) n α = (n, α) := by rw [a_roL, if_neg hf]
      refine x_aload_n (pc := 6) 0 dX9_assumeTold_6 rfl rfl ?_
      refine x_geti_h (pc := 7) dX9_assumeTold_7 fX9_220 (zat_b rfl rfl) rfl rfl ?_
      refine x_if_ne_t (pc := 10) 57 dX9_assumeTold_10 (by decide) (hf) ?_
      exact K n α _ e.symm hR h2 (fun q => absurd q hf)
def a_asT (α : Nat → Nat → Int32) : Nat → Nat → Int32 :=
  if a_endS (a_roL false false 10 0 (a_clTold α)).2 100 25 = 0 then zit (a_cpF 16) 0 (a_roL false false 10 0 (a_clTold α)).1 (zup (a_endS (a_roL false false 10 0 (a_clTold α)).2) 101 3 (nI (a_roL false false 10 0 (a_clTold α)).1)) else a_endS (a_roL false false 10 0 (a_clTold α)).2
theorem l_asC (d : Nat) {n : Nat} (hn : n ≤ 8) : ∀ m k β, k + m = n → zX E d mX9_assumeTold 78 [some (.ref 100), some (.int (nI n)), some (.int (nI k))] [] (κ, β, τ) (fun r ν => r = none ∧ ν = (κ, zit (a_cpF 16) k m β, τ)) := by
  intro m
  induction m with
  | zero =>
    intro k β hk
    refine x_iload_n (pc := 78) 2 dX9_assumeTold_78 rfl rfl ?_
    refine x_iload_n (pc := 79) 1 dX9_assumeTold_79 rfl rfl ?_
    refine x_icmp_ge_t (pc := 80) 104 dX9_assumeTold_80 (by decide) (nI_le (by omega) (by omega)) ?_
    refine x_vret (pc := 104) dX9_assumeTold_104 rfl ?_
    exact ⟨rfl, rfl⟩
  | succ m ih =>
    intro k β hk
    refine x_iload_n (pc := 78) 2 dX9_assumeTold_78 rfl rfl ?_
    refine x_iload_n (pc := 79) 1 dX9_assumeTold_79 rfl rfl ?_
    refine x_icmp_ge_f (pc := 80) 104 dX9_assumeTold_80 (by decide) (nI_ge (by omega) (by omega)) ?_
    refine x_aload_n (pc := 83) 0 dX9_assumeTold_83 rfl rfl ?_
    refine x_getr (pc := 84) (101) dX9_assumeTold_84 fX9_7 (zat_b rfl rfl) rfl ?_
    refine x_bipush (pc := 87) (nI 16) dX9_assumeTold_87 (by decide) ?_
    refine x_iload_n (pc := 89) 2 dX9_assumeTold_89 rfl rfl ?_
    refine x_iadd (pc := 90) dX9_assumeTold_90 ?_
    refine x_aload_n (pc := 91) 0 dX9_assumeTold_91 rfl rfl ?_
    refine x_getr (pc := 92) (127) dX9_assumeTold_92 fX9_60 (zat_b rfl rfl) rfl ?_
    refine x_iload_n (pc := 95) 2 dX9_assumeTold_95 rfl rfl ?_
    have hj96 : k < 8 := by omega
    refine x_iald_h (pc := 96) (k) dX9_assumeTold_96 (zar_b rfl rfl rfl) rfl (by first | rfl | simp only [pk_mul, nI_add] | simp only [zon, pk_mul, nI_add]) hj96 (Nat.lt_of_lt_of_le hj96 (by decide)) ?_
    have hj97 : 16 + k < 13326 := by omega
    refine x_iast_h (pc := 97) (16 + k) dX9_assumeTold_97 (zar_b rfl rfl rfl) rfl (by first | rfl | simp only [pk_mul, nI_add] | simp only [zon, pk_mul, nI_add]) hj97 (Nat.lt_of_lt_of_le hj97 (by decide)) ?_
    refine x_iinc (pc := 98) (nI (k + 1)) dX9_assumeTold_98 rfl (zinc _) (by decide) rfl ?_
    refine x_goto (pc := 101) 78 dX9_assumeTold_101 (by decide) ?_
    exact ih (k + 1) _ (by omega)
theorem a_clTold_off : zoff [126] α (a_clTold α) := zit_off _ (fun k a => zoff.rf.up (by decide)) _ _ _
theorem aWR.off {L : List Nat} {β : Nat → Nat → Int32} (h : aWR α) (ho : zoff L α β) (h1 : 100 ∉ L) (h2 : 101 ∉ L) : aWR β := by
  obtain ⟨⟨a, b, c, e⟩, p, v, w⟩ := h
  have e1 := ho 100 h1
  have e2 := ho 101 h2
  unfold aWR aWT aPl aLen aV at *
  rw [e1, e2]
  exact ⟨⟨a, b, c, e⟩, p, v, w⟩
theorem a_endS_f {β : Nat → Nat → Int32} (h : a_endS β 100 25 = 0) (hT : aWT β) : β 100 25 = 0 ∧ a_chr β = nI 59 := by
  have hw := (a_hp_le hT).1
  by_cases hf : β 100 25 = 0
  · refine ⟨hf, ?_⟩
    by_cases hc : a_chr β = nI 59
    · exact hc
    · exfalso
      unfold a_endS at h
      rw [if_pos hf, if_neg hc, zup_i (by decide)] at h
      unfold a_fails at h
      rw [a_here_at (Or.inr (by decide)), if_pos hf, zup_same, pk_mul, nI_add] at h
      exact nI_ne0 (by omega) (by omega) h
  · unfold a_endS at h
    rw [if_neg hf, zup_i (by decide)] at h
    exact absurd h hf
theorem t_assumeTold (d : Nat) (hR : aWR α) : zTr E (d + 5) mX9_assumeTold [.ref 100] (κ, α, τ) none (κ, a_asT α, τ) := by
  refine zM.tr (zM_of [some (.ref 100), none, none] (by decide) rfl (Nat.le_of_ble_eq_true rfl) ?_)
  have hRc := hR.off a_clTold_off (by decide) (by decide)
  by_cases h0 : a_clTold α 100 25 = 0 ∨ True
  ·
    refine x_aload_n (pc := 0) 0 dX9_assumeTold_0 rfl rfl ?_
    refine x_callV0v (pc := 1) dX9_assumeTold_1 lX9_226 (zat_b rfl rfl) rfl (t_clearsTold (d + 3)) (Nat.le_of_ble_eq_true rfl) (Or.inl zgr) ?_
    refine x_iconst (pc := 4) (nI 0) dX9_assumeTold_4 (by decide) ?_
    refine x_istore_n (pc := 5) 1 dX9_assumeTold_5 rfl (by decide) rfl ?_
    refine l_asL d _ 10 0 (a_clTold α) (by omega) (by omega) (by omega) hRc (fun k β w he hRb hk9 hk8 => ?_) _
    unfold a_asT
    rw [← he]
    dsimp only
    refine x_aload_n (pc := 57) 0 dX9_assumeTold_57 rfl rfl ?_
    refine x_callV0v (pc := 58) dX9_assumeTold_58 lX9_261 (zat_b rfl rfl) rfl (t_endsStatement (d + 2) hRb.1) (Nat.le_of_ble_eq_true rfl) (Or.inl zgr) ?_
    refine x_aload_n (pc := 61) 0 dX9_assumeTold_61 rfl rfl ?_
    refine x_geti_h (pc := 62) dX9_assumeTold_62 fX9_220 (zat_b rfl rfl) rfl rfl ?_
    by_cases hf : a_endS β 100 25 = 0
    · rw [if_pos hf]
      have hk := hk8 (a_endS_f hf hRb.1).1
      refine x_if_eq_t (pc := 65) 69 dX9_assumeTold_65 (by decide) (hf) ?_
      refine x_aload_n (pc := 69) 0 dX9_assumeTold_69 rfl rfl ?_
      refine x_getr (pc := 70) (101) dX9_assumeTold_70 fX9_7 (zat_b rfl rfl) rfl ?_
      refine x_iconst (pc := 73) (nI 3) dX9_assumeTold_73 (by decide) ?_
      refine x_iload_n (pc := 74) 1 dX9_assumeTold_74 rfl rfl ?_
      have hj75 : 3 < 13326 := by omega
      refine x_iast_h (pc := 75) (3) dX9_assumeTold_75 (zar_b rfl rfl rfl) rfl (by first | rfl | simp only [pk_mul, nI_add] | simp only [zon, pk_mul, nI_add]) hj75 (Nat.lt_of_lt_of_le hj75 (by decide)) ?_
      refine x_iconst (pc := 76) (nI 0) dX9_assumeTold_76 (by decide) ?_
      refine x_istore_n (pc := 77) 2 dX9_assumeTold_77 rfl (by decide) rfl ?_
      exact l_asC (d + 5) hk k 0 _ (by omega)
    · rw [if_neg hf]
      refine x_if_eq_f (pc := 65) 69 dX9_assumeTold_65 (by decide) (hf) ?_
      refine x_vret (pc := 68) dX9_assumeTold_68 rfl ?_
      exact ⟨rfl, rfl⟩
  · exact absurd (Or.inr trivial) h0
/-- is there no room for a told clause -/
def a_full (α : Nat → Nat → Int32) : Bool := !(decide (α 101 2 < nI 80) && decide (α 101 1 < nI 400))
theorem l_clL (d : Nat) (full : Bool) (P : Option Value → zMem → Prop) : ∀ m n α, n + m = 10 → n ≤ 9 → (n = 9 → ¬ α 100 25 = 0) → (α 100 25 = 0 → 1 ≤ n → full = false) → aWR α → (∀ k β w, (k, β) = a_roL true full m n α → aWR β → k ≤ 9 → (β 100 25 = 0 → k ≤ 8 ∧ (1 ≤ k → full = false)) → zX E (d + 5) mX9_clauseTold 78 [some (.ref 100), some (.int (zbo full)), some (.int (nI k)), w, none] [] (κ, β, τ) P) → ∀ w, zX E (d + 5) mX9_clauseTold 19 [some (.ref 100), some (.int (zbo full)), some (.int (nI n)), w, none] [] (κ, α, τ) P := by
  intro m
  induction m with
  | zero => intro n α h1 h2; omega
  | succ m ih =>
    intro n α h1 h2 h3 h4 hR K w
    by_cases hf : α 100 25 = 0
    · have hn8 : n ≤ 8 := by
        rcases Nat.lt_or_ge n 9 with q | q
        · omega
        · exact absurd hf (h3 (by omega))
      have body : ∀ β : Nat → Nat → Int32, aWR β → (∀ k β' w, (k, β') = a_roL true full m (n + 1) (a_ro1 β n (full || Nat.beq n 8)) → aWR β' → k ≤ 9 → (β' 100 25 = 0 → k ≤ 8 ∧ (1 ≤ k → full = false)) → zX E (d + 5) mX9_clauseTold 78 [some (.ref 100), some (.int (zbo full)), some (.int (nI k)), w, none] [] (κ, β', τ) P) → zX E (d + 5) mX9_clauseTold 37 [some (.ref 100), some (.int (zbo full)), some (.int (nI n)), w, none] [] (κ, β, τ) P := by
        intro β hRb K2
        have hnext : ∀ w', zX E (d + 5) mX9_clauseTold 19 [some (.ref 100), some (.int (zbo full)), some (.int (nI (n + 1))), w', none] [] (κ, a_ro1 β n (full || Nat.beq n 8), τ) P := by
          refine ih (n + 1) _ (by omega) (by omega) (fun q hz => ?_) (fun hz _ => ?_) hRb.ro1 K2
          · have hb := (a_ro1_f hRb hz).2
            rw [show n = 8 by omega] at hb
            cases full <;> cases hb
          · have hb := (a_ro1_f hRb hz).2
            cases full with
            | false => rfl
            | true => cases hb
        have J : zX E (d + 5) mX9_clauseTold 54 [some (.ref 100), some (.int (zbo full)), some (.int (nI n)), w, none] [.int (zbo (full || Nat.beq n 8)), .int (nI 1), .ref 100] (κ, β, τ) P := by
          refine x_callV2i (pc := 54) dX9_clauseTold_54 lX9_229 (zat_b rfl rfl) rfl (t_lit d true (full || Nat.beq n 8) hRb.1 hRb.hp hRb.2.2.1 hRb.2.2.2) (Nat.le_of_ble_eq_true rfl) (Or.inl zgr) ?_
          refine x_istore_n (pc := 57) 3 dX9_clauseTold_57 rfl (by decide) rfl ?_
          refine x_aload_n (pc := 58) 0 dX9_clauseTold_58 rfl rfl ?_
          refine x_geti_h (pc := 59) dX9_clauseTold_59 fX9_220 (zat_b rfl rfl) rfl rfl ?_
          by_cases hg : a_lit β true (full || Nat.beq n 8) 100 25 = 0
          · have e2 : a_ro1 β n (full || Nat.beq n 8) = zup (a_lit β true (full || Nat.beq n 8)) 127 n (a_litV β true (full || Nat.beq n 8)) := by unfold a_ro1; rw [if_pos hg]
            rw [e2] at hnext
            have hn7 : n < 8 := by
              rcases Nat.lt_or_ge n 8 with q | q
              · exact q
              · have hb := (a_litV_lok hRb.1 hRb.hp hRb.2.2.1 hRb.2.2.2 hg).1
                rw [show n = 8 by omega] at hb
                cases full <;> cases hb
            refine x_if_ne_f (pc := 62) 72 dX9_clauseTold_62 (by decide) (hg) ?_
            refine x_aload_n (pc := 65) 0 dX9_clauseTold_65 rfl rfl ?_
            refine x_getr (pc := 66) (127) dX9_clauseTold_66 fX9_60 (zat_b rfl rfl) rfl ?_
            refine x_iload_n (pc := 69) 2 dX9_clauseTold_69 rfl rfl ?_
            refine x_iload_n (pc := 70) 3 dX9_clauseTold_70 rfl rfl ?_
            have hj71 : n < 8 := by omega
            refine x_iast_h (pc := 71) (n) dX9_clauseTold_71 (zar_b rfl rfl rfl) rfl (by first | rfl | simp only [pk_mul, nI_add] | simp only [zon, pk_mul, nI_add]) hj71 (Nat.lt_of_lt_of_le hj71 (by decide)) ?_
            refine x_iinc (pc := 72) (nI (n + 1)) dX9_clauseTold_72 rfl (zinc _) (by decide) rfl ?_
            refine x_goto (pc := 75) 19 dX9_clauseTold_75 (by decide) ?_
            exact hnext _
          · have e2 : a_ro1 β n (full || Nat.beq n 8) = a_lit β true (full || Nat.beq n 8) := by unfold a_ro1; rw [if_neg hg]
            rw [e2] at hnext
            refine x_if_ne_t (pc := 62) 72 dX9_clauseTold_62 (by decide) (hg) ?_
            refine x_iinc (pc := 72) (nI (n + 1)) dX9_clauseTold_72 rfl (zinc _) (by decide) rfl ?_
            refine x_goto (pc := 75) 19 dX9_clauseTold_75 (by decide) ?_
            exact hnext _
        cases hfu : full with
        | true =>
          rw [hfu] at J
          refine x_aload_n (pc := 37) 0 dX9_clauseTold_37 rfl rfl ?_
          refine x_iconst (pc := 38) (nI 1) dX9_clauseTold_38 (by decide) ?_
          refine x_iload_n (pc := 39) 1 dX9_clauseTold_39 rfl rfl ?_
          refine x_if_ne_t (pc := 40) 49 dX9_clauseTold_40 (by decide) (by decide) ?_
          refine x_iconst (pc := 49) (nI 1) dX9_clauseTold_49 (by decide) ?_
          refine x_goto (pc := 50) 54 dX9_clauseTold_50 (by decide) ?_
          exact J
        | false =>
          rw [hfu] at J
          by_cases h8 : n = 8
          · subst h8
            refine x_aload_n (pc := 37) 0 dX9_clauseTold_37 rfl rfl ?_
            refine x_iconst (pc := 38) (nI 1) dX9_clauseTold_38 (by decide) ?_
            refine x_iload_n (pc := 39) 1 dX9_clauseTold_39 rfl rfl ?_
            refine x_if_ne_f (pc := 40) 49 dX9_clauseTold_40 (by decide) (rfl) ?_
            refine x_iload_n (pc := 43) 2 dX9_clauseTold_43 rfl rfl ?_
            refine x_bipush (pc := 44) (nI 8) dX9_clauseTold_44 (by decide) ?_
            refine x_icmp_ne_f (pc := 46) 53 dX9_clauseTold_46 (by decide) (rfl) ?_
            refine x_iconst (pc := 49) (nI 1) dX9_clauseTold_49 (by decide) ?_
            refine x_goto (pc := 50) 54 dX9_clauseTold_50 (by decide) ?_
            exact J
          · have hb : Nat.beq n 8 = false := by
              cases q : Nat.beq n 8 with
              | false => rfl
              | true => exact absurd (Nat.eq_of_beq_eq_true q) h8
            rw [hb] at J
            refine x_aload_n (pc := 37) 0 dX9_clauseTold_37 rfl rfl ?_
            refine x_iconst (pc := 38) (nI 1) dX9_clauseTold_38 (by decide) ?_
            refine x_iload_n (pc := 39) 1 dX9_clauseTold_39 rfl rfl ?_
            refine x_if_ne_f (pc := 40) 49 dX9_clauseTold_40 (by decide) (rfl) ?_
            refine x_iload_n (pc := 43) 2 dX9_clauseTold_43 rfl rfl ?_
            refine x_bipush (pc := 44) (nI 8) dX9_clauseTold_44 (by decide) ?_
            refine x_icmp_ne_t (pc := 46) 53 dX9_clauseTold_46 (by decide) (fun q => h8 ((nI_eq (by omega) (by decide)).mp q)) ?_
            refine x_iconst (pc := 53) (nI 0) dX9_clauseTold_53 (by decide) ?_
            exact J
      by_cases hn0 : n = 0
      · have e : a_roL true full (m + 1) n α = a_roL true full m (n + 1) (a_ro1 α n (full || Nat.beq n 8)) := by rw [a_roL, if_pos hf, if_pos ⟨rfl, hn0⟩]
        rw [e] at K
        have B := body α hR K
        refine x_aload_n (pc := 19) 0 dX9_clauseTold_19 rfl rfl ?_
        refine x_geti_h (pc := 20) dX9_clauseTold_20 fX9_220 (zat_b rfl rfl) rfl rfl ?_
        refine x_if_ne_f (pc := 23) 78 dX9_clauseTold_23 (by decide) (hf) ?_
        refine x_iload_n (pc := 26) 2 dX9_clauseTold_26 rfl rfl ?_
        refine x_if_eq_t (pc := 27) 37 dX9_clauseTold_27 (by decide) (by rw [hn0]; rfl) ?_
        exact B
      · by_cases hl : a_isl α = true
        · have e : a_roL true full (m + 1) n α = a_roL true full m (n + 1) (a_ro1 (a_here α) n (full || Nat.beq n 8)) := by rw [a_roL, if_pos hf, if_neg (fun q => hn0 q.2), if_pos hl]
          rw [e] at K
          have B := body (a_here α) hR.here K
          refine x_aload_n (pc := 19) 0 dX9_clauseTold_19 rfl rfl ?_
          refine x_geti_h (pc := 20) dX9_clauseTold_20 fX9_220 (zat_b rfl rfl) rfl rfl ?_
          refine x_if_ne_f (pc := 23) 78 dX9_clauseTold_23 (by decide) (hf) ?_
          refine x_iload_n (pc := 26) 2 dX9_clauseTold_26 rfl rfl ?_
          refine x_if_eq_f (pc := 27) 37 dX9_clauseTold_27 (by decide) (nI_ne0 (by omega) (by omega)) ?_
          refine x_aload_n (pc := 30) 0 dX9_clauseTold_30 rfl rfl ?_
          refine x_callV0i (pc := 31) dX9_clauseTold_31 lX9_258 (zat_b rfl rfl) rfl (t_isLit (d + 1) hR.1) (Nat.le_of_ble_eq_true rfl) (Or.inl zgr) ?_
          show zX E (d + 5) mX9_clauseTold 34 _ [.int (zbo (a_isl α))] _ _
          rw [hl]
          refine x_if_eq_f (pc := 34) 78 dX9_clauseTold_34 (by decide) (by decide) ?_
          exact B
        · have e : a_roL true full (m + 1) n α = (n, a_here α) := by rw [a_roL, if_pos hf, if_neg (fun q => hn0 q.2), if_neg hl]
          refine x_aload_n (pc := 19) 0 dX9_clauseTold_19 rfl rfl ?_
          refine x_geti_h (pc := 20) dX9_clauseTold_20 fX9_220 (zat_b rfl rfl) rfl rfl ?_
          refine x_if_ne_f (pc := 23) 78 dX9_clauseTold_23 (by decide) (hf) ?_
          refine x_iload_n (pc := 26) 2 dX9_clauseTold_26 rfl rfl ?_
          refine x_if_eq_f (pc := 27) 37 dX9_clauseTold_27 (by decide) (nI_ne0 (by omega) (by omega)) ?_
          refine x_aload_n (pc := 30) 0 dX9_clauseTold_30 rfl rfl ?_
          refine x_callV0i (pc := 31) dX9_clauseTold_31 lX9_258 (zat_b rfl rfl) rfl (t_isLit (d + 1) hR.1) (Nat.le_of_ble_eq_true rfl) (Or.inl zgr) ?_
          show zX E (d + 5) mX9_clauseTold 34 _ [.int (zbo (a_isl α))] _ _
          rw [zbf hl]
          refine x_if_eq_t (pc := 34) 78 dX9_clauseTold_34 (by decide) (rfl) ?_
          exact K n (a_here α) _ e.symm hR.here h2 (fun _ => ⟨hn8, fun q => h4 hf q⟩)
    · have e : a_roL true full (m + 1) n α = (n, α) := by rw [a_roL, if_neg hf]
      refine x_aload_n (pc := 19) 0 dX9_clauseTold_19 rfl rfl ?_
      refine x_geti_h (pc := 20) dX9_clauseTold_20 fX9_220 (zat_b rfl rfl) rfl rfl ?_
      refine x_if_ne_t (pc := 23) 78 dX9_clauseTold_23 (by decide) (hf) ?_
      exact K n α _ e.symm hR h2 (fun q => absurd q hf)
def a_clT (α : Nat → Nat → Int32) : Nat → Nat → Int32 :=
  if a_endS (a_roL true (a_full α) 10 0 (a_clTold α)).2 100 25 = 0 then zit (a_cpF (1326 + 30 * aN α)) 0 (a_roL true (a_full α) 10 0 (a_clTold α)).1 (a_begins (a_endS (a_roL true (a_full α) 10 0 (a_clTold α)).2) (nI 0) (nI (a_roL true (a_full α) 10 0 (a_clTold α)).1)) else a_endS (a_roL true (a_full α) 10 0 (a_clTold α)).2
theorem l_clC (d : Nat) {n c : Nat} {f : Bool} (hn : n ≤ 8) (hc : c < 400) : ∀ m k β, k + m = n → zX E d mX9_clauseTold 100 [some (.ref 100), some (.int (zbo f)), some (.int (nI n)), some (.int (nI c)), some (.int (nI k))] [] (κ, β, τ) (fun r ν => r = none ∧ ν = (κ, zit (a_cpF (1326 + 30 * c)) k m β, τ)) := by
  intro m
  induction m with
  | zero =>
    intro k β hk
    refine x_iload (pc := 100) dX9_clauseTold_100 rfl ?_
    refine x_iload_n (pc := 102) 2 dX9_clauseTold_102 rfl rfl ?_
    refine x_icmp_ge_t (pc := 103) 135 dX9_clauseTold_103 (by decide) (nI_le (by omega) (by omega)) ?_
    refine x_vret (pc := 135) dX9_clauseTold_135 rfl ?_
    exact ⟨rfl, rfl⟩
  | succ m ih =>
    intro k β hk
    refine x_iload (pc := 100) dX9_clauseTold_100 rfl ?_
    refine x_iload_n (pc := 102) 2 dX9_clauseTold_102 rfl rfl ?_
    refine x_icmp_ge_f (pc := 103) 135 dX9_clauseTold_103 (by decide) (nI_ge (by omega) (by omega)) ?_
    refine x_aload_n (pc := 106) 0 dX9_clauseTold_106 rfl rfl ?_
    refine x_getr (pc := 107) (101) dX9_clauseTold_107 fX9_7 (zat_b rfl rfl) rfl ?_
    refine x_sipush (pc := 110) (nI 1326) dX9_clauseTold_110 (by decide) ?_
    refine x_bipush (pc := 113) (nI 30) dX9_clauseTold_113 (by decide) ?_
    refine x_iload_n (pc := 115) 3 dX9_clauseTold_115 rfl rfl ?_
    refine x_imul (pc := 116) dX9_clauseTold_116 ?_
    refine x_iadd (pc := 117) dX9_clauseTold_117 ?_
    refine x_iload (pc := 118) dX9_clauseTold_118 rfl ?_
    refine x_iadd (pc := 120) dX9_clauseTold_120 ?_
    refine x_aload_n (pc := 121) 0 dX9_clauseTold_121 rfl rfl ?_
    refine x_getr (pc := 122) (127) dX9_clauseTold_122 fX9_60 (zat_b rfl rfl) rfl ?_
    refine x_iload (pc := 125) dX9_clauseTold_125 rfl ?_
    have hj127 : k < 8 := by omega
    refine x_iald_h (pc := 127) (k) dX9_clauseTold_127 (zar_b rfl rfl rfl) rfl (by first | rfl | simp only [pk_mul, nI_add] | simp only [zon, pk_mul, nI_add]) hj127 (Nat.lt_of_lt_of_le hj127 (by decide)) ?_
    have hj128 : 1326 + 30 * c + k < 13326 := by omega
    refine x_iast_h (pc := 128) (1326 + 30 * c + k) dX9_clauseTold_128 (zar_b rfl rfl rfl) rfl (by first | rfl | simp only [pk_mul, nI_add] | simp only [zon, pk_mul, nI_add]) hj128 (Nat.lt_of_lt_of_le hj128 (by decide)) ?_
    refine x_iinc (pc := 129) (nI (k + 1)) dX9_clauseTold_129 rfl (zinc _) (by decide) rfl ?_
    refine x_goto (pc := 132) 100 dX9_clauseTold_132 (by decide) ?_
    exact ih (k + 1) _ (by omega)
/-- a text's reading leaves the row as it was -/
theorem a_ro1_at {n : Nat} {f : Bool} {p i : Nat} (h : ¬ p = 126 ∧ ¬ p = 127 ∧ (¬ p = 100 ∨ (¬ i = 24 ∧ ¬ i = 25))) : a_ro1 α n f p i = α p i := by
  unfold a_ro1
  split
  · rw [zup_p h.2.1, a_lit_at ⟨h.1, h.2.2⟩]
  · exact a_lit_at ⟨h.1, h.2.2⟩
theorem a_roL_at {must full : Bool} {p i : Nat} (h : ¬ p = 126 ∧ ¬ p = 127 ∧ (¬ p = 100 ∨ (¬ i = 24 ∧ ¬ i = 25))) : ∀ m n α, (a_roL must full m n α).2 p i = α p i := by
  intro m
  induction m with
  | zero => intro n α; rfl
  | succ m ih =>
    intro n α
    have hh : a_here α p i = α p i := a_here_at (h.2.2.elim Or.inl (fun q => Or.inr q.1))
    unfold a_roL
    split
    · split
      · rw [ih, a_ro1_at h]
      · split
        · rw [ih, a_ro1_at h, hh]
        · exact hh
    · rfl
theorem a_endS_at {p i : Nat} (h : ¬ p = 100 ∨ (¬ i = 24 ∧ ¬ i = 25)) : a_endS α p i = α p i := by
  have h1 : ¬ p = 100 ∨ ¬ i = 24 := h.elim Or.inl (fun q => Or.inr q.1)
  have h2 : ¬ p = 100 ∨ ¬ i = 25 := h.elim Or.inl (fun q => Or.inr q.2)
  have e : ∀ β : Nat → Nat → Int32, ∀ v, zup β 100 24 v p i = β p i := fun β v => by unfold zup; rw [if_neg (fun q => h1.elim (fun z => z q.1) (fun z => z q.2))]
  unfold a_endS
  split
  · split
    · exact e _ _
    · rw [e, a_fails_at h2, a_here_at h1]
  · exact e _ _
theorem t_clauseTold (d : Nat) (hR : aWR α) (hN : α 101 1 = nI (aN α)) (hN4 : aN α ≤ 400) (hnz : (a_roL true (a_full α) 10 0 (a_clTold α)).1 = 0 → ¬ a_endS (a_roL true (a_full α) 10 0 (a_clTold α)).2 100 25 = 0) : zTr E (d + 5) mX9_clauseTold [.ref 100] (κ, α, τ) none (κ, a_clT α, τ) := by
  refine zM.tr (zM_of [some (.ref 100), none, none, none, none] (by decide) rfl (Nat.le_of_ble_eq_true rfl) ?_)
  have hRc := hR.off a_clTold_off (by decide) (by decide)
  have z : ∀ i, a_clTold α 101 i = α 101 i := fun i => a_clTold_off.at (by decide) i
  have K : ∀ w, zX E (d + 5) mX9_clauseTold 19 [some (.ref 100), some (.int (zbo (a_full α))), some (.int (nI 0)), w, none] [] (κ, a_clTold α, τ) (fun a m => a = none ∧ m = (κ, a_clT α, τ)) := by
    refine l_clL d (a_full α) _ 10 0 (a_clTold α) (by omega) (by omega) (by omega) (by omega) hRc (fun k β w he hRb hk9 hk8 => ?_)
    have hrow : ∀ i, a_endS β 101 i = α 101 i := fun i => by
      rw [a_endS_at (Or.inl (by decide)), show β = (a_roL true (a_full α) 10 0 (a_clTold α)).2 from congrArg Prod.snd he, a_roL_at ⟨by decide, by decide, Or.inl (by decide)⟩, z]
    unfold a_clT
    rw [← he] at hnz ⊢
    dsimp only at hnz ⊢
    refine x_aload_n (pc := 78) 0 dX9_clauseTold_78 rfl rfl ?_
    refine x_callV0v (pc := 79) dX9_clauseTold_79 lX9_261 (zat_b rfl rfl) rfl (t_endsStatement (d + 2) hRb.1) (Nat.le_of_ble_eq_true rfl) (Or.inl zgr) ?_
    refine x_aload_n (pc := 82) 0 dX9_clauseTold_82 rfl rfl ?_
    refine x_geti_h (pc := 83) dX9_clauseTold_83 fX9_220 (zat_b rfl rfl) rfl rfl ?_
    by_cases hf : a_endS β 100 25 = 0
    · rw [if_pos hf]
      obtain ⟨hk, hfu⟩ := hk8 (a_endS_f hf hRb.1).1
      have hfu2 : a_full α = false := hfu (by
        rcases Nat.eq_zero_or_pos k with q | q
        · exact absurd hf (hnz q)
        · exact q)
      have hlt : aN α < 400 := by
        unfold a_full at hfu2
        simp only [Bool.not_eq_false', Bool.and_eq_true, decide_eq_true_eq] at hfu2
        have := hfu2.2
        rw [hN] at this
        exact (nI_ltI (by omega) (by decide)).mp this
      have hN' : aN (a_endS β) = aN α := by unfold aN; rw [hrow]
      refine x_if_eq_t (pc := 86) 90 dX9_clauseTold_86 (by decide) (hf) ?_
      refine x_aload_n (pc := 90) 0 dX9_clauseTold_90 rfl rfl ?_
      refine x_iconst (pc := 91) (nI 0) dX9_clauseTold_91 (by decide) ?_
      refine x_iload_n (pc := 92) 2 dX9_clauseTold_92 rfl rfl ?_
      refine x_callV2i (pc := 93) dX9_clauseTold_93 lX9_89 (zat_b rfl rfl) rfl (t_begins (d + 3) (nI 0) (nI k) (by rw [hrow, hN']; exact hN) (by rw [hN']; exact hlt)) (Nat.le_of_ble_eq_true rfl) (Or.inl zgr) ?_
      rw [hN']
      refine x_istore_n (pc := 96) 3 dX9_clauseTold_96 rfl (by decide) rfl ?_
      refine x_iconst (pc := 97) (nI 0) dX9_clauseTold_97 (by decide) ?_
      refine x_istore (pc := 98) dX9_clauseTold_98 (by decide) rfl ?_
      exact l_clC (d + 5) hk hlt k 0 _ (by omega)
    · rw [if_neg hf]
      refine x_if_eq_f (pc := 86) 90 dX9_clauseTold_86 (by decide) (hf) ?_
      refine x_vret (pc := 89) dX9_clauseTold_89 rfl ?_
      exact ⟨rfl, rfl⟩
  refine x_aload_n (pc := 0) 0 dX9_clauseTold_0 rfl rfl ?_
  refine x_callV0v (pc := 1) dX9_clauseTold_1 lX9_226 (zat_b rfl rfl) rfl (t_clearsTold (d + 3)) (Nat.le_of_ble_eq_true rfl) (Or.inl zgr) ?_
  refine x_aload_n (pc := 4) 0 dX9_clauseTold_4 rfl rfl ?_
  refine x_callV0i (pc := 5) dX9_clauseTold_5 lX9_85 (zat_b rfl rfl) rfl (t_isRoom (d + 3)) (Nat.le_of_ble_eq_true rfl) (Or.inl zgr) ?_
  rw [z, z]
  cases hb : (decide (α 101 2 < nI 80) && decide (α 101 1 < nI 400)) with
  | true =>
    have e : a_full α = false := by unfold a_full; rw [hb]; rfl
    rw [e] at K
    refine x_if_ne_t (pc := 8) 15 dX9_clauseTold_8 (by decide) (by decide) ?_
    refine x_iconst (pc := 15) (nI 0) dX9_clauseTold_15 (by decide) ?_
    refine x_istore_n (pc := 16) 1 dX9_clauseTold_16 rfl (by decide) rfl ?_
    refine x_iconst (pc := 17) (nI 0) dX9_clauseTold_17 (by decide) ?_
    refine x_istore_n (pc := 18) 2 dX9_clauseTold_18 rfl (by decide) rfl ?_
    exact K _
  | false =>
    have e : a_full α = true := by unfold a_full; rw [hb]; rfl
    rw [e] at K
    refine x_if_ne_f (pc := 8) 15 dX9_clauseTold_8 (by decide) (rfl) ?_
    refine x_iconst (pc := 11) (nI 1) dX9_clauseTold_11 (by decide) ?_
    refine x_goto (pc := 12) 16 dX9_clauseTold_12 (by decide) ?_
    refine x_istore_n (pc := 16) 1 dX9_clauseTold_16 rfl (by decide) rfl ?_
    refine x_iconst (pc := 17) (nI 0) dX9_clauseTold_17 (by decide) ?_
    refine x_istore_n (pc := 18) 2 dX9_clauseTold_18 rfl (by decide) rfl ?_
    exact K _
end M21
