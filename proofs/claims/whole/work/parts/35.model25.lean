/-! the reference: isRefused, proof -/
section M26
variable {E : zEnv} {κ α : Nat → Nat → Int32} {τ : (Nat → Nat → Int64) × (Nat → Nat)}
theorem a_how_lt (n : Nat) : a_how n ≤ 2 := by unfold a_how; split; omega; split <;> omega
theorem a_how2 {n : Nat} : a_how n = 2 ↔ n = 0 := by unfold a_how; split; simp_all; split <;> simp_all
theorem a_how1 {n : Nat} : Nat.beq (a_how n) 1 = Nat.beq n 1 := by
  unfold a_how
  split
  · rename_i h; rw [h]; rfl
  · split
    · rename_i h; rw [h]
    · rename_i h h1
      cases hq : Nat.beq n 1 with
      | false => rfl
      | true => exact absurd (Nat.eq_of_beq_eq_true hq) h1
theorem l_rCJ (d : Nat) {L R : Int32} {mo : Bool} {k h : Nat} {w5 : Option Value} (hh : h ≤ 1) (P : Option Value → zMem → Prop) (β : Nat → Nat → Int32) (K : ∀ w', zX E d mX9_isRefused 11 [some (.ref 100), some (.int L), some (.int R), some (.int (zbo (mo || Nat.beq h 1))), some (.int (nI (k + 1))), w'] [] (κ, β, τ) P) : zX E d mX9_isRefused 41 [some (.ref 100), some (.int L), some (.int R), some (.int (zbo mo)), some (.int (nI k)), w5] [.int (nI h)] (κ, β, τ) P := by
  have n2 : ¬ nI h = nI 2 := fun q => by have := (nI_eq (by omega) (by decide)).mp q; omega
  cases mo with
  | true =>
    refine x_istore (pc := 41) dX9_isRefused_41 (by decide) rfl ?_
    refine x_iload (pc := 43) dX9_isRefused_43 rfl ?_
    refine x_iconst (pc := 45) (nI 2) dX9_isRefused_45 (by decide) ?_
    refine x_icmp_ne_t (pc := 46) 51 dX9_isRefused_46 (by decide) (n2) ?_
    refine x_iload_n (pc := 51) 3 dX9_isRefused_51 rfl rfl ?_
    refine x_if_ne_t (pc := 52) 61 dX9_isRefused_52 (by decide) (by decide) ?_
    refine x_iconst (pc := 61) (nI 1) dX9_isRefused_61 (by decide) ?_
    refine x_goto (pc := 62) 66 dX9_isRefused_62 (by decide) ?_
    refine x_istore_n (pc := 66) 3 dX9_isRefused_66 rfl (by decide) rfl ?_
    refine x_iinc (pc := 67) (nI (k + 1)) dX9_isRefused_67 rfl (zinc _) (by decide) rfl ?_
    refine x_goto (pc := 70) 11 dX9_isRefused_70 (by decide) ?_
    exact K _
  | false =>
    have hq : h = 0 ∨ h = 1 := by omega
    rcases hq with rfl | rfl
    ·
      refine x_istore (pc := 41) dX9_isRefused_41 (by decide) rfl ?_
      refine x_iload (pc := 43) dX9_isRefused_43 rfl ?_
      refine x_iconst (pc := 45) (nI 2) dX9_isRefused_45 (by decide) ?_
      refine x_icmp_ne_t (pc := 46) 51 dX9_isRefused_46 (by decide) (n2) ?_
      refine x_iload_n (pc := 51) 3 dX9_isRefused_51 rfl rfl ?_
      refine x_if_ne_f (pc := 52) 61 dX9_isRefused_52 (by decide) (rfl) ?_
      refine x_iload (pc := 55) dX9_isRefused_55 rfl ?_
      refine x_iconst (pc := 57) (nI 1) dX9_isRefused_57 (by decide) ?_
      refine x_icmp_ne_t (pc := 58) 65 dX9_isRefused_58 (by decide) (by decide) ?_
      refine x_iconst (pc := 65) (nI 0) dX9_isRefused_65 (by decide) ?_
      refine x_istore_n (pc := 66) 3 dX9_isRefused_66 rfl (by decide) rfl ?_
      refine x_iinc (pc := 67) (nI (k + 1)) dX9_isRefused_67 rfl (zinc _) (by decide) rfl ?_
      refine x_goto (pc := 70) 11 dX9_isRefused_70 (by decide) ?_
      exact K _
    ·
      refine x_istore (pc := 41) dX9_isRefused_41 (by decide) rfl ?_
      refine x_iload (pc := 43) dX9_isRefused_43 rfl ?_
      refine x_iconst (pc := 45) (nI 2) dX9_isRefused_45 (by decide) ?_
      refine x_icmp_ne_t (pc := 46) 51 dX9_isRefused_46 (by decide) (n2) ?_
      refine x_iload_n (pc := 51) 3 dX9_isRefused_51 rfl rfl ?_
      refine x_if_ne_f (pc := 52) 61 dX9_isRefused_52 (by decide) (rfl) ?_
      refine x_iload (pc := 55) dX9_isRefused_55 rfl ?_
      refine x_iconst (pc := 57) (nI 1) dX9_isRefused_57 (by decide) ?_
      refine x_icmp_ne_f (pc := 58) 65 dX9_isRefused_58 (by decide) (rfl) ?_
      refine x_iconst (pc := 61) (nI 1) dX9_isRefused_61 (by decide) ?_
      refine x_goto (pc := 62) 66 dX9_isRefused_62 (by decide) ?_
      refine x_istore_n (pc := 66) 3 dX9_isRefused_66 rfl (by decide) rfl ?_
      refine x_iinc (pc := 67) (nI (k + 1)) dX9_isRefused_67 rfl (zinc _) (by decide) rfl ?_
      refine x_goto (pc := 70) 11 dX9_isRefused_70 (by decide) ?_
      exact K _
theorem l_rC2 (d : Nat) {L R : Int32} {mo : Bool} {k : Nat} {w5 : Option Value} (P : Option Value → zMem → Prop) (β : Nat → Nat → Int32) (K : P (some (.int (nI 1))) (κ, β, τ)) : zX E d mX9_isRefused 41 [some (.ref 100), some (.int L), some (.int R), some (.int (zbo mo)), some (.int (nI k)), w5] [.int (nI 2)] (κ, β, τ) P := by
  refine x_istore (pc := 41) dX9_isRefused_41 (by decide) rfl ?_
  refine x_iload (pc := 43) dX9_isRefused_43 rfl ?_
  refine x_iconst (pc := 45) (nI 2) dX9_isRefused_45 (by decide) ?_
  refine x_icmp_ne_f (pc := 46) 51 dX9_isRefused_46 (by decide) (rfl) ?_
  refine x_iconst (pc := 49) (nI 1) dX9_isRefused_49 (by decide) ?_
  refine x_zret (pc := 50) dX9_isRefused_50 rfl (by decide) ?_
  exact K
theorem l_rLJ (d : Nat) {L R : Int32} {mo : Bool} {k h : Nat} {w5 : Option Value} (hh : h ≤ 1) (P : Option Value → zMem → Prop) (β : Nat → Nat → Int32) (K : ∀ w', zX E d mX9_isRefused 76 [some (.ref 100), some (.int L), some (.int R), some (.int (zbo (mo || Nat.beq h 1))), some (.int (nI (k + 1))), w'] [] (κ, β, τ) P) : zX E d mX9_isRefused 116 [some (.ref 100), some (.int L), some (.int R), some (.int (zbo mo)), some (.int (nI k)), w5] [.int (nI h)] (κ, β, τ) P := by
  have n2 : ¬ nI h = nI 2 := fun q => by have := (nI_eq (by omega) (by decide)).mp q; omega
  cases mo with
  | true =>
    refine x_istore (pc := 116) dX9_isRefused_116 (by decide) rfl ?_
    refine x_iload (pc := 118) dX9_isRefused_118 rfl ?_
    refine x_iconst (pc := 120) (nI 2) dX9_isRefused_120 (by decide) ?_
    refine x_icmp_ne_t (pc := 121) 126 dX9_isRefused_121 (by decide) (n2) ?_
    refine x_iload_n (pc := 126) 3 dX9_isRefused_126 rfl rfl ?_
    refine x_if_ne_t (pc := 127) 136 dX9_isRefused_127 (by decide) (by decide) ?_
    refine x_iconst (pc := 136) (nI 1) dX9_isRefused_136 (by decide) ?_
    refine x_goto (pc := 137) 141 dX9_isRefused_137 (by decide) ?_
    refine x_istore_n (pc := 141) 3 dX9_isRefused_141 rfl (by decide) rfl ?_
    refine x_iinc (pc := 142) (nI (k + 1)) dX9_isRefused_142 rfl (zinc _) (by decide) rfl ?_
    refine x_goto (pc := 145) 76 dX9_isRefused_145 (by decide) ?_
    exact K _
  | false =>
    have hq : h = 0 ∨ h = 1 := by omega
    rcases hq with rfl | rfl
    ·
      refine x_istore (pc := 116) dX9_isRefused_116 (by decide) rfl ?_
      refine x_iload (pc := 118) dX9_isRefused_118 rfl ?_
      refine x_iconst (pc := 120) (nI 2) dX9_isRefused_120 (by decide) ?_
      refine x_icmp_ne_t (pc := 121) 126 dX9_isRefused_121 (by decide) (n2) ?_
      refine x_iload_n (pc := 126) 3 dX9_isRefused_126 rfl rfl ?_
      refine x_if_ne_f (pc := 127) 136 dX9_isRefused_127 (by decide) (rfl) ?_
      refine x_iload (pc := 130) dX9_isRefused_130 rfl ?_
      refine x_iconst (pc := 132) (nI 1) dX9_isRefused_132 (by decide) ?_
      refine x_icmp_ne_t (pc := 133) 140 dX9_isRefused_133 (by decide) (by decide) ?_
      refine x_iconst (pc := 140) (nI 0) dX9_isRefused_140 (by decide) ?_
      refine x_istore_n (pc := 141) 3 dX9_isRefused_141 rfl (by decide) rfl ?_
      refine x_iinc (pc := 142) (nI (k + 1)) dX9_isRefused_142 rfl (zinc _) (by decide) rfl ?_
      refine x_goto (pc := 145) 76 dX9_isRefused_145 (by decide) ?_
      exact K _
    ·
      refine x_istore (pc := 116) dX9_isRefused_116 (by decide) rfl ?_
      refine x_iload (pc := 118) dX9_isRefused_118 rfl ?_
      refine x_iconst (pc := 120) (nI 2) dX9_isRefused_120 (by decide) ?_
      refine x_icmp_ne_t (pc := 121) 126 dX9_isRefused_121 (by decide) (n2) ?_
      refine x_iload_n (pc := 126) 3 dX9_isRefused_126 rfl rfl ?_
      refine x_if_ne_f (pc := 127) 136 dX9_isRefused_127 (by decide) (rfl) ?_
      refine x_iload (pc := 130) dX9_isRefused_130 rfl ?_
      refine x_iconst (pc := 132) (nI 1) dX9_isRefused_132 (by decide) ?_
      refine x_icmp_ne_f (pc := 133) 140 dX9_isRefused_133 (by decide) (rfl) ?_
      refine x_iconst (pc := 136) (nI 1) dX9_isRefused_136 (by decide) ?_
      refine x_goto (pc := 137) 141 dX9_isRefused_137 (by decide) ?_
      refine x_istore_n (pc := 141) 3 dX9_isRefused_141 rfl (by decide) rfl ?_
      refine x_iinc (pc := 142) (nI (k + 1)) dX9_isRefused_142 rfl (zinc _) (by decide) rfl ?_
      refine x_goto (pc := 145) 76 dX9_isRefused_145 (by decide) ?_
      exact K _
theorem l_rL2 (d : Nat) {L R : Int32} {mo : Bool} {k : Nat} {w5 : Option Value} (P : Option Value → zMem → Prop) (β : Nat → Nat → Int32) (K : P (some (.int (nI 1))) (κ, β, τ)) : zX E d mX9_isRefused 116 [some (.ref 100), some (.int L), some (.int R), some (.int (zbo mo)), some (.int (nI k)), w5] [.int (nI 2)] (κ, β, τ) P := by
  refine x_istore (pc := 116) dX9_isRefused_116 (by decide) rfl ?_
  refine x_iload (pc := 118) dX9_isRefused_118 rfl ?_
  refine x_iconst (pc := 120) (nI 2) dX9_isRefused_120 (by decide) ?_
  refine x_icmp_ne_f (pc := 121) 126 dX9_isRefused_121 (by decide) (rfl) ?_
  refine x_iconst (pc := 124) (nI 1) dX9_isRefused_124 (by decide) ?_
  refine x_zret (pc := 125) dX9_isRefused_125 rfl (by decide) ?_
  exact K
theorem l_rRJ (d : Nat) {L R : Int32} {mo : Bool} {k h : Nat} {w5 : Option Value} (hh : h ≤ 1) (P : Option Value → zMem → Prop) (β : Nat → Nat → Int32) (K : ∀ w', zX E d mX9_isRefused 151 [some (.ref 100), some (.int L), some (.int R), some (.int (zbo (mo || Nat.beq h 1))), some (.int (nI (k + 1))), w'] [] (κ, β, τ) P) : zX E d mX9_isRefused 163 [some (.ref 100), some (.int L), some (.int R), some (.int (zbo mo)), some (.int (nI k)), w5] [.int (nI h)] (κ, β, τ) P := by
  have n2 : ¬ nI h = nI 2 := fun q => by have := (nI_eq (by omega) (by decide)).mp q; omega
  cases mo with
  | true =>
    refine x_istore (pc := 163) dX9_isRefused_163 (by decide) rfl ?_
    refine x_iload (pc := 165) dX9_isRefused_165 rfl ?_
    refine x_iconst (pc := 167) (nI 2) dX9_isRefused_167 (by decide) ?_
    refine x_icmp_ne_t (pc := 168) 173 dX9_isRefused_168 (by decide) (n2) ?_
    refine x_iload_n (pc := 173) 3 dX9_isRefused_173 rfl rfl ?_
    refine x_if_ne_t (pc := 174) 183 dX9_isRefused_174 (by decide) (by decide) ?_
    refine x_iconst (pc := 183) (nI 1) dX9_isRefused_183 (by decide) ?_
    refine x_goto (pc := 184) 188 dX9_isRefused_184 (by decide) ?_
    refine x_istore_n (pc := 188) 3 dX9_isRefused_188 rfl (by decide) rfl ?_
    refine x_iinc (pc := 189) (nI (k + 1)) dX9_isRefused_189 rfl (zinc _) (by decide) rfl ?_
    refine x_goto (pc := 192) 151 dX9_isRefused_192 (by decide) ?_
    exact K _
  | false =>
    have hq : h = 0 ∨ h = 1 := by omega
    rcases hq with rfl | rfl
    ·
      refine x_istore (pc := 163) dX9_isRefused_163 (by decide) rfl ?_
      refine x_iload (pc := 165) dX9_isRefused_165 rfl ?_
      refine x_iconst (pc := 167) (nI 2) dX9_isRefused_167 (by decide) ?_
      refine x_icmp_ne_t (pc := 168) 173 dX9_isRefused_168 (by decide) (n2) ?_
      refine x_iload_n (pc := 173) 3 dX9_isRefused_173 rfl rfl ?_
      refine x_if_ne_f (pc := 174) 183 dX9_isRefused_174 (by decide) (rfl) ?_
      refine x_iload (pc := 177) dX9_isRefused_177 rfl ?_
      refine x_iconst (pc := 179) (nI 1) dX9_isRefused_179 (by decide) ?_
      refine x_icmp_ne_t (pc := 180) 187 dX9_isRefused_180 (by decide) (by decide) ?_
      refine x_iconst (pc := 187) (nI 0) dX9_isRefused_187 (by decide) ?_
      refine x_istore_n (pc := 188) 3 dX9_isRefused_188 rfl (by decide) rfl ?_
      refine x_iinc (pc := 189) (nI (k + 1)) dX9_isRefused_189 rfl (zinc _) (by decide) rfl ?_
      refine x_goto (pc := 192) 151 dX9_isRefused_192 (by decide) ?_
      exact K _
    ·
      refine x_istore (pc := 163) dX9_isRefused_163 (by decide) rfl ?_
      refine x_iload (pc := 165) dX9_isRefused_165 rfl ?_
      refine x_iconst (pc := 167) (nI 2) dX9_isRefused_167 (by decide) ?_
      refine x_icmp_ne_t (pc := 168) 173 dX9_isRefused_168 (by decide) (n2) ?_
      refine x_iload_n (pc := 173) 3 dX9_isRefused_173 rfl rfl ?_
      refine x_if_ne_f (pc := 174) 183 dX9_isRefused_174 (by decide) (rfl) ?_
      refine x_iload (pc := 177) dX9_isRefused_177 rfl ?_
      refine x_iconst (pc := 179) (nI 1) dX9_isRefused_179 (by decide) ?_
      refine x_icmp_ne_f (pc := 180) 187 dX9_isRefused_180 (by decide) (rfl) ?_
      refine x_iconst (pc := 183) (nI 1) dX9_isRefused_183 (by decide) ?_
      refine x_goto (pc := 184) 188 dX9_isRefused_184 (by decide) ?_
      refine x_istore_n (pc := 188) 3 dX9_isRefused_188 rfl (by decide) rfl ?_
      refine x_iinc (pc := 189) (nI (k + 1)) dX9_isRefused_189 rfl (zinc _) (by decide) rfl ?_
      refine x_goto (pc := 192) 151 dX9_isRefused_192 (by decide) ?_
      exact K _
theorem l_rR2 (d : Nat) {L R : Int32} {mo : Bool} {k : Nat} {w5 : Option Value} (P : Option Value → zMem → Prop) (β : Nat → Nat → Int32) (K : P (some (.int (nI 1))) (κ, β, τ)) : zX E d mX9_isRefused 163 [some (.ref 100), some (.int L), some (.int R), some (.int (zbo mo)), some (.int (nI k)), w5] [.int (nI 2)] (κ, β, τ) P := by
  refine x_istore (pc := 163) dX9_isRefused_163 (by decide) rfl ?_
  refine x_iload (pc := 165) dX9_isRefused_165 rfl ?_
  refine x_iconst (pc := 167) (nI 2) dX9_isRefused_167 (by decide) ?_
  refine x_icmp_ne_f (pc := 168) 173 dX9_isRefused_168 (by decide) (rfl) ?_
  refine x_iconst (pc := 171) (nI 1) dX9_isRefused_171 (by decide) ?_
  refine x_zret (pc := 172) dX9_isRefused_172 rfl (by decide) ?_
  exact K
theorem l_rC (d : Nat) {Ln Rd : Nat} (P : Option Value → zMem → Prop) : ∀ m k mo α t, k + m = aN α → aW α → aI α t → (∀ mo' β t' w w', (false, mo', β) = a_pC m k mo α → aW β → zoff aSc α β → aI β t' → t ≤ t' → (mo' = true → mo = true ∨ t < t') → zX E (d + 4) mX9_isRefused 73 [some (.ref 100), some (.int (nI Ln)), some (.int (nI Rd)), some (.int (zbo mo')), some w, w'] [] (κ, β, τ) P) → (∀ mo' β, (true, mo', β) = a_pC m k mo α → P (some (.int (nI 1))) (κ, β, τ)) → ∀ w5, zX E (d + 4) mX9_isRefused 11 [some (.ref 100), some (.int (nI Ln)), some (.int (nI Rd)), some (.int (zbo mo)), some (.int (nI k)), w5] [] (κ, α, τ) P := by
  intro m
  induction m with
  | zero =>
    intro k mo α t hm hW hI K1 K2 w5
    have hn4 := hW.n400
    refine x_iload (pc := 11) dX9_isRefused_11 rfl ?_
    refine x_aload_n (pc := 13) 0 dX9_isRefused_13 rfl rfl ?_
    refine x_getr (pc := 14) (101) dX9_isRefused_14 fX9_7 (zat_b rfl rfl) rfl ?_
    refine x_iconst (pc := 17) (nI 1) dX9_isRefused_17 (by decide) ?_
    have hj18 : 1 < 13326 := by omega
    refine x_iald_h (pc := 18) (1) dX9_isRefused_18 (zar_b rfl rfl rfl) rfl (by first | rfl | simp only [pk_mul, nI_add] | simp only [zon, pk_mul, nI_add]) hj18 (Nat.lt_of_lt_of_le hj18 (by decide)) ?_
    rw [hW.n]
    refine x_icmp_ge_t (pc := 19) 73 dX9_isRefused_19 (by decide) (nI_le (by omega) (by omega)) ?_
    exact K1 mo α t _ _ rfl hW zoff.rf hI (Nat.le_refl _) Or.inl
  | succ m ih =>
    intro k mo α t hm hW hI K1 K2 w5
    have hn4 := hW.n400
    have hk : k < aN α := by omega
    refine x_iload (pc := 11) dX9_isRefused_11 rfl ?_
    refine x_aload_n (pc := 13) 0 dX9_isRefused_13 rfl rfl ?_
    refine x_getr (pc := 14) (101) dX9_isRefused_14 fX9_7 (zat_b rfl rfl) rfl ?_
    refine x_iconst (pc := 17) (nI 1) dX9_isRefused_17 (by decide) ?_
    have hj18 : 1 < 13326 := by omega
    refine x_iald_h (pc := 18) (1) dX9_isRefused_18 (zar_b rfl rfl rfl) rfl (by first | rfl | simp only [pk_mul, nI_add] | simp only [zon, pk_mul, nI_add]) hj18 (Nat.lt_of_lt_of_le hj18 (by decide)) ?_
    rw [hW.n]
    refine x_icmp_ge_f (pc := 19) 73 dX9_isRefused_19 (by decide) (nI_ge (by omega) (by omega)) ?_
    refine x_aload_n (pc := 22) 0 dX9_isRefused_22 rfl rfl ?_
    refine x_iload (pc := 23) dX9_isRefused_23 rfl ?_
    refine x_callV1i (pc := 25) dX9_isRefused_25 lX9_93 (zat_b rfl rfl) rfl (t_isLearnt (d + 2) k (by omega)) (Nat.le_of_ble_eq_true rfl) (Or.inl zgr) ?_
    cases hl : a_learnt α k with
    | true =>
      have e : a_pC (m + 1) k mo α = a_pC m (k + 1) mo α := by rw [a_pC, if_pos hl]
      rw [e] at K1 K2
      refine x_if_eq_f (pc := 28) 35 dX9_isRefused_28 (by decide) (by decide) ?_
      refine x_iconst (pc := 31) (nI 0) dX9_isRefused_31 (by decide) ?_
      refine x_goto (pc := 32) 41 dX9_isRefused_32 (by decide) ?_
      refine l_rCJ (d + 4) (h := 0) (by omega) P α (fun w' => ?_)
      rw [show (mo || Nat.beq 0 1) = mo by cases mo <;> rfl]
      exact ih (k + 1) mo α t (by omega) hW hI K1 K2 _
    | false =>
      refine x_if_eq_t (pc := 28) 35 dX9_isRefused_28 (by decide) (rfl) ?_
      refine x_aload_n (pc := 35) 0 dX9_isRefused_35 rfl rfl ?_
      refine x_iload (pc := 36) dX9_isRefused_36 rfl ?_
      refine x_callV1i (pc := 38) dX9_isRefused_38 lX9_204 (zat_b rfl rfl) rfl (t_drawsFrom d hW hk hI) (Nat.le_of_ble_eq_true rfl) (Or.inl zgr) ?_
      by_cases h0 : a_open α k = 0
      · have e : a_pC (m + 1) k mo α = (true, mo, α) := by rw [a_pC, if_neg (by rw [hl]; decide), if_pos h0]
        have e2 : a_dF α k = α := by unfold a_dF; rw [if_neg (by omega)]
        rw [h0, show a_how 0 = 2 from rfl, e2]
        exact l_rC2 (d + 4) P α (K2 mo α e.symm)
      · have e : a_pC (m + 1) k mo α = a_pC m (k + 1) (mo || Nat.beq (a_open α k) 1) (a_dF α k) := by rw [a_pC, if_neg (by rw [hl]; decide), if_neg h0]
        rw [e] at K1 K2
        obtain ⟨g1, g2, t2, g3, g4, g5⟩ := a_dF_I hW hk hI
        have hh : a_how (a_open α k) ≤ 1 := by
          have a1 := a_how_lt (a_open α k)
          have a2 : ¬ a_how (a_open α k) = 2 := fun q => h0 (a_how2.mp q)
          omega
        refine l_rCJ (d + 4) hh P _ (fun w' => ?_)
        rw [a_how1]
        refine ih (k + 1) _ _ t2 (by rw [zo_N g2 (by decide)]; omega) g1 g4 (fun mo' β t' w w' he b1 b2 b3 b4 b5 => ?_) K2 _
        refine K1 mo' β t' w w' he b1 (g2.tr b2) b3 (by omega) (fun q => ?_)
        rcases b5 q with b6 | b6
        · cases mo with
          | true => exact Or.inl rfl
          | false => exact Or.inr (by have := g5 (Nat.eq_of_beq_eq_true b6); omega)
        · exact Or.inr (by omega)
theorem l_rL (d : Nat) {Ln Rd : Nat} (hLn : Ln ≤ 401) (P : Option Value → zMem → Prop) : ∀ m k mo α t, k + m = Ln → aW α → (∀ j, j < Ln → α 101 (925 + j) = -1 ∨ ∃ c, c < aN α ∧ α 101 (925 + j) = nI c) → aI α t → (∀ mo' β t' w w', (false, mo', β) = a_pL m k mo α → aW β → zoff aSc α β → aI β t' → t ≤ t' → (mo' = true → mo = true ∨ t < t') → zX E (d + 4) mX9_isRefused 148 [some (.ref 100), some (.int (nI Ln)), some (.int (nI Rd)), some (.int (zbo mo')), some w, w'] [] (κ, β, τ) P) → (∀ mo' β, (true, mo', β) = a_pL m k mo α → P (some (.int (nI 1))) (κ, β, τ)) → ∀ w5, zX E (d + 4) mX9_isRefused 76 [some (.ref 100), some (.int (nI Ln)), some (.int (nI Rd)), some (.int (zbo mo)), some (.int (nI k)), w5] [] (κ, α, τ) P := by
  intro m
  induction m with
  | zero =>
    intro k mo α t hm hW hok hI K1 K2 w5
    refine x_iload (pc := 76) dX9_isRefused_76 rfl ?_
    refine x_iload_n (pc := 78) 1 dX9_isRefused_78 rfl rfl ?_
    refine x_icmp_ge_t (pc := 79) 148 dX9_isRefused_79 (by decide) (nI_le (by omega) (by omega)) ?_
    exact K1 mo α t _ _ rfl hW zoff.rf hI (Nat.le_refl _) Or.inl
  | succ m ih =>
    intro k mo α t hm hW hok hI K1 K2 w5
    have hn4 := hW.n400
    refine x_iload (pc := 76) dX9_isRefused_76 rfl ?_
    refine x_iload_n (pc := 78) 1 dX9_isRefused_78 rfl rfl ?_
    refine x_icmp_ge_f (pc := 79) 148 dX9_isRefused_79 (by decide) (nI_ge (by omega) (by omega)) ?_
    refine x_aload_n (pc := 82) 0 dX9_isRefused_82 rfl rfl ?_
    refine x_getr (pc := 83) (101) dX9_isRefused_83 fX9_7 (zat_b rfl rfl) rfl ?_
    refine x_sipush (pc := 86) (nI 925) dX9_isRefused_86 (by decide) ?_
    refine x_iload (pc := 89) dX9_isRefused_89 rfl ?_
    refine x_iadd (pc := 91) dX9_isRefused_91 ?_
    have hj92 : 925 + k < 13326 := by omega
    refine x_iald_h (pc := 92) (925 + k) dX9_isRefused_92 (zar_b rfl rfl rfl) rfl (by first | rfl | simp only [pk_mul, nI_add] | simp only [zon, pk_mul, nI_add]) hj92 (Nat.lt_of_lt_of_le hj92 (by decide)) ?_
    rcases hok k (by omega) with h | ⟨c, hc, h⟩
    · have e : a_pL (m + 1) k mo α = (true, mo, α) := by rw [a_pL, if_pos h]
      refine x_iconst (pc := 93) (-1) dX9_isRefused_93 (by decide) ?_
      refine x_icmp_ne_f (pc := 94) 101 dX9_isRefused_94 (by decide) (h) ?_
      refine x_iconst (pc := 97) (nI 2) dX9_isRefused_97 (by decide) ?_
      refine x_goto (pc := 98) 116 dX9_isRefused_98 (by decide) ?_
      exact l_rL2 (d + 4) P α (K2 mo α e.symm)
    · have hne : ¬ α 101 (925 + k) = -1 := by rw [h]; exact nI_nem1 (by omega)
      have hcc : (α 101 (925 + k)).toNatClampNeg = c := by rw [h]; exact nI_clamp (by omega)
      refine x_iconst (pc := 93) (-1) dX9_isRefused_93 (by decide) ?_
      refine x_icmp_ne_t (pc := 94) 101 dX9_isRefused_94 (by decide) (hne) ?_
      refine x_aload_n (pc := 101) 0 dX9_isRefused_101 rfl rfl ?_
      refine x_aload_n (pc := 102) 0 dX9_isRefused_102 rfl rfl ?_
      refine x_getr (pc := 103) (101) dX9_isRefused_103 fX9_7 (zat_b rfl rfl) rfl ?_
      refine x_sipush (pc := 106) (nI 925) dX9_isRefused_106 (by decide) ?_
      refine x_iload (pc := 109) dX9_isRefused_109 rfl ?_
      refine x_iadd (pc := 111) dX9_isRefused_111 ?_
      have hj112 : 925 + k < 13326 := by omega
      refine x_iald_h (pc := 112) (925 + k) dX9_isRefused_112 (zar_b rfl rfl rfl) rfl (by first | rfl | simp only [pk_mul, nI_add] | simp only [zon, pk_mul, nI_add]) hj112 (Nat.lt_of_lt_of_le hj112 (by decide)) ?_
      rw [h]
      refine x_callV1i (pc := 113) dX9_isRefused_113 lX9_204 (zat_b rfl rfl) rfl (t_drawsFrom d hW hc hI) (Nat.le_of_ble_eq_true rfl) (Or.inl zgr) ?_
      by_cases h0 : a_open α c = 0
      · have e : a_pL (m + 1) k mo α = (true, mo, α) := by rw [a_pL, if_neg hne, hcc, if_pos h0]
        have e2 : a_dF α c = α := by unfold a_dF; rw [if_neg (by omega)]
        rw [h0, show a_how 0 = 2 from rfl, e2]
        exact l_rL2 (d + 4) P α (K2 mo α e.symm)
      · have e : a_pL (m + 1) k mo α = a_pL m (k + 1) (mo || Nat.beq (a_open α c) 1) (a_dF α c) := by rw [a_pL, if_neg hne, hcc, if_neg h0]
        rw [e] at K1 K2
        obtain ⟨g1, g2, t2, g3, g4, g5⟩ := a_dF_I hW hc hI
        have hh : a_how (a_open α c) ≤ 1 := by
          have a1 := a_how_lt (a_open α c)
          have a2 : ¬ a_how (a_open α c) = 2 := fun q => h0 (a_how2.mp q)
          omega
        refine l_rLJ (d + 4) hh P _ (fun w' => ?_)
        rw [a_how1]
        refine ih (k + 1) _ _ t2 (by omega) g1 (fun j hj => by rw [g2.at (by decide), zo_N g2 (by decide)]; exact hok j hj) g4 (fun mo' β t' w w' he b1 b2 b3 b4 b5 => ?_) K2 _
        refine K1 mo' β t' w w' he b1 (g2.tr b2) b3 (by omega) (fun q => ?_)
        rcases b5 q with b6 | b6
        · cases mo with
          | true => exact Or.inl rfl
          | false => exact Or.inr (by have := g5 (Nat.eq_of_beq_eq_true b6); omega)
        · exact Or.inr (by omega)
theorem l_rR (d : Nat) {Ln Rd R : Nat} (hRd : Rd ≤ R) (P : Option Value → zMem → Prop) : ∀ m k mo α t, k + m = Rd → aW α → aRd α R → aI α t → (∀ mo' β t' w w', (false, mo', β) = a_pR m k mo α → aW β → zoff aSc α β → aI β t' → t ≤ t' → (mo' = true → mo = true ∨ t < t') → zX E (d + 4) mX9_isRefused 195 [some (.ref 100), some (.int (nI Ln)), some (.int (nI Rd)), some (.int (zbo mo')), some w, w'] [] (κ, β, τ) P) → (∀ mo' β, (true, mo', β) = a_pR m k mo α → P (some (.int (nI 1))) (κ, β, τ)) → ∀ w5, zX E (d + 4) mX9_isRefused 151 [some (.ref 100), some (.int (nI Ln)), some (.int (nI Rd)), some (.int (zbo mo)), some (.int (nI k)), w5] [] (κ, α, τ) P := by
  intro m
  induction m with
  | zero =>
    intro k mo α t hm hW hR hI K1 K2 w5
    have h401 := hR.1
    refine x_iload (pc := 151) dX9_isRefused_151 rfl ?_
    refine x_iload_n (pc := 153) 2 dX9_isRefused_153 rfl rfl ?_
    refine x_icmp_ge_t (pc := 154) 195 dX9_isRefused_154 (by decide) (nI_le (by omega) (by omega)) ?_
    exact K1 mo α t _ _ rfl hW zoff.rf hI (Nat.le_refl _) Or.inl
  | succ m ih =>
    intro k mo α t hm hW hR hI K1 K2 w5
    have h401 := hR.1
    have hk : k < R := by omega
    refine x_iload (pc := 151) dX9_isRefused_151 rfl ?_
    refine x_iload_n (pc := 153) 2 dX9_isRefused_153 rfl rfl ?_
    refine x_icmp_ge_f (pc := 154) 195 dX9_isRefused_154 (by decide) (nI_ge (by omega) (by omega)) ?_
    refine x_aload_n (pc := 157) 0 dX9_isRefused_157 rfl rfl ?_
    refine x_iload (pc := 158) dX9_isRefused_158 rfl ?_
    refine x_callV1i (pc := 160) dX9_isRefused_160 lX9_207 (zat_b rfl rfl) rfl (t_drawsRead d hR hk hI) (Nat.le_of_ble_eq_true rfl) (Or.inl zgr) ?_
    have h2 : a_rdH α k ≤ 2 := by unfold a_rdH; split; omega; exact a_how_lt _
    obtain ⟨g1, g2, t2, g3, g4, g5⟩ := a_rdA_I hW hR hk hI
    by_cases h0 : a_rdH α k = 2
    · have e : a_pR (m + 1) k mo α = (true, mo, α) := by rw [a_pR, if_pos h0]
      have e2 : a_rdA α k = α := by
        unfold a_rdA
        rw [if_neg]
        rintro ⟨q1, q2⟩
        unfold a_rdH a_how at h0
        rw [q1, q2] at h0
        simp at h0
      rw [h0, e2]
      exact l_rR2 (d + 4) P α (K2 mo α e.symm)
    · have e : a_pR (m + 1) k mo α = a_pR m (k + 1) (mo || Nat.beq (a_rdH α k) 1) (a_rdA α k) := by rw [a_pR, if_neg h0]
      rw [e] at K1 K2
      refine l_rRJ (d + 4) (by omega) P _ (fun w' => ?_)
      refine ih (k + 1) _ _ t2 (by omega) g1 (hR.off g2 (by decide) (by decide)) g4 (fun mo' β t' w w' he b1 b2 b3 b4 b5 => ?_) K2 _
      refine K1 mo' β t' w w' he b1 (g2.tr b2) b3 (by omega) (fun q => ?_)
      rcases b5 q with b6 | b6
      · cases mo with
        | true => exact Or.inl rfl
        | false => exact Or.inr (by have := g5 (Nat.eq_of_beq_eq_true b6); omega)
      · exact Or.inr (by omega)
/-- passes until nothing more comes: refused or not, the memory -/
def a_rf (Ln Rd : Nat) : Nat → (Nat → Nat → Int32) → Bool × (Nat → Nat → Int32)
  | 0, α => (false, α)
  | n + 1, α => match a_pC (aN α) 0 false α with
    | (true, _, β) => (true, β)
    | (false, mo, β) => match a_pL Ln 0 mo β with
      | (true, _, γ) => (true, γ)
      | (false, mo, γ) => match a_pR Rd 0 mo γ with
        | (true, _, δ) => (true, δ)
        | (false, true, δ) => a_rf Ln Rd n δ
        | (false, false, δ) => (false, δ)
theorem l_rf (d : Nat) {Ln Rd R : Nat} (hLn : Ln ≤ 401) (hRd : Rd ≤ R) : ∀ n α t, 31 ≤ t + n → aW α → (∀ j, j < Ln → α 101 (925 + j) = -1 ∨ ∃ c, c < aN α ∧ α 101 (925 + j) = nI c) → aRd α R → aI α t → ∀ w4 w5, zX E (d + 4) mX9_isRefused 2 [some (.ref 100), some (.int (nI Ln)), some (.int (nI Rd)), some (.int (zbo true)), w4, w5] [] (κ, α, τ) (fun r ν => r = some (.int (zbo (a_rf Ln Rd n α).1)) ∧ ν = (κ, (a_rf Ln Rd n α).2, τ)) := by
  intro n
  induction n with
  | zero =>
    intro α t h hW hok hR hI
    have := hI.1.2.1
    omega
  | succ n ih =>
    intro α t h hW hok hR hI w4 w5
    refine zX.sub (ls' := [some (.ref 100), some (.int (nI Ln)), some (.int (nI Rd)), some (.int (zbo true)), none, none]) (zs1 (zs1 (zs1 (zs1 (zsn (zsn zse)))))) ?_
    refine x_iload_n (pc := 2) 3 dX9_isRefused_2 rfl rfl ?_
    refine x_if_eq_f (pc := 3) 198 dX9_isRefused_3 (by decide) (by decide) ?_
    refine x_iconst (pc := 6) (nI 0) dX9_isRefused_6 (by decide) ?_
    refine x_istore_n (pc := 7) 3 dX9_isRefused_7 rfl (by decide) rfl ?_
    refine x_iconst (pc := 8) (nI 0) dX9_isRefused_8 (by decide) ?_
    refine x_istore (pc := 9) dX9_isRefused_9 (by decide) rfl ?_
    refine l_rC d _ (aN α) 0 false α t (by omega) hW hI (fun mo β t' w w' he b1 b2 b3 b4 b5 => ?_) (fun mo β he => ?_) _
    · refine zX.sub (ls' := [some (.ref 100), some (.int (nI Ln)), some (.int (nI Rd)), some (.int (zbo mo)), none, none]) (zs1 (zs1 (zs1 (zs1 (zsn (zsn zse)))))) ?_
      refine x_iconst (pc := 73) (nI 0) dX9_isRefused_73 (by decide) ?_
      refine x_istore (pc := 74) dX9_isRefused_74 (by decide) rfl ?_
      refine l_rL d hLn _ Ln 0 mo β t' (by omega) b1 (fun j hj => by rw [b2.at (by decide), zo_N b2 (by decide)]; exact hok j hj) b3 (fun mo2 γ t2 w w' he2 c1 c2 c3 c4 c5 => ?_) (fun mo2 γ he2 => ?_) _
      · refine zX.sub (ls' := [some (.ref 100), some (.int (nI Ln)), some (.int (nI Rd)), some (.int (zbo mo2)), none, none]) (zs1 (zs1 (zs1 (zs1 (zsn (zsn zse)))))) ?_
        refine x_iconst (pc := 148) (nI 0) dX9_isRefused_148 (by decide) ?_
        refine x_istore (pc := 149) dX9_isRefused_149 (by decide) rfl ?_
        have o2 := b2.tr c2
        refine l_rR d hRd _ Rd 0 mo2 γ t2 (by omega) c1 (hR.off o2 (by decide) (by decide)) c3 (fun mo3 δ t3 w w' he3 d1 d2 d3 d4 d5 => ?_) (fun mo3 δ he3 => ?_) _
        · have o3 := o2.tr d2
          cases mo3 with
          | true =>
            have e : a_rf Ln Rd (n + 1) α = a_rf Ln Rd n δ := by rw [a_rf, ← he]; dsimp only; rw [← he2]; dsimp only; rw [← he3]
            rw [e]
            have ht : t < t3 := by
              rcases d5 rfl with q | q
              · rcases c5 q with q2 | q2
                · rcases b5 q2 with q3 | q3
                  · cases q3
                  · omega
                · omega
              · omega
            refine x_goto (pc := 195) 2 dX9_isRefused_195 (by decide) ?_
            exact ih δ t3 (by omega) d1 (fun j hj => by rw [o3.at (by decide), zo_N o3 (by decide)]; exact hok j hj) (hR.off o3 (by decide) (by decide)) d3 _ _
          | false =>
            have e : a_rf Ln Rd (n + 1) α = (false, δ) := by rw [a_rf, ← he]; dsimp only; rw [← he2]; dsimp only; rw [← he3]
            rw [e]
            refine x_goto (pc := 195) 2 dX9_isRefused_195 (by decide) ?_
            refine x_iload_n (pc := 2) 3 dX9_isRefused_2 rfl rfl ?_
            refine x_if_eq_t (pc := 3) 198 dX9_isRefused_3 (by decide) (rfl) ?_
            refine x_iconst (pc := 198) (nI 0) dX9_isRefused_198 (by decide) ?_
            refine x_zret (pc := 199) dX9_isRefused_199 rfl (by decide) ?_
            exact ⟨rfl, rfl⟩
        · have e : a_rf Ln Rd (n + 1) α = (true, δ) := by rw [a_rf, ← he]; dsimp only; rw [← he2]; dsimp only; rw [← he3]
          rw [e]
          exact ⟨rfl, rfl⟩
      · have e : a_rf Ln Rd (n + 1) α = (true, γ) := by rw [a_rf, ← he]; dsimp only; rw [← he2]
        rw [e]
        exact ⟨rfl, rfl⟩
    · have e : a_rf Ln Rd (n + 1) α = (true, β) := by rw [a_rf, ← he]
      rw [e]
      exact ⟨rfl, rfl⟩
theorem t_isRefused (d : Nat) {Ln Rd R t : Nat} (hLn : Ln ≤ 401) (hRd : Rd ≤ R) (hW : aW α) (hok : ∀ j, j < Ln → α 101 (925 + j) = -1 ∨ ∃ c, c < aN α ∧ α 101 (925 + j) = nI c) (hR : aRd α R) (hI : aI α t) : zTr E (d + 4) mX9_isRefused [.ref 100, .int (nI Ln), .int (nI Rd)] (κ, α, τ) (some (.int (zbo (a_rf Ln Rd 31 α).1))) (κ, (a_rf Ln Rd 31 α).2, τ) := by
  refine zM.tr (zM_of [some (.ref 100), some (.int (nI Ln)), some (.int (nI Rd)), none, none, none] (by decide) rfl (Nat.le_of_ble_eq_true rfl) ?_)
  refine x_iconst (pc := 0) (nI 1) dX9_isRefused_0 (by decide) ?_
  refine x_istore_n (pc := 1) 3 dX9_isRefused_1 rfl (by decide) rfl ?_
  exact l_rf d hLn hRd 31 α t (by omega) hW hok hR hI _ _
end M26
