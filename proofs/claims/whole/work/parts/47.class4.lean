/-! the class: a clause comes into the store -/
def zfrV : Value → Bool
  | .ref p => zbase p && zstab p
  | _ => true
def zfrO : Option Value → Bool
  | some v => zfrV v
  | none => true
def zfrB (ls : List (Option Value)) (st : List Value) : Bool := ls.all zfrO && st.all zfrV
theorem zfr_ok {μ : zMem} {ls : List (Option Value)} {st : List Value} (h : zfrB ls st = true) : ∀ p, (some (Value.ref p) ∈ ls ∨ Value.ref p ∈ st) → p ∈ zpl μ ∧ zstab p = true := by
  intro p hp
  obtain ⟨h1, h2⟩ := Bool.and_eq_true_iff.mp h
  have h3 : (zbase p && zstab p) = true := by
    rcases hp with z | z
    · exact List.all_eq_true.mp h1 _ z
    · exact List.all_eq_true.mp h2 _ z
  obtain ⟨h4, h5⟩ := Bool.and_eq_true_iff.mp h3
  exact ⟨zpl_b h4, h5⟩
def k_rmK (κ : Nat → Nat → Int32) (τ : (Nat → Nat → Int64) × (Nat → Nat)) (n : Nat) : Nat → Nat → Int32 := if n ≤ τ.2 0 then κ else fun p j => if p = 16 ∧ τ.2 0 ≤ j then 0 else κ p j
def k_rmT (τ : (Nat → Nat → Int64) × (Nat → Nat)) (n : Nat) : (Nat → Nat → Int64) × (Nat → Nat) := if n ≤ τ.2 0 then τ else (τ.1, fun k => if k = 0 then kRl (τ.2 0) n else if k = 5 then τ.2 5 + 1 else if k = 6 then τ.2 6 + kRl (τ.2 0) n else τ.2 k)
theorem k_room_eq {κ α : Nat → Nat → Int32} {τ : (Nat → Nat → Int64) × (Nat → Nat)} {n : Nat} : k_room (κ, α, τ) 0 n = (k_rmK κ τ n, α, k_rmT τ n) := by
  unfold k_room k_rmK k_rmT
  by_cases h : n ≤ τ.2 0
  · rw [if_pos h, if_pos h]; exact if_pos h
  · rw [if_neg h, if_neg h]; exact if_neg h
theorem k_rmK_at {κ : Nat → Nat → Int32} {τ : (Nat → Nat → Int64) × (Nat → Nat)} {n p : Nat} (h : p ≠ 16) : k_rmK κ τ n p = κ p := by
  unfold k_rmK
  split
  · rfl
  · funext j; exact if_neg (fun q => h q.1)
theorem k_rmK_lt {κ : Nat → Nat → Int32} {τ : (Nat → Nat → Int64) × (Nat → Nat)} {n j : Nat} (h : j < τ.2 0) : k_rmK κ τ n 16 j = κ 16 j := by
  unfold k_rmK
  split
  · rfl
  · exact if_neg (fun q => by omega)
theorem k_rmT_ge {τ : (Nat → Nat → Int64) × (Nat → Nat)} {n : Nat} : n ≤ (k_rmT τ n).2 0 ∧ τ.2 0 ≤ (k_rmT τ n).2 0 := by
  unfold k_rmT kRl
  by_cases h : n ≤ τ.2 0
  · rw [if_pos h]; exact ⟨h, Nat.le_refl _⟩
  · rw [if_neg h]
    show n ≤ (if n ≤ τ.2 0 then _ else _) ∧ τ.2 0 ≤ (if n ≤ τ.2 0 then _ else _)
    rw [if_neg h]
    split <;> omega
theorem k_rmT_le {τ : (Nat → Nat → Int64) × (Nat → Nat)} {n : Nat} (h1 : τ.2 0 ≤ 24000) (h2 : n ≤ 12000) : (k_rmT τ n).2 0 ≤ 24000 := by
  unfold k_rmT kRl
  by_cases h : n ≤ τ.2 0
  · rw [if_pos h]; exact h1
  · rw [if_neg h]
    show (if n ≤ τ.2 0 then _ else _) ≤ _
    rw [if_neg h]
    split <;> omega
def k_apF (p n f i : Nat) (a : Nat → Nat → Int32) : Nat → Nat → Int32 := if 0 < a (p + 1) i then zup (zup a 16 (f + i) (a (p + 1) i)) 12 n (a 12 n ||| kb (a (p + 1) i)) else zup (zup a 16 (f + i) (a (p + 1) i)) 13 n (a 13 n ||| kb (a (p + 1) i))
def k_apE (a : Nat → Nat → Int32) (n e : Nat) (b : Bool) : Nat → Nat → Int32 := zup (zup (zup (zup a 14 n (zbo b)) 11 6 (a 11 6 + zbo (!b))) 11 5 (nI (n + 1))) 15 (n + 1) (nI e)
/-- a clause of row p (t literals) comes in as number n -/
def k_app (κ : Nat → Nat → Int32) (p n t : Nat) (b : Bool) : Nat → Nat → Int32 := k_apE (zit (k_apF p n (kS κ n)) 0 t (zup (zup κ 12 n (nI 0)) 13 n (nI 0))) n (kS κ n + t) b
section C5
variable {E : zEnv} {κ α : Nat → Nat → Int32} {τ : (Nat → Nat → Int64) × (Nat → Nat)}
theorem k_apF_at {p n f i q : Nat} {a : Nat → Nat → Int32} (h1 : q ≠ 16) (h2 : q ≠ 12) (h3 : q ≠ 13) : k_apF p n f i a q = a q := by
  funext j
  unfold k_apF
  split
  · rw [zup_p h2, zup_p h1]
  · rw [zup_p h3, zup_p h1]
theorem k_apL_at {p n f q : Nat} (h1 : q ≠ 16) (h2 : q ≠ 12) (h3 : q ≠ 13) : ∀ m i (a : Nat → Nat → Int32), zit (k_apF p n f) i m a q = a q := by
  intro m
  induction m with
  | zero => intro i a; rfl
  | succ m ih => intro i a; show zit (k_apF p n f) (i + 1) m (k_apF p n f i a) q = a q; rw [ih, k_apF_at h1 h2 h3]
theorem l_append (d : Nat) {p n t f L : Nat} (hr : kRow τ p L) (h11 : p ≠ 11) (h12 : p ≠ 12) (h13 : p ≠ 13) (h16 : p ≠ 16) (g12 : p + 1 ≠ 12) (g13 : p + 1 ≠ 13) (g16 : p + 1 ≠ 16) (htL : t ≤ L) (hn : n < 400) (hf : f + t ≤ τ.2 0) (hτ : τ.2 0 ≤ 24000) (b : Bool) : ∀ m i a, i + m = t → a p 1 = nI t → a 11 5 = nI n → zX E (d + 3) mX5_append 52 [some (.ref 11), some (.ref p), some (.int (zbo b)), some (.int (nI f)), some (.int (nI i)), none] [] (a, α, τ) (fun r ν => r = some (.int (nI n)) ∧ ν = (k_apE (zit (k_apF p n f) i m a) n (f + t) b, α, τ)) := by
  obtain ⟨zat_p, zar_p1, zln_p1, zrf_p_0, zrf_p_1, zrf_p_2, ble_p, ble_p1, hL⟩ := id hr
  intro m
  induction m with
  | zero =>
    intro i a hi ha hN
    refine x_iload (pc := 52) dX5_append_52 rfl ?_
    refine x_aload_n (pc := 54) 1 dX5_append_54 rfl rfl ?_
    refine x_geti_l (pc := 55) dX5_append_55 fX5_39 (zat_p _ _) zrf_p_1 ble_p ?_
    rw [ha]
    refine x_icmp_ge_t (pc := 58) 129 dX5_append_58 (by decide) (nI_le (by omega) (by omega)) ?_
    refine x_aload_n (pc := 129) 0 dX5_append_129 rfl rfl ?_
    refine x_getr (pc := 130) (14) dX5_append_130 fX5_18 (zat_b rfl rfl) rfl ?_
    refine x_aload_n (pc := 133) 0 dX5_append_133 rfl rfl ?_
    refine x_geti_l (pc := 134) dX5_append_134 fX5_28 (zat_b rfl rfl) rfl rfl ?_
    rw [hN]
    show zX E (d + 3) mX5_append _ _ _ _ (fun r ν => r = some (.int (nI n)) ∧ ν = (k_apE a n (f + t) b, α, τ))
    unfold k_apE
    cases b with
    | true =>
      refine x_iload_n (pc := 137) 2 dX5_append_137 rfl rfl ?_
      refine x_if_eq_f (pc := 138) 145 dX5_append_138 (by decide) (by decide) ?_
      refine x_iconst (pc := 141) (nI 1) dX5_append_141 (by decide) ?_
      refine x_goto (pc := 142) 146 dX5_append_142 (by decide) ?_
      refine x_i2b (pc := 146) dX5_append_146 ?_
      have hj147 : n < 400 := by omega
      refine x_bast_l (pc := 147) (n) dX5_append_147 (zar_b rfl rfl rfl) rfl (by first | rfl | simp only [pk_mul, nI_add] | simp only [zon, pk_mul, nI_add]) hj147 (Nat.lt_of_lt_of_le hj147 (by decide)) (by decide) ?_
      refine x_aload_n (pc := 148) 0 dX5_append_148 rfl rfl ?_
      refine x_dup (pc := 149) dX5_append_149 rfl ?_
      refine x_geti_l (pc := 150) dX5_append_150 fX5_32 (zat_b rfl rfl) rfl rfl ?_
      rw [zup_p (by decide)]
      refine x_iload_n (pc := 153) 2 dX5_append_153 rfl rfl ?_
      refine x_if_eq_f (pc := 154) 161 dX5_append_154 (by decide) (by decide) ?_
      refine x_iconst (pc := 157) (nI 0) dX5_append_157 (by decide) ?_
      refine x_goto (pc := 158) 162 dX5_append_158 (by decide) ?_
      refine x_iadd (pc := 162) dX5_append_162 ?_
      refine x_puti_l (pc := 163) dX5_append_163 pX5_32 (zat_b rfl rfl) rfl rfl ?_
      refine x_aload_n (pc := 166) 0 dX5_append_166 rfl rfl ?_
      refine x_dup (pc := 167) dX5_append_167 rfl ?_
      refine x_geti_l (pc := 168) dX5_append_168 fX5_28 (zat_b rfl rfl) rfl rfl ?_
      rw [zup_i (by decide), zup_p (by decide), hN]
      refine x_iconst (pc := 171) (nI 1) dX5_append_171 (by decide) ?_
      refine x_iadd (pc := 172) dX5_append_172 ?_
      rw [nI_add]
      refine x_puti_l (pc := 173) dX5_append_173 pX5_28 (zat_b rfl rfl) rfl rfl ?_
      refine x_aload_n (pc := 176) 0 dX5_append_176 rfl rfl ?_
      refine x_getr (pc := 177) (15) dX5_append_177 fX5_22 (zat_b rfl rfl) rfl ?_
      refine x_aload_n (pc := 180) 0 dX5_append_180 rfl rfl ?_
      refine x_geti_l (pc := 181) dX5_append_181 fX5_28 (zat_b rfl rfl) rfl rfl ?_
      rw [zup_same]
      refine x_iload_n (pc := 184) 3 dX5_append_184 rfl rfl ?_
      refine x_aload_n (pc := 185) 1 dX5_append_185 rfl rfl ?_
      refine x_geti_l (pc := 186) dX5_append_186 fX5_39 (zat_p _ _) zrf_p_1 ble_p ?_
      rw [zup_p h11, zup_p h11, zup_p (show p ≠ 14 from fun e => by subst e; cases zrf_p_0), ha]
      refine x_iadd (pc := 189) dX5_append_189 ?_
      rw [nI_add]
      have hj190 : n + 1 < 401 := by omega
      refine x_iast_l (pc := 190) (n + 1) dX5_append_190 (zar_b rfl rfl rfl) rfl (by first | rfl | simp only [pk_mul, nI_add] | simp only [zon, pk_mul, nI_add]) hj190 (Nat.lt_of_lt_of_le hj190 (by decide)) ?_
      refine x_aload_n (pc := 191) 0 dX5_append_191 rfl rfl ?_
      refine x_geti_l (pc := 192) dX5_append_192 fX5_28 (zat_b rfl rfl) rfl rfl ?_
      rw [zup_p (by decide), zup_same]
      refine x_iconst (pc := 195) (nI 1) dX5_append_195 (by decide) ?_
      refine x_isub (pc := 196) dX5_append_196 ?_
      refine x_iret (pc := 197) dX5_append_197 rfl ?_
      exact ⟨by rw [pk_sub (by omega)]; rfl, rfl⟩
    | false =>
      refine x_iload_n (pc := 137) 2 dX5_append_137 rfl rfl ?_
      refine x_if_eq_t (pc := 138) 145 dX5_append_138 (by decide) (rfl) ?_
      refine x_iconst (pc := 145) (nI 0) dX5_append_145 (by decide) ?_
      refine x_i2b (pc := 146) dX5_append_146 ?_
      have hj147 : n < 400 := by omega
      refine x_bast_l (pc := 147) (n) dX5_append_147 (zar_b rfl rfl rfl) rfl (by first | rfl | simp only [pk_mul, nI_add] | simp only [zon, pk_mul, nI_add]) hj147 (Nat.lt_of_lt_of_le hj147 (by decide)) (by decide) ?_
      refine x_aload_n (pc := 148) 0 dX5_append_148 rfl rfl ?_
      refine x_dup (pc := 149) dX5_append_149 rfl ?_
      refine x_geti_l (pc := 150) dX5_append_150 fX5_32 (zat_b rfl rfl) rfl rfl ?_
      rw [zup_p (by decide)]
      refine x_iload_n (pc := 153) 2 dX5_append_153 rfl rfl ?_
      refine x_if_eq_t (pc := 154) 161 dX5_append_154 (by decide) (rfl) ?_
      refine x_iconst (pc := 161) (nI 1) dX5_append_161 (by decide) ?_
      refine x_iadd (pc := 162) dX5_append_162 ?_
      refine x_puti_l (pc := 163) dX5_append_163 pX5_32 (zat_b rfl rfl) rfl rfl ?_
      refine x_aload_n (pc := 166) 0 dX5_append_166 rfl rfl ?_
      refine x_dup (pc := 167) dX5_append_167 rfl ?_
      refine x_geti_l (pc := 168) dX5_append_168 fX5_28 (zat_b rfl rfl) rfl rfl ?_
      rw [zup_i (by decide), zup_p (by decide), hN]
      refine x_iconst (pc := 171) (nI 1) dX5_append_171 (by decide) ?_
      refine x_iadd (pc := 172) dX5_append_172 ?_
      rw [nI_add]
      refine x_puti_l (pc := 173) dX5_append_173 pX5_28 (zat_b rfl rfl) rfl rfl ?_
      refine x_aload_n (pc := 176) 0 dX5_append_176 rfl rfl ?_
      refine x_getr (pc := 177) (15) dX5_append_177 fX5_22 (zat_b rfl rfl) rfl ?_
      refine x_aload_n (pc := 180) 0 dX5_append_180 rfl rfl ?_
      refine x_geti_l (pc := 181) dX5_append_181 fX5_28 (zat_b rfl rfl) rfl rfl ?_
      rw [zup_same]
      refine x_iload_n (pc := 184) 3 dX5_append_184 rfl rfl ?_
      refine x_aload_n (pc := 185) 1 dX5_append_185 rfl rfl ?_
      refine x_geti_l (pc := 186) dX5_append_186 fX5_39 (zat_p _ _) zrf_p_1 ble_p ?_
      rw [zup_p h11, zup_p h11, zup_p (show p ≠ 14 from fun e => by subst e; cases zrf_p_0), ha]
      refine x_iadd (pc := 189) dX5_append_189 ?_
      rw [nI_add]
      have hj190 : n + 1 < 401 := by omega
      refine x_iast_l (pc := 190) (n + 1) dX5_append_190 (zar_b rfl rfl rfl) rfl (by first | rfl | simp only [pk_mul, nI_add] | simp only [zon, pk_mul, nI_add]) hj190 (Nat.lt_of_lt_of_le hj190 (by decide)) ?_
      refine x_aload_n (pc := 191) 0 dX5_append_191 rfl rfl ?_
      refine x_geti_l (pc := 192) dX5_append_192 fX5_28 (zat_b rfl rfl) rfl rfl ?_
      rw [zup_p (by decide), zup_same]
      refine x_iconst (pc := 195) (nI 1) dX5_append_195 (by decide) ?_
      refine x_isub (pc := 196) dX5_append_196 ?_
      refine x_iret (pc := 197) dX5_append_197 rfl ?_
      exact ⟨by rw [pk_sub (by omega)]; rfl, rfl⟩
  | succ m ih =>
    intro i a hi ha hN
    have step : zit (k_apF p n f) i (m + 1) a = zit (k_apF p n f) (i + 1) m (k_apF p n f i a) := rfl
    rw [step]
    have pa : k_apF p n f i a p 1 = nI t := by rw [k_apF_at h16 h12 h13]; exact ha
    have pn : k_apF p n f i a 11 5 = nI n := by rw [k_apF_at (by decide) (by decide) (by decide)]; exact hN
    refine x_iload (pc := 52) dX5_append_52 rfl ?_
    refine x_aload_n (pc := 54) 1 dX5_append_54 rfl rfl ?_
    refine x_geti_l (pc := 55) dX5_append_55 fX5_39 (zat_p _ _) zrf_p_1 ble_p ?_
    rw [ha]
    refine x_icmp_ge_f (pc := 58) 129 dX5_append_58 (by decide) (nI_ge (by omega) (by omega)) ?_
    refine x_aload_n (pc := 61) 1 dX5_append_61 rfl rfl ?_
    refine x_getr (pc := 62) ((p + 1)) dX5_append_62 fX5_48 (zat_p _ _) zrf_p_0 ?_
    refine x_iload (pc := 65) dX5_append_65 rfl ?_
    have hj67 : i < L := by omega
    refine x_iald_l (pc := 67) (i) dX5_append_67 (zar_p1 _ _) ble_p1 (by first | rfl | simp only [pk_mul, nI_add] | simp only [zon, pk_mul, nI_add]) (by rw [zln_p1]; exact hj67) (Nat.lt_of_lt_of_le hj67 (by omega)) ?_
    refine x_istore (pc := 68) dX5_append_68 (by decide) rfl ?_
    refine x_aload_n (pc := 70) 0 dX5_append_70 rfl rfl ?_
    refine x_getr (pc := 71) (16) dX5_append_71 fX5_25 (zat_b rfl rfl) rfl ?_
    refine x_iload_n (pc := 74) 3 dX5_append_74 rfl rfl ?_
    refine x_iload (pc := 75) dX5_append_75 rfl ?_
    refine x_iadd (pc := 77) dX5_append_77 ?_
    refine x_iload (pc := 78) dX5_append_78 rfl ?_
    have hj80 : f + i < τ.2 0 := by omega
    refine x_iast_l (pc := 80) (f + i) dX5_append_80 (zar_b rfl rfl rfl) rfl (by first | rfl | simp only [pk_mul, nI_add] | simp only [zon, pk_mul, nI_add]) hj80 (Nat.lt_of_lt_of_le hj80 (by omega)) ?_
    have hk : k_apF p n f i a = k_apF p n f i a := rfl
    by_cases h : 0 < a (p + 1) i
    · have e : k_apF p n f i a = zup (zup a 16 (f + i) (a (p + 1) i)) 12 n (a 12 n ||| kb (a (p + 1) i)) := by unfold k_apF; rw [if_pos h]
      rw [e] at pa pn ⊢
      refine x_iload (pc := 81) dX5_append_81 rfl ?_
      refine x_if_le_f (pc := 83) 106 dX5_append_83 (by decide) (Int32.not_le.mpr h) ?_
      refine x_aload_n (pc := 86) 0 dX5_append_86 rfl rfl ?_
      refine x_getr (pc := 87) (12) dX5_append_87 fX5_9 (zat_b rfl rfl) rfl ?_
      refine x_aload_n (pc := 90) 0 dX5_append_90 rfl rfl ?_
      refine x_geti_l (pc := 91) dX5_append_91 fX5_28 (zat_b rfl rfl) rfl rfl ?_
      rw [zup_p (by decide), hN]
      refine x_dup2 (pc := 94) dX5_append_94 rfl rfl ?_
      have hj95 : n < 400 := by omega
      refine x_iald_l (pc := 95) (n) dX5_append_95 (zar_b rfl rfl rfl) rfl (by first | rfl | simp only [pk_mul, nI_add] | simp only [zon, pk_mul, nI_add]) hj95 (Nat.lt_of_lt_of_le hj95 (by decide)) ?_
      rw [zup_p (by decide)]
      refine x_iload (pc := 96) dX5_append_96 rfl ?_
      refine x_callN1i (pc := 98) dX5_append_98 lX5_49 (s_bitOf (d + 1) _) (Nat.le_of_ble_eq_true rfl) (Or.inl zgr) ?_
      refine x_ior (pc := 101) dX5_append_101 ?_
      have hj102 : n < 400 := by omega
      refine x_iast_l (pc := 102) (n) dX5_append_102 (zar_b rfl rfl rfl) rfl (by first | rfl | simp only [pk_mul, nI_add] | simp only [zon, pk_mul, nI_add]) hj102 (Nat.lt_of_lt_of_le hj102 (by decide)) ?_
      refine x_goto (pc := 103) 123 dX5_append_103 (by decide) ?_
      refine x_iinc (pc := 123) (nI (i + 1)) dX5_append_123 rfl (zinc _) (by decide) rfl ?_
      refine x_goto (pc := 126) 52 dX5_append_126 (by decide) ?_
      exact zX.sub (zs1 (zs1 (zs1 (zs1 (zs1 (zsn zse)))))) (ih (i + 1) _ (by omega) pa pn)
    · have e : k_apF p n f i a = zup (zup a 16 (f + i) (a (p + 1) i)) 13 n (a 13 n ||| kb (a (p + 1) i)) := by unfold k_apF; rw [if_neg h]
      rw [e] at pa pn ⊢
      refine x_iload (pc := 81) dX5_append_81 rfl ?_
      refine x_if_le_t (pc := 83) 106 dX5_append_83 (by decide) (Int32.not_lt.mp h) ?_
      refine x_aload_n (pc := 106) 0 dX5_append_106 rfl rfl ?_
      refine x_getr (pc := 107) (13) dX5_append_107 fX5_15 (zat_b rfl rfl) rfl ?_
      refine x_aload_n (pc := 110) 0 dX5_append_110 rfl rfl ?_
      refine x_geti_l (pc := 111) dX5_append_111 fX5_28 (zat_b rfl rfl) rfl rfl ?_
      rw [zup_p (by decide), hN]
      refine x_dup2 (pc := 114) dX5_append_114 rfl rfl ?_
      have hj115 : n < 400 := by omega
      refine x_iald_l (pc := 115) (n) dX5_append_115 (zar_b rfl rfl rfl) rfl (by first | rfl | simp only [pk_mul, nI_add] | simp only [zon, pk_mul, nI_add]) hj115 (Nat.lt_of_lt_of_le hj115 (by decide)) ?_
      rw [zup_p (by decide)]
      refine x_iload (pc := 116) dX5_append_116 rfl ?_
      refine x_callN1i (pc := 118) dX5_append_118 lX5_49 (s_bitOf (d + 1) _) (Nat.le_of_ble_eq_true rfl) (Or.inl zgr) ?_
      refine x_ior (pc := 121) dX5_append_121 ?_
      have hj122 : n < 400 := by omega
      refine x_iast_l (pc := 122) (n) dX5_append_122 (zar_b rfl rfl rfl) rfl (by first | rfl | simp only [pk_mul, nI_add] | simp only [zon, pk_mul, nI_add]) hj122 (Nat.lt_of_lt_of_le hj122 (by decide)) ?_
      refine x_iinc (pc := 123) (nI (i + 1)) dX5_append_123 rfl (zinc _) (by decide) rfl ?_
      refine x_goto (pc := 126) 52 dX5_append_126 (by decide) ?_
      exact zX.sub (zs1 (zs1 (zs1 (zs1 (zs1 (zsn zse)))))) (ih (i + 1) _ (by omega) pa pn)
theorem s_append (d : Nat) {p t L : Nat} (b : Bool) (hW : kW κ τ) (hr : ∀ τ, kRow τ p L) (hb : zbase p = true) (hs : zstab p = true) (h11 : p ≠ 11) (h12 : p ≠ 12) (h13 : p ≠ 13) (h16 : p ≠ 16) (g12 : p + 1 ≠ 12) (g13 : p + 1 ≠ 13) (g16 : p + 1 ≠ 16) (ht : κ p 1 = nI t) (htL : t ≤ L) : zTr E (d + 3) mX5_append [.ref 11, .ref p, .int (zbo b)] (κ, α, τ) (some (.int (if kN κ < 400 then nI (kN κ) else -1))) (if kN κ < 400 then (k_app (k_rmK κ τ (kS κ (kN κ) + t)) p (kN κ) t b, α, k_rmT τ (kS κ (kN κ) + t)) else (κ, α, τ)) := by
  have hL := (hr τ).2.2.2.2.2.2.2.2
  have h4 := hW.n400
  have h12k := hW.s30 (Nat.le_refl (kN κ))
  have hs0 := hW.2.2.2.2.1
  have h24 := hW.2.2.2.2.2
  refine zM.tr (zM_of [some (.ref 11), some (.ref p), some (.int (zbo b)), none, none, none] (by decide) rfl (Nat.le_of_ble_eq_true rfl) ?_)
  obtain ⟨zat_p, zar_p1, zln_p1, zrf_p_0, zrf_p_1, zrf_p_2, ble_p, ble_p1, -⟩ := hr τ
  refine x_aload_n (pc := 0) 0 dX5_append_0 rfl rfl ?_
  refine x_callV0i (pc := 1) dX5_append_1 lX5_35 (zat_b rfl rfl) rfl (s_storeFull (d + 1) hW.n h4) (Nat.le_of_ble_eq_true rfl) (Or.inl zgr) ?_
  by_cases h : kN κ < 400
  · rw [if_pos h, if_pos h, decide_eq_false (show ¬ 400 ≤ kN κ by omega)]
    refine x_if_eq_t (pc := 4) 9 dX5_append_4 (by decide) (rfl) ?_
    refine x_aload_n (pc := 9) 0 dX5_append_9 rfl rfl ?_
    refine x_getr (pc := 10) (15) dX5_append_10 fX5_22 (zat_b rfl rfl) rfl ?_
    refine x_aload_n (pc := 13) 0 dX5_append_13 rfl rfl ?_
    refine x_geti_l (pc := 14) dX5_append_14 fX5_28 (zat_b rfl rfl) rfl rfl ?_
    rw [hW.n]
    have hj17 : kN κ < 401 := by omega
    refine x_iald_l (pc := 17) (kN κ) dX5_append_17 (zar_b rfl rfl rfl) rfl (by first | rfl | simp only [pk_mul, nI_add] | simp only [zon, pk_mul, nI_add]) hj17 (Nat.lt_of_lt_of_le hj17 (by decide)) ?_
    refine x_istore_n (pc := 18) 3 dX5_append_18 rfl (by decide) rfl ?_
    rw [hW.s (Nat.le_refl _)]
    refine x_aload_n (pc := 19) 0 dX5_append_19 rfl rfl ?_
    refine x_iload_n (pc := 20) 3 dX5_append_20 rfl rfl ?_
    refine x_aload_n (pc := 21) 1 dX5_append_21 rfl rfl ?_
    refine x_geti_l (pc := 22) dX5_append_22 fX5_39 (zat_p _ _) zrf_p_1 ble_p ?_
    rw [ht]
    refine x_iadd (pc := 25) dX5_append_25 ?_
    rw [nI_add]
    refine x_callV1v (pc := 26) dX5_append_26 lX5_44 (zat_b rfl rfl) rfl (s_makeRoom (g := 0) (d := d) (by decide) (zar_b rfl rfl rfl) (zat_b rfl rfl) (by omega) h24) (Nat.le_of_ble_eq_true rfl) (Or.inr (zfr_ok (by simp [zfrB, zfrO, zfrV, hb, hs]; decide))) ?_
    rw [k_room_eq]
    have z : ∀ q, q ≠ 16 → k_rmK κ τ (kS κ (kN κ) + t) q = κ q := fun q => k_rmK_at
    refine x_aload_n (pc := 29) 0 dX5_append_29 rfl rfl ?_
    refine x_getr (pc := 30) (12) dX5_append_30 fX5_9 (zat_b rfl rfl) rfl ?_
    refine x_aload_n (pc := 33) 0 dX5_append_33 rfl rfl ?_
    refine x_geti_l (pc := 34) dX5_append_34 fX5_28 (zat_b rfl rfl) rfl rfl ?_
    rw [z 11 (by decide), hW.n]
    refine x_iconst (pc := 37) (nI 0) dX5_append_37 (by decide) ?_
    have hj38 : kN κ < 400 := by omega
    refine x_iast_l (pc := 38) (kN κ) dX5_append_38 (zar_b rfl rfl rfl) rfl (by first | rfl | simp only [pk_mul, nI_add] | simp only [zon, pk_mul, nI_add]) hj38 (Nat.lt_of_lt_of_le hj38 (by decide)) ?_
    refine x_aload_n (pc := 39) 0 dX5_append_39 rfl rfl ?_
    refine x_getr (pc := 40) (13) dX5_append_40 fX5_15 (zat_b rfl rfl) rfl ?_
    refine x_aload_n (pc := 43) 0 dX5_append_43 rfl rfl ?_
    refine x_geti_l (pc := 44) dX5_append_44 fX5_28 (zat_b rfl rfl) rfl rfl ?_
    rw [zup_p (by decide), z 11 (by decide), hW.n]
    refine x_iconst (pc := 47) (nI 0) dX5_append_47 (by decide) ?_
    have hj48 : kN κ < 400 := by omega
    refine x_iast_l (pc := 48) (kN κ) dX5_append_48 (zar_b rfl rfl rfl) rfl (by first | rfl | simp only [pk_mul, nI_add] | simp only [zon, pk_mul, nI_add]) hj48 (Nat.lt_of_lt_of_le hj48 (by decide)) ?_
    refine x_iconst (pc := 49) (nI 0) dX5_append_49 (by decide) ?_
    refine x_istore (pc := 50) dX5_append_50 (by decide) rfl ?_
    have hkS : kS (k_rmK κ τ (kS κ (kN κ) + t)) (kN κ) = kS κ (kN κ) := congrArg (fun f => (f (kN κ)).toNatClampNeg) (z 15 (by decide))
    unfold k_app
    rw [hkS]
    refine l_append d (hr _) h11 h12 h13 h16 g12 g13 g16 htL h k_rmT_ge.1 (k_rmT_le h24 (by omega)) b t 0 _ (by omega) ?_ ?_
    · rw [zup_p h13, zup_p h12, z p h16]; exact ht
    · rw [zup_p (by decide), zup_p (by decide), z 11 (by decide)]; exact hW.n
  · rw [if_neg h, if_neg h, decide_eq_true (show 400 ≤ kN κ by omega)]
    refine x_if_eq_f (pc := 4) 9 dX5_append_4 (by decide) (by decide) ?_
    refine x_iconst (pc := 7) (-1) dX5_append_7 (by decide) ?_
    refine x_iret (pc := 8) dX5_append_8 rfl ?_
    exact ⟨rfl, rfl⟩
end C5
