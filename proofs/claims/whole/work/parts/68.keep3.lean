/-! the class: keep and back, whole -/
def k_nK (κ : Nat → Nat → Int32) (g : Nat) : Nat → Nat → Int32 := fun p j => if 10 + 20 * g ≤ p ∧ p ≤ 21 + 20 * g then (if p = 10 + 20 * g ∧ (j = 12 ∨ j = 16) then -1 else 0) else if p = 2 ∧ j + 1 = g then 1 else κ p j
def k_nT (τ : (Nat → Nat → Int64) × (Nat → Nat)) (g : Nat) : (Nat → Nat → Int64) × (Nat → Nat) := (τ.1, fun k => if k = g then 512 else if k = g + 2 then 1 else if k = 5 then τ.2 5 + 12 else if k = 6 then τ.2 6 + 2190 else τ.2 k)
theorem zkn_eq {κ α : Nat → Nat → Int32} {τ : (Nat → Nat → Int64) × (Nat → Nat)} {g : Nat} : zkn (κ, α, τ) g = (k_nK κ g, α, k_nT τ g) := rfl
theorem k_nK_p {κ : Nat → Nat → Int32} {g p : Nat} (h : ¬ (10 + 20 * g ≤ p ∧ p ≤ 21 + 20 * g)) (h2 : p ≠ 2) : k_nK κ g p = κ p := by
  funext j
  unfold k_nK
  rw [if_neg h, if_neg (fun q => h2 q.1)]
theorem zfr3 {μ : zMem} {a b : Nat} {x : Int32} (ha : a ∈ zpl μ ∧ zstab a = true) (hb : b ∈ zpl μ ∧ zstab b = true) : ∀ p, (some (Value.ref p) ∈ ([some (.ref a), some (.int x), some (.ref b)] : List (Option Value)) ∨ Value.ref p ∈ ([] : List Value)) → p ∈ zpl μ ∧ zstab p = true := by
  intro p hp
  rcases hp with hp | hp
  · simp only [List.mem_cons, List.not_mem_nil, or_false, Option.some.injEq, Value.ref.injEq, reduceCtorEq, false_or] at hp
    rcases hp with rfl | rfl
    · exact ha
    · exact hb
  · cases hp
theorem kCp.new {κ : Nat → Nat → Int32} {τ : (Nat → Nat → Int64) × (Nat → Nat)} {g N S t u : Nat} (hg : g < 3) (hg1 : 1 ≤ g) (h : kCp κ τ 0 N S t u) : kCp (k_nK κ g) (k_nT τ g) 0 N S t u := by
  have z : ∀ p, 2 < p → p < 30 → k_nK κ g p = κ p := fun p h1 h2 => k_nK_p (by omega) (by omega)
  unfold kCp at h ⊢
  rw [z 11 (by decide) (by decide), z 15 (by decide) (by decide), z 14 (by decide) (by decide), z 17 (by decide) (by decide), z 19 (by decide) (by decide), z 10 (by decide) (by decide)]
  have e : (k_nT τ g).2 0 = τ.2 0 := by
    show (if 0 = g then 512 else if 0 = g + 2 then 1 else if 0 = 5 then _ else if 0 = 6 then _ else τ.2 0) = τ.2 0
    rw [if_neg (by omega), if_neg (by omega), if_neg (by decide), if_neg (by decide)]
  rw [e]
  exact h
section KB
variable {E : zEnv} {κ α : Nat → Nat → Int32} {τ : (Nat → Nat → Int64) × (Nat → Nat)}
theorem s_keepOut (d : Nat) {n : Int32} (h : n < 0 ∨ ¬ n < nI 2) : zTr E (d + 1) mX8_keep [.ref 0, .int n] (κ, α, τ) (some (.int (nI 0))) (κ, α, τ) := by
  refine zM.tr (zM_of [some (.ref 0), some (.int n), none] (by decide) rfl (Nat.le_of_ble_eq_true rfl) ?_)
  by_cases h1 : n < 0
  ·
    refine x_iload_n (pc := 0) 1 dX8_keep_0 rfl rfl ?_
    refine x_if_lt_t (pc := 1) 9 dX8_keep_1 (by decide) (h1) ?_
    refine x_iconst (pc := 9) (nI 0) dX8_keep_9 (by decide) ?_
    refine x_zret (pc := 10) dX8_keep_10 rfl (by decide) ?_
    exact ⟨rfl, rfl⟩
  ·
    refine x_iload_n (pc := 0) 1 dX8_keep_0 rfl rfl ?_
    refine x_if_lt_f (pc := 1) 9 dX8_keep_1 (by decide) (h1) ?_
    refine x_iload_n (pc := 4) 1 dX8_keep_4 rfl rfl ?_
    refine x_iconst (pc := 5) (nI 2) dX8_keep_5 (by decide) ?_
    refine x_icmp_lt_f (pc := 6) 11 dX8_keep_6 (by decide) (h.resolve_left h1) ?_
    refine x_iconst (pc := 9) (nI 0) dX8_keep_9 (by decide) ?_
    refine x_zret (pc := 10) dX8_keep_10 rfl (by decide) ?_
    exact ⟨rfl, rfl⟩
theorem s_backOut (d : Nat) {n : Int32} (h : n < 0 ∨ ¬ n < nI 2) : zTr E (d + 1) mX8_back [.ref 0, .int n] (κ, α, τ) (some (.int (nI 0))) (κ, α, τ) := by
  refine zM.tr (zM_of [some (.ref 0), some (.int n), none] (by decide) rfl (Nat.le_of_ble_eq_true rfl) ?_)
  by_cases h1 : n < 0
  ·
    refine x_iload_n (pc := 0) 1 dX8_back_0 rfl rfl ?_
    refine x_if_lt_t (pc := 1) 9 dX8_back_1 (by decide) (h1) ?_
    refine x_iconst (pc := 9) (nI 0) dX8_back_9 (by decide) ?_
    refine x_zret (pc := 10) dX8_back_10 rfl (by decide) ?_
    exact ⟨rfl, rfl⟩
  ·
    refine x_iload_n (pc := 0) 1 dX8_back_0 rfl rfl ?_
    refine x_if_lt_f (pc := 1) 9 dX8_back_1 (by decide) (h1) ?_
    refine x_iload_n (pc := 4) 1 dX8_back_4 rfl rfl ?_
    refine x_iconst (pc := 5) (nI 2) dX8_back_5 (by decide) ?_
    refine x_icmp_lt_f (pc := 6) 11 dX8_back_6 (by decide) (h.resolve_left h1) ?_
    refine x_iconst (pc := 9) (nI 0) dX8_back_9 (by decide) ?_
    refine x_zret (pc := 10) dX8_back_10 rfl (by decide) ?_
    exact ⟨rfl, rfl⟩
theorem s_backNo (d : Nat) {i : Nat} (hi : i < 2) (h : κ 2 i = 0) : zTr E (d + 1) mX8_back [.ref 0, .int (nI i)] (κ, α, τ) (some (.int (nI 0))) (κ, α, τ) := by
  refine zM.tr (zM_of [some (.ref 0), some (.int (nI i)), none] (by decide) rfl (Nat.le_of_ble_eq_true rfl) ?_)
  refine x_iload_n (pc := 0) 1 dX8_back_0 rfl rfl ?_
  refine x_if_lt_f (pc := 1) 9 dX8_back_1 (by decide) (nI_pos (by omega)) ?_
  refine x_iload_n (pc := 4) 1 dX8_back_4 rfl rfl ?_
  refine x_iconst (pc := 5) (nI 2) dX8_back_5 (by decide) ?_
  refine x_icmp_lt_t (pc := 6) 11 dX8_back_6 (by decide) (nI_lt hi (by omega)) ?_
  refine x_aload_n (pc := 11) 0 dX8_back_11 rfl rfl ?_
  refine x_getr (pc := 12) (2) dX8_back_12 fX8_16 (zat_b rfl rfl) rfl ?_
  refine x_iload_n (pc := 15) 1 dX8_back_15 rfl rfl ?_
  refine x_aald2 (pc := 16) i hi dX8_back_16 ?_
  rw [show zkv (zr (κ, α, τ) 2 i) i = .null from if_pos h]
  refine x_astore_nN (pc := 17) 2 dX8_back_17 rfl (by decide) rfl ?_
  refine x_aload_nN (pc := 18) 2 dX8_back_18 rfl rfl ?_
  refine x_ifnonnullN (pc := 19) dX8_back_19 ?_
  refine x_iconst (pc := 22) (nI 0) dX8_back_22 (by decide) ?_
  refine x_zret (pc := 23) dX8_back_23 rfl (by decide) ?_
  exact ⟨rfl, rfl⟩
theorem s_back0 (d : Nat) {N S t u : Nat} (h : ¬ κ 2 0 = 0) (h3 : τ.2 3 = 1) (hc : kCp κ τ 1 N S t u) (hg : τ.2 0 ≤ 24000) : zTr E (d + 5) mX8_back [.ref 0, .int (nI 0)] (κ, α, τ) (some (.int (nI 1))) (k_cpA κ τ 0 1 N S t u, α, k_rmTg τ 0 S) := by
  refine zM.tr (zM_of [some (.ref 0), some (.int (nI 0)), none] (by decide) rfl (Nat.le_of_ble_eq_true rfl) ?_)
  refine x_iload_n (pc := 0) 1 dX8_back_0 rfl rfl ?_
  refine x_if_lt_f (pc := 1) 9 dX8_back_1 (by decide) (by decide) ?_
  refine x_iload_n (pc := 4) 1 dX8_back_4 rfl rfl ?_
  refine x_iconst (pc := 5) (nI 2) dX8_back_5 (by decide) ?_
  refine x_icmp_lt_t (pc := 6) 11 dX8_back_6 (by decide) (by decide) ?_
  refine x_aload_n (pc := 11) 0 dX8_back_11 rfl rfl ?_
  refine x_getr (pc := 12) (2) dX8_back_12 fX8_16 (zat_b rfl rfl) rfl ?_
  refine x_iload_n (pc := 15) 1 dX8_back_15 rfl rfl ?_
  refine x_aald2 (pc := 16) 0 (by decide) dX8_back_16 ?_
  rw [show zkv (zr (κ, α, τ) 2 0) 0 = .ref 30 from if_neg h]
  refine x_astore_n (pc := 17) 2 dX8_back_17 rfl (by decide) rfl ?_
  refine x_aload_n (pc := 18) 2 dX8_back_18 rfl rfl ?_
  refine x_ifnonnull (pc := 19) 24 dX8_back_19 (by decide) ?_
  refine x_aload_n (pc := 24) 0 dX8_back_24 rfl rfl ?_
  refine x_getr (pc := 25) 10 dX8_back_25 fX8_10 (zat_b rfl rfl) rfl ?_
  refine x_aload_n (pc := 28) 2 dX8_back_28 rfl rfl ?_
  refine x_callV1v (pc := 29) dX8_back_29 lX8_131 (zat_b rfl rfl) rfl (s_cpA01 d h3 hc hg) (Nat.le_of_ble_eq_true rfl) (Or.inr (zfr3 ⟨zpl_b rfl, rfl⟩ ⟨zin_k3 h3 (by decide), rfl⟩)) ?_
  refine x_iconst (pc := 32) (nI 1) dX8_back_32 (by decide) ?_
  refine x_zret (pc := 33) dX8_back_33 rfl (by decide) ?_
  exact ⟨rfl, rfl⟩
theorem l_keep0 (d : Nat) {N S t u : Nat} (h3 : τ.2 3 = 1) (hc : kCp κ τ 0 N S t u) (hg : τ.2 1 ≤ 24000) : zX E (d + 5) mX8_keep 37 [some (.ref 0), some (.int (nI 0)), some (.ref 30)] [] (κ, α, τ) (fun r ν => r = some (.int (nI 1)) ∧ ν = (k_cpA κ τ 1 0 N S t u, α, k_rmTg τ 1 S)) := by
  refine x_aload_n (pc := 37) 2 dX8_keep_37 rfl rfl ?_
  refine x_aload_n (pc := 38) 0 dX8_keep_38 rfl rfl ?_
  refine x_getr (pc := 39) 10 dX8_keep_39 fX8_10 (zat_b rfl rfl) rfl ?_
  refine x_callV1v (pc := 42) dX8_keep_42 lX8_131 (zat_k3 h3 (by decide) rfl) rfl (s_cpA10 d h3 hc hg) (Nat.le_of_ble_eq_true rfl) (Or.inr (zfr3 ⟨zpl_b rfl, rfl⟩ ⟨zin_k3 h3 (by decide), rfl⟩)) ?_
  refine x_iconst (pc := 45) (nI 1) dX8_keep_45 (by decide) ?_
  refine x_zret (pc := 46) dX8_keep_46 rfl (by decide) ?_
  exact ⟨rfl, rfl⟩
theorem s_keep0 (d : Nat) {N S t u : Nat} (h : ¬ κ 2 0 = 0) (h3 : τ.2 3 = 1) (hc : kCp κ τ 0 N S t u) (hg : τ.2 1 ≤ 24000) : zTr E (d + 5) mX8_keep [.ref 0, .int (nI 0)] (κ, α, τ) (some (.int (nI 1))) (k_cpA κ τ 1 0 N S t u, α, k_rmTg τ 1 S) := by
  refine zM.tr (zM_of [some (.ref 0), some (.int (nI 0)), none] (by decide) rfl (Nat.le_of_ble_eq_true rfl) ?_)
  refine x_iload_n (pc := 0) 1 dX8_keep_0 rfl rfl ?_
  refine x_if_lt_f (pc := 1) 9 dX8_keep_1 (by decide) (by decide) ?_
  refine x_iload_n (pc := 4) 1 dX8_keep_4 rfl rfl ?_
  refine x_iconst (pc := 5) (nI 2) dX8_keep_5 (by decide) ?_
  refine x_icmp_lt_t (pc := 6) 11 dX8_keep_6 (by decide) (by decide) ?_
  refine x_aload_n (pc := 11) 0 dX8_keep_11 rfl rfl ?_
  refine x_getr (pc := 12) (2) dX8_keep_12 fX8_16 (zat_b rfl rfl) rfl ?_
  refine x_iload_n (pc := 15) 1 dX8_keep_15 rfl rfl ?_
  refine x_aald2 (pc := 16) 0 (by decide) dX8_keep_16 ?_
  rw [show zkv (zr (κ, α, τ) 2 0) 0 = .ref 30 from if_neg h]
  refine x_astore_n (pc := 17) 2 dX8_keep_17 rfl (by decide) rfl ?_
  refine x_aload_n (pc := 18) 2 dX8_keep_18 rfl rfl ?_
  refine x_ifnonnull (pc := 19) 37 dX8_keep_19 (by decide) ?_
  exact l_keep0 d h3 hc hg
theorem s_keepN0 (d : Nat) {N S t u : Nat} (h : κ 2 0 = 0) (h0 : τ.2 3 ≠ 1) (hc : kCp κ τ 0 N S t u) : zTr E (d + 5) mX8_keep [.ref 0, .int (nI 0)] (κ, α, τ) (some (.int (nI 1))) (k_cpA (k_nK κ 1) (k_nT τ 1) 1 0 N S t u, α, k_rmTg (k_nT τ 1) 1 S) := by
  refine zM.tr (zM_of [some (.ref 0), some (.int (nI 0)), none] (by decide) rfl (Nat.le_of_ble_eq_true rfl) ?_)
  refine x_iload_n (pc := 0) 1 dX8_keep_0 rfl rfl ?_
  refine x_if_lt_f (pc := 1) 9 dX8_keep_1 (by decide) (by decide) ?_
  refine x_iload_n (pc := 4) 1 dX8_keep_4 rfl rfl ?_
  refine x_iconst (pc := 5) (nI 2) dX8_keep_5 (by decide) ?_
  refine x_icmp_lt_t (pc := 6) 11 dX8_keep_6 (by decide) (by decide) ?_
  refine x_aload_n (pc := 11) 0 dX8_keep_11 rfl rfl ?_
  refine x_getr (pc := 12) (2) dX8_keep_12 fX8_16 (zat_b rfl rfl) rfl ?_
  refine x_iload_n (pc := 15) 1 dX8_keep_15 rfl rfl ?_
  refine x_aald2 (pc := 16) 0 (by decide) dX8_keep_16 ?_
  rw [show zkv (zr (κ, α, τ) 2 0) 0 = .null from if_pos h]
  refine x_astore_nN (pc := 17) 2 dX8_keep_17 rfl (by decide) rfl ?_
  refine x_aload_nN (pc := 18) 2 dX8_keep_18 rfl rfl ?_
  refine x_ifnonnullN (pc := 19) dX8_keep_19 ?_
  refine zX.sub (ls' := [some (.ref 0), some (.int (nI 0)), none]) (zs1 (zs1 (zsn zse))) ?_
  have k := l_keep0 (E := E) (κ := k_nK κ 1) (α := α) (τ := k_nT τ 1) d (N := N) (S := S) (t := t) (u := u) rfl (hc.new (by decide) (by decide)) (by show 512 ≤ 24000; decide)
  obtain ⟨r, ν, hk, k⟩ := k
  exact ⟨r, ν, hk, g_newState (μ := (κ, α, τ)) (by decide) h0 k⟩
theorem s_back1 (d : Nat) {N S t u : Nat} (h : ¬ κ 2 1 = 0) (h4 : τ.2 4 = 1) (hc : kCp κ τ 2 N S t u) (hg : τ.2 0 ≤ 24000) : zTr E (d + 5) mX8_back [.ref 0, .int (nI 1)] (κ, α, τ) (some (.int (nI 1))) (k_cpA κ τ 0 2 N S t u, α, k_rmTg τ 0 S) := by
  refine zM.tr (zM_of [some (.ref 0), some (.int (nI 1)), none] (by decide) rfl (Nat.le_of_ble_eq_true rfl) ?_)
  refine x_iload_n (pc := 0) 1 dX8_back_0 rfl rfl ?_
  refine x_if_lt_f (pc := 1) 9 dX8_back_1 (by decide) (by decide) ?_
  refine x_iload_n (pc := 4) 1 dX8_back_4 rfl rfl ?_
  refine x_iconst (pc := 5) (nI 2) dX8_back_5 (by decide) ?_
  refine x_icmp_lt_t (pc := 6) 11 dX8_back_6 (by decide) (by decide) ?_
  refine x_aload_n (pc := 11) 0 dX8_back_11 rfl rfl ?_
  refine x_getr (pc := 12) (2) dX8_back_12 fX8_16 (zat_b rfl rfl) rfl ?_
  refine x_iload_n (pc := 15) 1 dX8_back_15 rfl rfl ?_
  refine x_aald2 (pc := 16) 1 (by decide) dX8_back_16 ?_
  rw [show zkv (zr (κ, α, τ) 2 1) 1 = .ref 50 from if_neg h]
  refine x_astore_n (pc := 17) 2 dX8_back_17 rfl (by decide) rfl ?_
  refine x_aload_n (pc := 18) 2 dX8_back_18 rfl rfl ?_
  refine x_ifnonnull (pc := 19) 24 dX8_back_19 (by decide) ?_
  refine x_aload_n (pc := 24) 0 dX8_back_24 rfl rfl ?_
  refine x_getr (pc := 25) 10 dX8_back_25 fX8_10 (zat_b rfl rfl) rfl ?_
  refine x_aload_n (pc := 28) 2 dX8_back_28 rfl rfl ?_
  refine x_callV1v (pc := 29) dX8_back_29 lX8_131 (zat_b rfl rfl) rfl (s_cpA02 d h4 hc hg) (Nat.le_of_ble_eq_true rfl) (Or.inr (zfr3 ⟨zpl_b rfl, rfl⟩ ⟨zin_k4 h4 (by decide), rfl⟩)) ?_
  refine x_iconst (pc := 32) (nI 1) dX8_back_32 (by decide) ?_
  refine x_zret (pc := 33) dX8_back_33 rfl (by decide) ?_
  exact ⟨rfl, rfl⟩
theorem l_keep1 (d : Nat) {N S t u : Nat} (h4 : τ.2 4 = 1) (hc : kCp κ τ 0 N S t u) (hg : τ.2 2 ≤ 24000) : zX E (d + 5) mX8_keep 37 [some (.ref 0), some (.int (nI 1)), some (.ref 50)] [] (κ, α, τ) (fun r ν => r = some (.int (nI 1)) ∧ ν = (k_cpA κ τ 2 0 N S t u, α, k_rmTg τ 2 S)) := by
  refine x_aload_n (pc := 37) 2 dX8_keep_37 rfl rfl ?_
  refine x_aload_n (pc := 38) 0 dX8_keep_38 rfl rfl ?_
  refine x_getr (pc := 39) 10 dX8_keep_39 fX8_10 (zat_b rfl rfl) rfl ?_
  refine x_callV1v (pc := 42) dX8_keep_42 lX8_131 (zat_k4 h4 (by decide) rfl) rfl (s_cpA20 d h4 hc hg) (Nat.le_of_ble_eq_true rfl) (Or.inr (zfr3 ⟨zpl_b rfl, rfl⟩ ⟨zin_k4 h4 (by decide), rfl⟩)) ?_
  refine x_iconst (pc := 45) (nI 1) dX8_keep_45 (by decide) ?_
  refine x_zret (pc := 46) dX8_keep_46 rfl (by decide) ?_
  exact ⟨rfl, rfl⟩
theorem s_keep1 (d : Nat) {N S t u : Nat} (h : ¬ κ 2 1 = 0) (h4 : τ.2 4 = 1) (hc : kCp κ τ 0 N S t u) (hg : τ.2 2 ≤ 24000) : zTr E (d + 5) mX8_keep [.ref 0, .int (nI 1)] (κ, α, τ) (some (.int (nI 1))) (k_cpA κ τ 2 0 N S t u, α, k_rmTg τ 2 S) := by
  refine zM.tr (zM_of [some (.ref 0), some (.int (nI 1)), none] (by decide) rfl (Nat.le_of_ble_eq_true rfl) ?_)
  refine x_iload_n (pc := 0) 1 dX8_keep_0 rfl rfl ?_
  refine x_if_lt_f (pc := 1) 9 dX8_keep_1 (by decide) (by decide) ?_
  refine x_iload_n (pc := 4) 1 dX8_keep_4 rfl rfl ?_
  refine x_iconst (pc := 5) (nI 2) dX8_keep_5 (by decide) ?_
  refine x_icmp_lt_t (pc := 6) 11 dX8_keep_6 (by decide) (by decide) ?_
  refine x_aload_n (pc := 11) 0 dX8_keep_11 rfl rfl ?_
  refine x_getr (pc := 12) (2) dX8_keep_12 fX8_16 (zat_b rfl rfl) rfl ?_
  refine x_iload_n (pc := 15) 1 dX8_keep_15 rfl rfl ?_
  refine x_aald2 (pc := 16) 1 (by decide) dX8_keep_16 ?_
  rw [show zkv (zr (κ, α, τ) 2 1) 1 = .ref 50 from if_neg h]
  refine x_astore_n (pc := 17) 2 dX8_keep_17 rfl (by decide) rfl ?_
  refine x_aload_n (pc := 18) 2 dX8_keep_18 rfl rfl ?_
  refine x_ifnonnull (pc := 19) 37 dX8_keep_19 (by decide) ?_
  exact l_keep1 d h4 hc hg
theorem s_keepN1 (d : Nat) {N S t u : Nat} (h : κ 2 1 = 0) (h0 : τ.2 4 ≠ 1) (hc : kCp κ τ 0 N S t u) : zTr E (d + 5) mX8_keep [.ref 0, .int (nI 1)] (κ, α, τ) (some (.int (nI 1))) (k_cpA (k_nK κ 2) (k_nT τ 2) 2 0 N S t u, α, k_rmTg (k_nT τ 2) 2 S) := by
  refine zM.tr (zM_of [some (.ref 0), some (.int (nI 1)), none] (by decide) rfl (Nat.le_of_ble_eq_true rfl) ?_)
  refine x_iload_n (pc := 0) 1 dX8_keep_0 rfl rfl ?_
  refine x_if_lt_f (pc := 1) 9 dX8_keep_1 (by decide) (by decide) ?_
  refine x_iload_n (pc := 4) 1 dX8_keep_4 rfl rfl ?_
  refine x_iconst (pc := 5) (nI 2) dX8_keep_5 (by decide) ?_
  refine x_icmp_lt_t (pc := 6) 11 dX8_keep_6 (by decide) (by decide) ?_
  refine x_aload_n (pc := 11) 0 dX8_keep_11 rfl rfl ?_
  refine x_getr (pc := 12) (2) dX8_keep_12 fX8_16 (zat_b rfl rfl) rfl ?_
  refine x_iload_n (pc := 15) 1 dX8_keep_15 rfl rfl ?_
  refine x_aald2 (pc := 16) 1 (by decide) dX8_keep_16 ?_
  rw [show zkv (zr (κ, α, τ) 2 1) 1 = .null from if_pos h]
  refine x_astore_nN (pc := 17) 2 dX8_keep_17 rfl (by decide) rfl ?_
  refine x_aload_nN (pc := 18) 2 dX8_keep_18 rfl rfl ?_
  refine x_ifnonnullN (pc := 19) dX8_keep_19 ?_
  refine zX.sub (ls' := [some (.ref 0), some (.int (nI 1)), none]) (zs1 (zs1 (zsn zse))) ?_
  have k := l_keep1 (E := E) (κ := k_nK κ 2) (α := α) (τ := k_nT τ 2) d (N := N) (S := S) (t := t) (u := u) rfl (hc.new (by decide) (by decide)) (by show 512 ≤ 24000; decide)
  obtain ⟨r, ν, hk, k⟩ := k
  exact ⟨r, ν, hk, g_newState (μ := (κ, α, τ)) (by decide) h0 k⟩
end KB
