/-! the class: a state is copied into another -/
def kcp (κ : Nat → Nat → Int32) (pd ps n : Nat) : Nat → Nat → Int32 := fun x j => if x = pd ∧ j < n then κ ps j else κ x j
theorem kcp_p {κ : Nat → Nat → Int32} {pd ps n x j : Nat} (h : x ≠ pd) : kcp κ pd ps n x j = κ x j := if_neg (fun q => h q.1)
theorem kcp_lt {κ : Nat → Nat → Int32} {pd ps n j : Nat} (h : j < n) : kcp κ pd ps n pd j = κ ps j := if_pos ⟨rfl, h⟩
def k_rmKg (κ : Nat → Nat → Int32) (τ : (Nat → Nat → Int64) × (Nat → Nat)) (g n : Nat) : Nat → Nat → Int32 := if n ≤ τ.2 g then κ else fun p j => if p = 16 + 20 * g ∧ τ.2 g ≤ j then 0 else κ p j
def k_rmTg (τ : (Nat → Nat → Int64) × (Nat → Nat)) (g n : Nat) : (Nat → Nat → Int64) × (Nat → Nat) := if n ≤ τ.2 g then τ else (τ.1, fun k => if k = g then kRl (τ.2 g) n else if k = 5 then τ.2 5 + 1 else if k = 6 then τ.2 6 + kRl (τ.2 g) n else τ.2 k)
theorem k_room_eqg {κ α : Nat → Nat → Int32} {τ : (Nat → Nat → Int64) × (Nat → Nat)} {g n : Nat} : k_room (κ, α, τ) g n = (k_rmKg κ τ g n, α, k_rmTg τ g n) := by
  unfold k_room k_rmKg k_rmTg
  show (if n ≤ τ.2 g then _ else _) = _
  split <;> rfl
theorem k_rmKg_p {κ : Nat → Nat → Int32} {τ : (Nat → Nat → Int64) × (Nat → Nat)} {g n p : Nat} (h : p ≠ 16 + 20 * g) : k_rmKg κ τ g n p = κ p := by
  unfold k_rmKg
  split
  · rfl
  · funext j
    exact if_neg (fun q => h q.1)
theorem k_rmTg_ge {τ : (Nat → Nat → Int64) × (Nat → Nat)} {g n : Nat} : n ≤ (k_rmTg τ g n).2 g := by
  unfold k_rmTg
  split
  · assumption
  · show n ≤ if g = g then kRl (τ.2 g) n else _
    rw [if_pos rfl]
    unfold kRl
    rename_i h
    rw [if_neg h]
    split <;> omega
theorem k_rmTg_k {τ : (Nat → Nat → Int64) × (Nat → Nat)} {g n k : Nat} (h : k ≠ g) (h5 : k ≠ 5) (h6 : k ≠ 6) : (k_rmTg τ g n).2 k = τ.2 k := by
  unfold k_rmTg
  split
  · rfl
  · show (if k = g then _ else _) = _
    rw [if_neg h, if_neg h5, if_neg h6]
theorem zin_k3 {κ α : Nat → Nat → Int32} {τ : (Nat → Nat → Int64) × (Nat → Nat)} (h : τ.2 3 = 1) {p : Nat} (hp : p ∈ zB0) : p ∈ zpl (κ, α, τ) := by
  unfold zpl
  rw [if_pos (show zg (κ, α, τ) 3 = 1 from h)]
  exact List.mem_append_right _ (List.mem_append_left _ hp)
theorem zin_k4 {κ α : Nat → Nat → Int32} {τ : (Nat → Nat → Int64) × (Nat → Nat)} (h : τ.2 4 = 1) {p : Nat} (hp : p ∈ zB1) : p ∈ zpl (κ, α, τ) := by
  unfold zpl
  rw [if_pos (show zg (κ, α, τ) 4 = 1 from h)]
  exact List.mem_append_right _ (List.mem_append_right _ hp)
theorem zat_k3 {κ α : Nat → Nat → Int32} {τ : (Nat → Nat → Int64) × (Nat → Nat)} (h : τ.2 3 = 1) {p ci : Nat} (hp : p ∈ zB0) (hc : zcls p = some ci) : zat (κ, α, τ) p ci := ⟨zin_k3 h hp, hc⟩
theorem zat_k4 {κ α : Nat → Nat → Int32} {τ : (Nat → Nat → Int64) × (Nat → Nat)} (h : τ.2 4 = 1) {p ci : Nat} (hp : p ∈ zB1) (hc : zcls p = some ci) : zat (κ, α, τ) p ci := ⟨zin_k4 h hp, hc⟩
theorem zar_k3 {κ α : Nat → Nat → Int32} {τ : (Nat → Nat → Int64) × (Nat → Nat)} (h : τ.2 3 = 1) {p a : Nat} (hp : p ∈ zB0) (hc : zcls p = none) (ha : zaty p = some a) : zar (κ, α, τ) p a := ⟨zin_k3 h hp, hc, ha⟩
theorem zar_k4 {κ α : Nat → Nat → Int32} {τ : (Nat → Nat → Int64) × (Nat → Nat)} (h : τ.2 4 = 1) {p a : Nat} (hp : p ∈ zB1) (hc : zcls p = none) (ha : zaty p = some a) : zar (κ, α, τ) p a := ⟨zin_k4 h hp, hc, ha⟩
theorem zfr2 {μ : zMem} {a b : Nat} (ha : a ∈ zpl μ ∧ zstab a = true) (hb : b ∈ zpl μ ∧ zstab b = true) : ∀ p, (some (Value.ref p) ∈ ([some (.ref a), some (.ref b)] : List (Option Value)) ∨ Value.ref p ∈ ([] : List Value)) → p ∈ zpl μ ∧ zstab p = true := by
  intro p hp
  rcases hp with hp | hp
  · simp only [List.mem_cons, List.not_mem_nil, or_false, Option.some.injEq, Value.ref.injEq] at hp
    rcases hp with rfl | rfl
    · exact ha
    · exact hb
  · cases hp
theorem x_acopy {E : zEnv} {d : Nat} {y : zY} {pc : Nat} {ls : List (Option Value)} {st : List Value} {P : Option Value → zMem → Prop} {κ α : Nat → Nat → Int32} {τ : (Nat → Nat → Int64) × (Nat → Nat)} {idx ps pd t n : Nat} {xn : Int32} (hd : decode y.2.1 pc = .ok (.invokestatic idx, 3)) (hl : Cond.methodLink y.1.cls idx arraycopyName ∈ zT) (hp : zar (κ, α, τ) ps t) (hq : zar (κ, α, τ) pd t) (ht : t < 4) (hs : Nat.ble 100 ps = false) (hdl : Nat.ble 100 pd = false) (e : xn = nI n ∧ n < 2 ^ 31) (h4 : n ≤ zln (κ, α, τ) ps) (h5 : n ≤ zln (κ, α, τ) pd) (hfit : ∀ i, i < n → fits (zty t) (.int (κ ps i)) = true) (hw : ((st.map fun v => v.category).sum) ≤ 8) (kk : zX E (d + 1) y (pc + 3) ls st (kcp κ pd ps n, α, τ) P) : zX E (d + 1) y pc ls (.int xn :: .int (nI 0) :: .ref pd :: .int (nI 0) :: .ref ps :: st) (κ, α, τ) P := zX.map (μ := (kcp κ pd ps n, α, τ)) (h := fun r ν kk => ⟨kk.1, fun p1 e1 s m args below meth c μ0 ad0 ad H locs LS C h1 h2 h3 hh4 hh5 h6 => by
  obtain ⟨e, hn31⟩ := e
  subst e
  obtain ⟨i0, hi01, hi02⟩ := zws_at (E := E) (ad := ad) hp.1
  obtain ⟨i1, hi11, hi12⟩ := zws_at (E := E) (ad := ad) hq.1
  rw [zcel_arr hp.2.1 hp.2.2, zarr_int ht] at hi02
  rw [zcel_arr hq.2.1 hq.2.2, zarr_int ht] at hi12
  have c1 : (nI 0).toNatClampNeg = 0 := nI_clamp (by omega)
  have c3 : (nI n).toNatClampNeg = n := nI_clamp (by omega)
  refine va_copyi C.1 C.2.1 (C.2.2.1.trans h6.1.symm) C.2.2.2.2.2.1 (C.2.2.2.2.2.2.1 _ hl) (C.2.2.2.2.2.2.1 _ w_cpy2) (C.2.2.2.2.2.2.1 _ w_cpy1) (C.2.2.2.2.2.2.1 _ w_sys) C.2.2.2.2.2.2.2.1 hh4.1 hh4.2.1 hh5 i0 i1 t t hi02 hi12 (ztys_at (by omega)) (ztys_at (by omega)) ?_ (nI_pos (by omega)) (nI_pos (by omega)) (nI_pos (by omega)) (by rw [c1, c3, Nat.zero_add]; exact h4) (by rw [c1, c3, Nat.zero_add]; exact h5) (fun i hi => by rw [c1, Nat.zero_add]; rw [c3] at hi; rw [zr_lo hs]; exact hfit i hi) (by show 1 ≤ d + 1; omega) ?_ hd (fun H1 locs1 hP hD hS => ?_)
  · match t, ht with
    | 0, _ => rfl
    | 1, _ => rfl
    | 2, _ => rfl
    | 3, _ => rfl
  · have hz : nativeFrameWords "java/lang/System" "arraycopy" 5 + 11 ≤ 40 := by decide +kernel
    show _ ≤ 60 * (d + 1)
    rw [List.map_map, show (fun v : Value => v.category) ∘ ztv ad = (fun v : Value => v.category) from funext (ztv_cat ad)]
    omega
  · rw [c1, c3] at hP hD
    have hrz : ∀ (q j : Nat), zr (kcp κ pd ps n, α, τ) q j = if q = pd ∧ j < n then zr (κ, α, τ) ps j else zr (κ, α, τ) q j := by
      intro q j
      by_cases hb : q = pd
      · subst hb
        rw [zr_lo hdl, zr_lo hdl, zr_lo hs]
        rfl
      · rw [if_neg (fun z => hb z.1)]
        unfold zr
        cases Nat.ble 100 q
        · show kcp κ pd ps n q j = κ q j
          exact kcp_p hb
        · rfl
    have he := zws_set (E := E) (ad := ad) (μ := (κ, α, τ)) (ν := (kcp κ pd ps n, α, τ)) (p := pd) (k := i1) (e := .inl (zcy E t, zln (κ, α, τ) pd, .inl (va_cpy (fun j => zr (κ, α, τ) ps j) (fun j => zr (κ, α, τ) pd j) 0 0 n))) hh4.2.1 hi11 rfl (by
      rw [zcel_arr hq.2.1 hq.2.2, zarr_int ht]
      show Sum.inl (zcy E t, zln (κ, α, τ) pd, Sum.inl _) = _
      congr 4
      funext j
      rw [hrz]
      unfold va_cpy
      by_cases g : j < n
      · rw [if_pos ⟨rfl, g⟩, if_pos ⟨Nat.zero_le _, by omega⟩, Nat.sub_zero, Nat.zero_add]
      · rw [if_neg (fun z => g z.2), if_neg (fun z => g (by omega))]) (fun q hne => by
      have h2 : ∀ j, zr (kcp κ pd ps n, α, τ) q j = zr (κ, α, τ) q j := fun j => by rw [hrz, if_neg (fun z => hne z.1)]
      unfold zcel zfv zarr
      simp only [h2]
      rfl)
    exact kk.2 p1 e1 s m args below meth c μ0 ad0 ad H1 locs1 LS C h1 h2 h3 ⟨by rw [← he]; exact hP, by rw [← he]; exact hD, hh4.2.2⟩ hS h6⟩) kk
def k_cp1 (κ : Nat → Nat → Int32) (p q : Nat) : Nat → Nat → Int32 := zup (zup κ p 5 (κ q 5)) p 6 (κ q 6)
def k_cp2 (κ : Nat → Nat → Int32) (p q N : Nat) : Nat → Nat → Int32 := kcp (kcp (kcp (kcp (k_cp1 κ p q) (p + 1) (q + 1) N) (p + 2) (q + 2) N) (p + 3) (q + 3) N) (p + 4) (q + 4) (N + 1)
def k_cpS (κ : Nat → Nat → Int32) (τ : (Nat → Nat → Int64) × (Nat → Nat)) (g h N S : Nat) : Nat → Nat → Int32 := kcp (k_rmKg (k_cp2 κ (11 + 20 * g) (11 + 20 * h) N) τ g S) (16 + 20 * g) (16 + 20 * h) S
def k_cpFld (p q k : Nat) (κ : Nat → Nat → Int32) : Nat → Nat → Int32 := zup κ p k (κ q k)
def k_cp4 (κ : Nat → Nat → Int32) (τ : (Nat → Nat → Int64) × (Nat → Nat)) (g h N S t u : Nat) : Nat → Nat → Int32 := kcp (k_cpR (k_cpR (k_cpS κ τ g h N S) (17 + 20 * g) (17 + 20 * h) t) (19 + 20 * g) (19 + 20 * h) u) (21 + 20 * g) (21 + 20 * h) 31
def k_cpA (κ : Nat → Nat → Int32) (τ : (Nat → Nat → Int64) × (Nat → Nat)) (g h N S t u : Nat) : Nat → Nat → Int32 := zit (k_cpFld (10 + 20 * g) (10 + 20 * h)) 4 13 (k_cp4 κ τ g h N S t u)
section CP
variable {E : zEnv} {κ α : Nat → Nat → Int32} {τ : (Nat → Nat → Int64) × (Nat → Nat)}
theorem kRow37 (h3 : τ.2 3 = 1) : kRow τ 37 8 := ⟨fun _ _ => zat_k3 h3 (by decide) rfl, fun _ _ => zar_k3 h3 (by decide) rfl rfl, fun _ _ => rfl, rfl, rfl, rfl, rfl, rfl, by decide⟩
theorem kRow39 (h3 : τ.2 3 = 1) : kRow τ 39 8 := ⟨fun _ _ => zat_k3 h3 (by decide) rfl, fun _ _ => zar_k3 h3 (by decide) rfl rfl, fun _ _ => rfl, rfl, rfl, rfl, rfl, rfl, by decide⟩
theorem kRow57 (h4 : τ.2 4 = 1) : kRow τ 57 8 := ⟨fun _ _ => zat_k4 h4 (by decide) rfl, fun _ _ => zar_k4 h4 (by decide) rfl rfl, fun _ _ => rfl, rfl, rfl, rfl, rfl, rfl, by decide⟩
theorem kRow59 (h4 : τ.2 4 = 1) : kRow τ 59 8 := ⟨fun _ _ => zat_k4 h4 (by decide) rfl, fun _ _ => zar_k4 h4 (by decide) rfl rfl, fun _ _ => rfl, rfl, rfl, rfl, rfl, rfl, by decide⟩
/-- the state at block h is in order, as far as copying wants it -/
def kCp (κ : Nat → Nat → Int32) (τ : (Nat → Nat → Int64) × (Nat → Nat)) (h N S t u : Nat) : Prop := (κ (11 + 20 * h) 5 = nI N ∧ N ≤ 400) ∧ (κ (15 + 20 * h) N = nI S ∧ S ≤ 12000 ∧ S ≤ τ.2 h) ∧ (∀ i, i < N → fits .byte (.int (κ (14 + 20 * h) i)) = true) ∧ (κ (17 + 20 * h) 1 = nI t ∧ t ≤ 8) ∧ (κ (19 + 20 * h) 1 = nI u ∧ u ≤ 8) ∧ ∃ b : Bool, κ (10 + 20 * h) 7 = zbo b

theorem s_cpS10 (d : Nat) {N S t u : Nat} (h3 : τ.2 3 = 1) (hc : kCp κ τ 0 N S t u) (hg : τ.2 1 ≤ 24000) : zTr E (d + 3) mX5_copyFrom [.ref 31, .ref 11] (κ, α, τ) none (k_cpS κ τ 1 0 N S, α, k_rmTg τ 1 S) := by
  obtain ⟨⟨c1, c2⟩, ⟨c3, c4, c5⟩, c6, -⟩ := hc
  have c1 : κ 11 5 = nI N := c1
  have c3 : κ 15 N = nI S := c3
  have c6 : ∀ i, i < N → fits .byte (.int (κ 14 i)) = true := c6
  refine zM.tr (zM_of [some (.ref 31), some (.ref 11)] (by decide) rfl (Nat.le_of_ble_eq_true rfl) ?_)
  refine x_aload_n (pc := 0) 0 dX5_copyFrom_0 rfl rfl ?_
  refine x_aload_n (pc := 1) 1 dX5_copyFrom_1 rfl rfl ?_
  refine x_geti_l (pc := 2) dX5_copyFrom_2 fX5_28 (zat_b rfl rfl) rfl rfl ?_
  refine x_puti_l (pc := 5) dX5_copyFrom_5 pX5_28 (zat_k3 h3 (by decide) rfl) rfl rfl ?_
  refine x_aload_n (pc := 8) 0 dX5_copyFrom_8 rfl rfl ?_
  refine x_aload_n (pc := 9) 1 dX5_copyFrom_9 rfl rfl ?_
  refine x_geti_l (pc := 10) dX5_copyFrom_10 fX5_32 (zat_b rfl rfl) rfl rfl ?_
  rw [zup_p (by decide)]
  refine x_puti_l (pc := 13) dX5_copyFrom_13 pX5_32 (zat_k3 h3 (by decide) rfl) rfl rfl ?_
  refine x_aload_n (pc := 16) 1 dX5_copyFrom_16 rfl rfl ?_
  refine x_getr (pc := 17) (12) dX5_copyFrom_17 fX5_9 (zat_b rfl rfl) rfl ?_
  refine x_iconst (pc := 20) (nI 0) dX5_copyFrom_20 (by decide) ?_
  refine x_aload_n (pc := 21) 0 dX5_copyFrom_21 rfl rfl ?_
  refine x_getr (pc := 22) (32) dX5_copyFrom_22 fX5_9 (zat_k3 h3 (by decide) rfl) rfl ?_
  refine x_iconst (pc := 25) (nI 0) dX5_copyFrom_25 (by decide) ?_
  refine x_aload_n (pc := 26) 0 dX5_copyFrom_26 rfl rfl ?_
  refine x_geti_l (pc := 27) dX5_copyFrom_27 fX5_28 (zat_k3 h3 (by decide) rfl) rfl rfl ?_
  show zX E (d + 3) mX5_copyFrom 30 [some (.ref 31), some (.ref 11)] [.int (k_cp1 κ 31 11 31 5), .int (nI 0), .ref 32, .int (nI 0), .ref 12] (k_cp1 κ 31 11, α, τ) _
  have e0 : ∀ p, p ≠ 31 → k_cp1 κ 31 11 p = κ p := fun p hp => by funext j; unfold k_cp1; rw [zup_p hp, zup_p hp]
  have e5 : k_cp1 κ 31 11 31 5 = nI N := by unfold k_cp1; rw [zup_i (by decide), zup_same]; exact c1
  have eF : k_cpS κ τ 1 0 N S = kcp (k_rmKg (kcp (kcp (kcp (kcp (k_cp1 κ 31 11) 32 12 N) 33 13 N) 34 14 N) 35 15 (N + 1)) τ 1 S) 36 16 S := rfl
  rw [eF]
  generalize k_cp1 κ 31 11 = K at e0 e5 ⊢
  refine x_acopy (pc := 30) (t := 0) dX5_copyFrom_30 w_cpyX5 (zar_b rfl rfl rfl) (zar_k3 h3 (by decide) rfl rfl) (by decide) rfl rfl (n := N) (⟨e5, by omega⟩) (c2) (c2) (fun i _ => rfl) (Nat.le_of_ble_eq_true rfl) ?_
  refine x_aload_n (pc := 33) 1 dX5_copyFrom_33 rfl rfl ?_
  refine x_getr (pc := 34) (13) dX5_copyFrom_34 fX5_15 (zat_b rfl rfl) rfl ?_
  refine x_iconst (pc := 37) (nI 0) dX5_copyFrom_37 (by decide) ?_
  refine x_aload_n (pc := 38) 0 dX5_copyFrom_38 rfl rfl ?_
  refine x_getr (pc := 39) (33) dX5_copyFrom_39 fX5_15 (zat_k3 h3 (by decide) rfl) rfl ?_
  refine x_iconst (pc := 42) (nI 0) dX5_copyFrom_42 (by decide) ?_
  refine x_aload_n (pc := 43) 0 dX5_copyFrom_43 rfl rfl ?_
  refine x_geti_l (pc := 44) dX5_copyFrom_44 fX5_28 (zat_k3 h3 (by decide) rfl) rfl rfl ?_
  rw [kcp_p (by decide)]
  refine x_acopy (pc := 47) (t := 0) dX5_copyFrom_47 w_cpyX5 (zar_b rfl rfl rfl) (zar_k3 h3 (by decide) rfl rfl) (by decide) rfl rfl (n := N) (⟨e5, by omega⟩) (c2) (c2) (fun i _ => rfl) (Nat.le_of_ble_eq_true rfl) ?_
  refine x_aload_n (pc := 50) 1 dX5_copyFrom_50 rfl rfl ?_
  refine x_getr (pc := 51) (14) dX5_copyFrom_51 fX5_18 (zat_b rfl rfl) rfl ?_
  refine x_iconst (pc := 54) (nI 0) dX5_copyFrom_54 (by decide) ?_
  refine x_aload_n (pc := 55) 0 dX5_copyFrom_55 rfl rfl ?_
  refine x_getr (pc := 56) (34) dX5_copyFrom_56 fX5_18 (zat_k3 h3 (by decide) rfl) rfl ?_
  refine x_iconst (pc := 59) (nI 0) dX5_copyFrom_59 (by decide) ?_
  refine x_aload_n (pc := 60) 0 dX5_copyFrom_60 rfl rfl ?_
  refine x_geti_l (pc := 61) dX5_copyFrom_61 fX5_28 (zat_k3 h3 (by decide) rfl) rfl rfl ?_
  rw [kcp_p (by decide), kcp_p (by decide)]
  refine x_acopy (pc := 64) (t := 1) dX5_copyFrom_64 w_cpyX5 (zar_b rfl rfl rfl) (zar_k3 h3 (by decide) rfl rfl) (by decide) rfl rfl (n := N) (⟨e5, by omega⟩) (c2) (c2) (fun i hi => by rw [kcp_p (by decide), kcp_p (by decide), e0 14 (by decide)]; exact c6 i hi) (Nat.le_of_ble_eq_true rfl) ?_
  refine x_aload_n (pc := 67) 1 dX5_copyFrom_67 rfl rfl ?_
  refine x_getr (pc := 68) (15) dX5_copyFrom_68 fX5_22 (zat_b rfl rfl) rfl ?_
  refine x_iconst (pc := 71) (nI 0) dX5_copyFrom_71 (by decide) ?_
  refine x_aload_n (pc := 72) 0 dX5_copyFrom_72 rfl rfl ?_
  refine x_getr (pc := 73) (35) dX5_copyFrom_73 fX5_22 (zat_k3 h3 (by decide) rfl) rfl ?_
  refine x_iconst (pc := 76) (nI 0) dX5_copyFrom_76 (by decide) ?_
  refine x_aload_n (pc := 77) 0 dX5_copyFrom_77 rfl rfl ?_
  refine x_geti_l (pc := 78) dX5_copyFrom_78 fX5_28 (zat_k3 h3 (by decide) rfl) rfl rfl ?_
  rw [kcp_p (by decide), kcp_p (by decide), kcp_p (by decide), e5]
  refine x_iconst (pc := 81) (nI 1) dX5_copyFrom_81 (by decide) ?_
  refine x_iadd (pc := 82) dX5_copyFrom_82 ?_
  rw [nI_add]
  refine x_acopy (pc := 83) (t := 0) dX5_copyFrom_83 w_cpyX5 (zar_b rfl rfl rfl) (zar_k3 h3 (by decide) rfl rfl) (by decide) rfl rfl (n := N + 1) (⟨rfl, by omega⟩) (Nat.succ_le_succ c2) (Nat.succ_le_succ c2) (fun i _ => rfl) (Nat.le_of_ble_eq_true rfl) ?_
  refine x_aload_n (pc := 86) 0 dX5_copyFrom_86 rfl rfl ?_
  refine x_aload_n (pc := 87) 0 dX5_copyFrom_87 rfl rfl ?_
  refine x_getr (pc := 88) (35) dX5_copyFrom_88 fX5_22 (zat_k3 h3 (by decide) rfl) rfl ?_
  refine x_aload_n (pc := 91) 0 dX5_copyFrom_91 rfl rfl ?_
  refine x_geti_l (pc := 92) dX5_copyFrom_92 fX5_28 (zat_k3 h3 (by decide) rfl) rfl rfl ?_
  rw [kcp_p (x := 31) (by decide), kcp_p (by decide), kcp_p (by decide), kcp_p (by decide), e5]
  have hj95 : N < 401 := by omega
  refine x_iald_l (pc := 95) (N) dX5_copyFrom_95 (zar_k3 h3 (by decide) rfl rfl) rfl (by first | rfl | simp only [pk_mul, nI_add] | simp only [zon, pk_mul, nI_add]) hj95 (Nat.lt_of_lt_of_le hj95 (by decide)) ?_
  rw [kcp_lt (by omega), kcp_p (by decide), kcp_p (by decide), kcp_p (by decide), e0 15 (by decide), c3]
  have q5 : (kcp (kcp (kcp (kcp K 32 12 N) 33 13 N) 34 14 N) 35 15 (N + 1)) 31 5 = nI N := by rw [kcp_p (by decide), kcp_p (by decide), kcp_p (by decide), kcp_p (by decide)]; exact e5
  have q4 : (kcp (kcp (kcp (kcp K 32 12 N) 33 13 N) 34 14 N) 35 15 (N + 1)) 35 N = nI S := by rw [kcp_lt (by omega), kcp_p (by decide), kcp_p (by decide), kcp_p (by decide), e0 15 (by decide)]; exact c3
  generalize kcp (kcp (kcp (kcp K 32 12 N) 33 13 N) 34 14 N) 35 15 (N + 1) = J at q5 q4 ⊢
  refine x_callV1v (pc := 96) dX5_copyFrom_96 lX5_44 (zat_k3 h3 (by decide) rfl) rfl (s_makeRoom (g := 1) (d := d) (μ := (J, α, τ)) (by decide) (zar_k3 h3 (by decide) rfl rfl) (zat_k3 h3 (by decide) rfl) (by omega) hg) (Nat.le_of_ble_eq_true rfl) (Or.inr (zfr2 ⟨zin_k3 h3 (by decide), rfl⟩ ⟨zpl_b rfl, rfl⟩)) ?_
  rw [k_room_eqg]
  have g1 := k_rmTg_ge (τ := τ) (g := 1) (n := S)
  have g2 : S ≤ (k_rmTg τ 1 S).2 0 := by rw [k_rmTg_k (by decide) (by decide) (by decide)]; exact c5
  have h3 : (k_rmTg τ 1 S).2 3 = 1 := by rw [k_rmTg_k (by decide) (by decide) (by decide)]; exact h3
  have q5 : k_rmKg J τ 1 S 31 5 = nI N := by rw [k_rmKg_p (by decide)]; exact q5
  have q4 : k_rmKg J τ 1 S 35 N = nI S := by rw [k_rmKg_p (by decide)]; exact q4
  refine x_aload_n (pc := 99) 1 dX5_copyFrom_99 rfl rfl ?_
  refine x_getr (pc := 100) (16) dX5_copyFrom_100 fX5_25 (zat_b rfl rfl) rfl ?_
  refine x_iconst (pc := 103) (nI 0) dX5_copyFrom_103 (by decide) ?_
  refine x_aload_n (pc := 104) 0 dX5_copyFrom_104 rfl rfl ?_
  refine x_getr (pc := 105) (36) dX5_copyFrom_105 fX5_25 (zat_k3 h3 (by decide) rfl) rfl ?_
  refine x_iconst (pc := 108) (nI 0) dX5_copyFrom_108 (by decide) ?_
  refine x_aload_n (pc := 109) 0 dX5_copyFrom_109 rfl rfl ?_
  refine x_getr (pc := 110) (35) dX5_copyFrom_110 fX5_22 (zat_k3 h3 (by decide) rfl) rfl ?_
  refine x_aload_n (pc := 113) 0 dX5_copyFrom_113 rfl rfl ?_
  refine x_geti_l (pc := 114) dX5_copyFrom_114 fX5_28 (zat_k3 h3 (by decide) rfl) rfl rfl ?_
  rw [q5]
  have hj117 : N < 401 := by omega
  refine x_iald_l (pc := 117) (N) dX5_copyFrom_117 (zar_k3 h3 (by decide) rfl rfl) rfl (by first | rfl | simp only [pk_mul, nI_add] | simp only [zon, pk_mul, nI_add]) hj117 (Nat.lt_of_lt_of_le hj117 (by decide)) ?_
  rw [q4]
  refine x_acopy (pc := 118) (t := 0) dX5_copyFrom_118 w_cpyX5 (zar_b rfl rfl rfl) (zar_k3 h3 (by decide) rfl rfl) (by decide) rfl rfl (n := S) (⟨rfl, by omega⟩) (g2) (g1) (fun i _ => rfl) (Nat.le_of_ble_eq_true rfl) ?_
  refine x_vret (pc := 121) dX5_copyFrom_121 rfl ?_
  exact ⟨rfl, rfl⟩
theorem s_cpA10 (d : Nat) {N S t u : Nat} (h3 : τ.2 3 = 1) (hc : kCp κ τ 0 N S t u) (hg : τ.2 1 ≤ 24000) : zTr E (d + 4) mX3_copyFrom [.ref 30, .ref 10] (κ, α, τ) none (k_cpA κ τ 1 0 N S t u, α, k_rmTg τ 1 S) := by
  obtain ⟨c1, c3, c6, ⟨c7, c8⟩, ⟨c9, c10⟩, b, c11⟩ := id hc
  have c7 : κ 17 1 = nI t := c7
  have c9 : κ 19 1 = nI u := c9
  have c11 : κ 10 7 = zbo b := c11
  refine zM.tr (zM_of [some (.ref 30), some (.ref 10)] (by decide) rfl (Nat.le_of_ble_eq_true rfl) ?_)
  refine x_aload_n (pc := 0) 0 dX3_copyFrom_0 rfl rfl ?_
  refine x_getr (pc := 1) (31) dX3_copyFrom_1 fX3_12 (zat_k3 h3 (by decide) rfl) rfl ?_
  refine x_aload_n (pc := 4) 1 dX3_copyFrom_4 rfl rfl ?_
  refine x_getr (pc := 5) (11) dX3_copyFrom_5 fX3_12 (zat_b rfl rfl) rfl ?_
  refine x_callV1v (pc := 8) dX3_copyFrom_8 lX3_51 (zat_k3 h3 (by decide) rfl) rfl (s_cpS10 d h3 hc hg) (Nat.le_of_ble_eq_true rfl) (Or.inr (zfr2 ⟨zin_k3 h3 (by decide), rfl⟩ ⟨zpl_b rfl, rfl⟩)) ?_
  have eF : k_cpA κ τ 1 0 N S t u = zit (k_cpFld 30 10) 4 13 (kcp (k_cpR (k_cpR (k_cpS κ τ 1 0 N S) 37 17 t) 39 19 u) 41 21 31) := rfl
  rw [eF]
  have z : ∀ p, p ≠ 31 → p ≠ 32 → p ≠ 33 → p ≠ 34 → p ≠ 35 → p ≠ 36 → k_cpS κ τ 1 0 N S p = κ p := fun p p0 p1 p2 p3 p4 p5 => by
    funext j
    show kcp (k_rmKg (kcp (kcp (kcp (kcp (k_cp1 κ 31 11) 32 12 N) 33 13 N) 34 14 N) 35 15 (N + 1)) τ 1 S) 36 16 S p j = κ p j
    rw [kcp_p p5, k_rmKg_p p5, kcp_p p4, kcp_p p3, kcp_p p2, kcp_p p1]
    unfold k_cp1
    rw [zup_p p0, zup_p p0]
  have h3 : (k_rmTg τ 1 S).2 3 = 1 := by rw [k_rmTg_k (by decide) (by decide) (by decide)]; exact h3
  have d7 : k_cpS κ τ 1 0 N S 17 1 = nI t := by rw [z 17 (by decide) (by decide) (by decide) (by decide) (by decide) (by decide)]; exact c7
  have d9 : k_cpS κ τ 1 0 N S 19 1 = nI u := by rw [z 19 (by decide) (by decide) (by decide) (by decide) (by decide) (by decide)]; exact c9
  have d11 : k_cpS κ τ 1 0 N S 10 7 = zbo b := by rw [z 10 (by decide) (by decide) (by decide) (by decide) (by decide) (by decide)]; exact c11
  generalize k_cpS κ τ 1 0 N S = K at d7 d9 d11 ⊢
  generalize k_rmTg τ 1 S = τ' at h3 ⊢
  have r1 : kRow τ' 37 8 := kRow37 h3
  have r2 : kRow τ' 17 8 := kRow17
  have r3 : kRow τ' 39 8 := kRow39 h3
  have r4 : kRow τ' 19 8 := kRow19
  refine x_aload_n (pc := 11) 0 dX3_copyFrom_11 rfl rfl ?_
  refine x_getr (pc := 12) (37) dX3_copyFrom_12 fX3_23 (zat_k3 h3 (by decide) rfl) rfl ?_
  refine x_aload_n (pc := 15) 1 dX3_copyFrom_15 rfl rfl ?_
  refine x_getr (pc := 16) (17) dX3_copyFrom_16 fX3_23 (zat_b rfl rfl) rfl ?_
  refine x_callV1v (pc := 19) dX3_copyFrom_19 lX3_55 (zat_k3 h3 (by decide) rfl) rfl (s_rowCopy (t := t) d r1 r2 (by decide) (by decide) (by decide) d7 c8 c8) (Nat.le_of_ble_eq_true rfl) (Or.inl zgr) ?_
  refine x_aload_n (pc := 22) 0 dX3_copyFrom_22 rfl rfl ?_
  refine x_getr (pc := 23) (39) dX3_copyFrom_23 fX3_27 (zat_k3 h3 (by decide) rfl) rfl ?_
  refine x_aload_n (pc := 26) 1 dX3_copyFrom_26 rfl rfl ?_
  refine x_getr (pc := 27) (19) dX3_copyFrom_27 fX3_27 (zat_b rfl rfl) rfl ?_
  refine x_callV1v (pc := 30) dX3_copyFrom_30 lX3_55 (zat_k3 h3 (by decide) rfl) rfl (s_rowCopy (t := u) d r3 r4 (by decide) (by decide) (by decide) (by rw [k_cpR_p (by decide) (by decide)]; exact d9) c10 c10) (Nat.le_of_ble_eq_true rfl) (Or.inl zgr) ?_
  refine x_aload_n (pc := 33) 1 dX3_copyFrom_33 rfl rfl ?_
  refine x_getr (pc := 34) (21) dX3_copyFrom_34 fX3_30 (zat_b rfl rfl) rfl ?_
  refine x_iconst (pc := 37) (nI 0) dX3_copyFrom_37 (by decide) ?_
  refine x_aload_n (pc := 38) 0 dX3_copyFrom_38 rfl rfl ?_
  refine x_getr (pc := 39) (41) dX3_copyFrom_39 fX3_30 (zat_k3 h3 (by decide) rfl) rfl ?_
  refine x_iconst (pc := 42) (nI 0) dX3_copyFrom_42 (by decide) ?_
  refine x_aload_n (pc := 43) 0 dX3_copyFrom_43 rfl rfl ?_
  refine x_getr (pc := 44) (41) dX3_copyFrom_44 fX3_30 (zat_k3 h3 (by decide) rfl) rfl ?_
  refine x_alen (pc := 47) dX3_copyFrom_47 (zar_k3 h3 (by decide) rfl rfl) (by decide) ?_
  have f11 : kcp (k_cpR (k_cpR K 37 17 t) 39 19 u) 41 21 31 10 7 = zbo b := by rw [kcp_p (by decide), k_cpR_p (by decide) (by decide), k_cpR_p (by decide) (by decide)]; exact d11
  refine x_acopy (pc := 48) (t := 0) dX3_copyFrom_48 w_cpyX3 (zar_b rfl rfl rfl) (zar_k3 h3 (by decide) rfl rfl) (by decide) rfl rfl (n := 31) (⟨rfl, by decide⟩) (Nat.le_refl _) (Nat.le_refl _) (fun i _ => rfl) (Nat.le_of_ble_eq_true rfl) ?_
  generalize kcp (k_cpR (k_cpR K 37 17 t) 39 19 u) 41 21 31 = J at f11 ⊢
  have bb : narrow .boolean (.int (zup (zup (zup J 30 4 (J 10 4)) 30 5 (zup J 30 4 (J 10 4) 10 5)) 30 6 (zup (zup J 30 4 (J 10 4)) 30 5 (zup J 30 4 (J 10 4) 10 5) 10 6) 10 7)) = .int (zup (zup (zup J 30 4 (J 10 4)) 30 5 (zup J 30 4 (J 10 4) 10 5)) 30 6 (zup (zup J 30 4 (J 10 4)) 30 5 (zup J 30 4 (J 10 4) 10 5) 10 6) 10 7) ∧ fits .boolean (.int (zup (zup (zup J 30 4 (J 10 4)) 30 5 (zup J 30 4 (J 10 4) 10 5)) 30 6 (zup (zup J 30 4 (J 10 4)) 30 5 (zup J 30 4 (J 10 4) 10 5) 10 6) 10 7)) = true := by
    have e : zup (zup (zup J 30 4 (J 10 4)) 30 5 (zup J 30 4 (J 10 4) 10 5)) 30 6 (zup (zup J 30 4 (J 10 4)) 30 5 (zup J 30 4 (J 10 4) 10 5) 10 6) 10 7 = zbo b := by rw [zup_p (by decide), zup_p (by decide), zup_p (by decide)]; exact f11
    rw [e]
    exact ⟨zbo_nar b, zbo_fit b⟩
  refine x_aload_n (pc := 51) 0 dX3_copyFrom_51 rfl rfl ?_
  refine x_aload_n (pc := 52) 1 dX3_copyFrom_52 rfl rfl ?_
  refine x_geti_l (pc := 53) dX3_copyFrom_53 fX3_41 (zat_b rfl rfl) rfl rfl ?_
  refine x_puti_l (pc := 56) dX3_copyFrom_56 pX3_41 (zat_k3 h3 (by decide) rfl) rfl rfl ?_
  refine x_aload_n (pc := 59) 0 dX3_copyFrom_59 rfl rfl ?_
  refine x_aload_n (pc := 60) 1 dX3_copyFrom_60 rfl rfl ?_
  refine x_geti_l (pc := 61) dX3_copyFrom_61 fX3_44 (zat_b rfl rfl) rfl rfl ?_
  refine x_puti_l (pc := 64) dX3_copyFrom_64 pX3_44 (zat_k3 h3 (by decide) rfl) rfl rfl ?_
  refine x_aload_n (pc := 67) 0 dX3_copyFrom_67 rfl rfl ?_
  refine x_aload_n (pc := 68) 1 dX3_copyFrom_68 rfl rfl ?_
  refine x_geti_l (pc := 69) dX3_copyFrom_69 fX3_64 (zat_b rfl rfl) rfl rfl ?_
  refine x_puti_l (pc := 72) dX3_copyFrom_72 pX3_64 (zat_k3 h3 (by decide) rfl) rfl rfl ?_
  refine x_aload_n (pc := 75) 0 dX3_copyFrom_75 rfl rfl ?_
  refine x_aload_n (pc := 76) 1 dX3_copyFrom_76 rfl rfl ?_
  refine x_geti_l (pc := 77) dX3_copyFrom_77 fX3_67 (zat_b rfl rfl) rfl rfl ?_
  refine x_put0_l (pc := 80) dX3_copyFrom_80 pX3_67 (zat_k3 h3 (by decide) rfl) rfl rfl (bb).1 (bb).2 ?_
  refine x_aload_n (pc := 83) 0 dX3_copyFrom_83 rfl rfl ?_
  refine x_aload_n (pc := 84) 1 dX3_copyFrom_84 rfl rfl ?_
  refine x_geti_l (pc := 85) dX3_copyFrom_85 fX3_71 (zat_b rfl rfl) rfl rfl ?_
  refine x_puti_l (pc := 88) dX3_copyFrom_88 pX3_71 (zat_k3 h3 (by decide) rfl) rfl rfl ?_
  refine x_aload_n (pc := 91) 0 dX3_copyFrom_91 rfl rfl ?_
  refine x_aload_n (pc := 92) 1 dX3_copyFrom_92 rfl rfl ?_
  refine x_geti_l (pc := 93) dX3_copyFrom_93 fX3_74 (zat_b rfl rfl) rfl rfl ?_
  refine x_puti_l (pc := 96) dX3_copyFrom_96 pX3_74 (zat_k3 h3 (by decide) rfl) rfl rfl ?_
  refine x_aload_n (pc := 99) 0 dX3_copyFrom_99 rfl rfl ?_
  refine x_aload_n (pc := 100) 1 dX3_copyFrom_100 rfl rfl ?_
  refine x_geti_l (pc := 101) dX3_copyFrom_101 fX3_77 (zat_b rfl rfl) rfl rfl ?_
  refine x_puti_l (pc := 104) dX3_copyFrom_104 pX3_77 (zat_k3 h3 (by decide) rfl) rfl rfl ?_
  refine x_aload_n (pc := 107) 0 dX3_copyFrom_107 rfl rfl ?_
  refine x_aload_n (pc := 108) 1 dX3_copyFrom_108 rfl rfl ?_
  refine x_geti_l (pc := 109) dX3_copyFrom_109 fX3_80 (zat_b rfl rfl) rfl rfl ?_
  refine x_puti_l (pc := 112) dX3_copyFrom_112 pX3_80 (zat_k3 h3 (by decide) rfl) rfl rfl ?_
  refine x_aload_n (pc := 115) 0 dX3_copyFrom_115 rfl rfl ?_
  refine x_aload_n (pc := 116) 1 dX3_copyFrom_116 rfl rfl ?_
  refine x_geti_l (pc := 117) dX3_copyFrom_117 fX3_34 (zat_b rfl rfl) rfl rfl ?_
  refine x_puti_l (pc := 120) dX3_copyFrom_120 pX3_34 (zat_k3 h3 (by decide) rfl) rfl rfl ?_
  refine x_aload_n (pc := 123) 0 dX3_copyFrom_123 rfl rfl ?_
  refine x_aload_n (pc := 124) 1 dX3_copyFrom_124 rfl rfl ?_
  refine x_geti_l (pc := 125) dX3_copyFrom_125 fX3_83 (zat_b rfl rfl) rfl rfl ?_
  refine x_puti_l (pc := 128) dX3_copyFrom_128 pX3_83 (zat_k3 h3 (by decide) rfl) rfl rfl ?_
  refine x_aload_n (pc := 131) 0 dX3_copyFrom_131 rfl rfl ?_
  refine x_aload_n (pc := 132) 1 dX3_copyFrom_132 rfl rfl ?_
  refine x_geti_l (pc := 133) dX3_copyFrom_133 fX3_86 (zat_b rfl rfl) rfl rfl ?_
  refine x_puti_l (pc := 136) dX3_copyFrom_136 pX3_86 (zat_k3 h3 (by decide) rfl) rfl rfl ?_
  refine x_aload_n (pc := 139) 0 dX3_copyFrom_139 rfl rfl ?_
  refine x_aload_n (pc := 140) 1 dX3_copyFrom_140 rfl rfl ?_
  refine x_geti_l (pc := 141) dX3_copyFrom_141 fX3_89 (zat_b rfl rfl) rfl rfl ?_
  refine x_puti_l (pc := 144) dX3_copyFrom_144 pX3_89 (zat_k3 h3 (by decide) rfl) rfl rfl ?_
  refine x_aload_n (pc := 147) 0 dX3_copyFrom_147 rfl rfl ?_
  refine x_aload_n (pc := 148) 1 dX3_copyFrom_148 rfl rfl ?_
  refine x_geti_l (pc := 149) dX3_copyFrom_149 fX3_38 (zat_b rfl rfl) rfl rfl ?_
  refine x_puti_l (pc := 152) dX3_copyFrom_152 pX3_38 (zat_k3 h3 (by decide) rfl) rfl rfl ?_
  refine x_vret (pc := 155) dX3_copyFrom_155 rfl ?_
  exact ⟨rfl, rfl⟩
theorem s_cpS20 (d : Nat) {N S t u : Nat} (h4 : τ.2 4 = 1) (hc : kCp κ τ 0 N S t u) (hg : τ.2 2 ≤ 24000) : zTr E (d + 3) mX5_copyFrom [.ref 51, .ref 11] (κ, α, τ) none (k_cpS κ τ 2 0 N S, α, k_rmTg τ 2 S) := by
  obtain ⟨⟨c1, c2⟩, ⟨c3, c4, c5⟩, c6, -⟩ := hc
  have c1 : κ 11 5 = nI N := c1
  have c3 : κ 15 N = nI S := c3
  have c6 : ∀ i, i < N → fits .byte (.int (κ 14 i)) = true := c6
  refine zM.tr (zM_of [some (.ref 51), some (.ref 11)] (by decide) rfl (Nat.le_of_ble_eq_true rfl) ?_)
  refine x_aload_n (pc := 0) 0 dX5_copyFrom_0 rfl rfl ?_
  refine x_aload_n (pc := 1) 1 dX5_copyFrom_1 rfl rfl ?_
  refine x_geti_l (pc := 2) dX5_copyFrom_2 fX5_28 (zat_b rfl rfl) rfl rfl ?_
  refine x_puti_l (pc := 5) dX5_copyFrom_5 pX5_28 (zat_k4 h4 (by decide) rfl) rfl rfl ?_
  refine x_aload_n (pc := 8) 0 dX5_copyFrom_8 rfl rfl ?_
  refine x_aload_n (pc := 9) 1 dX5_copyFrom_9 rfl rfl ?_
  refine x_geti_l (pc := 10) dX5_copyFrom_10 fX5_32 (zat_b rfl rfl) rfl rfl ?_
  rw [zup_p (by decide)]
  refine x_puti_l (pc := 13) dX5_copyFrom_13 pX5_32 (zat_k4 h4 (by decide) rfl) rfl rfl ?_
  refine x_aload_n (pc := 16) 1 dX5_copyFrom_16 rfl rfl ?_
  refine x_getr (pc := 17) (12) dX5_copyFrom_17 fX5_9 (zat_b rfl rfl) rfl ?_
  refine x_iconst (pc := 20) (nI 0) dX5_copyFrom_20 (by decide) ?_
  refine x_aload_n (pc := 21) 0 dX5_copyFrom_21 rfl rfl ?_
  refine x_getr (pc := 22) (52) dX5_copyFrom_22 fX5_9 (zat_k4 h4 (by decide) rfl) rfl ?_
  refine x_iconst (pc := 25) (nI 0) dX5_copyFrom_25 (by decide) ?_
  refine x_aload_n (pc := 26) 0 dX5_copyFrom_26 rfl rfl ?_
  refine x_geti_l (pc := 27) dX5_copyFrom_27 fX5_28 (zat_k4 h4 (by decide) rfl) rfl rfl ?_
  show zX E (d + 3) mX5_copyFrom 30 [some (.ref 51), some (.ref 11)] [.int (k_cp1 κ 51 11 51 5), .int (nI 0), .ref 52, .int (nI 0), .ref 12] (k_cp1 κ 51 11, α, τ) _
  have e0 : ∀ p, p ≠ 51 → k_cp1 κ 51 11 p = κ p := fun p hp => by funext j; unfold k_cp1; rw [zup_p hp, zup_p hp]
  have e5 : k_cp1 κ 51 11 51 5 = nI N := by unfold k_cp1; rw [zup_i (by decide), zup_same]; exact c1
  have eF : k_cpS κ τ 2 0 N S = kcp (k_rmKg (kcp (kcp (kcp (kcp (k_cp1 κ 51 11) 52 12 N) 53 13 N) 54 14 N) 55 15 (N + 1)) τ 2 S) 56 16 S := rfl
  rw [eF]
  generalize k_cp1 κ 51 11 = K at e0 e5 ⊢
  refine x_acopy (pc := 30) (t := 0) dX5_copyFrom_30 w_cpyX5 (zar_b rfl rfl rfl) (zar_k4 h4 (by decide) rfl rfl) (by decide) rfl rfl (n := N) (⟨e5, by omega⟩) (c2) (c2) (fun i _ => rfl) (Nat.le_of_ble_eq_true rfl) ?_
  refine x_aload_n (pc := 33) 1 dX5_copyFrom_33 rfl rfl ?_
  refine x_getr (pc := 34) (13) dX5_copyFrom_34 fX5_15 (zat_b rfl rfl) rfl ?_
  refine x_iconst (pc := 37) (nI 0) dX5_copyFrom_37 (by decide) ?_
  refine x_aload_n (pc := 38) 0 dX5_copyFrom_38 rfl rfl ?_
  refine x_getr (pc := 39) (53) dX5_copyFrom_39 fX5_15 (zat_k4 h4 (by decide) rfl) rfl ?_
  refine x_iconst (pc := 42) (nI 0) dX5_copyFrom_42 (by decide) ?_
  refine x_aload_n (pc := 43) 0 dX5_copyFrom_43 rfl rfl ?_
  refine x_geti_l (pc := 44) dX5_copyFrom_44 fX5_28 (zat_k4 h4 (by decide) rfl) rfl rfl ?_
  rw [kcp_p (by decide)]
  refine x_acopy (pc := 47) (t := 0) dX5_copyFrom_47 w_cpyX5 (zar_b rfl rfl rfl) (zar_k4 h4 (by decide) rfl rfl) (by decide) rfl rfl (n := N) (⟨e5, by omega⟩) (c2) (c2) (fun i _ => rfl) (Nat.le_of_ble_eq_true rfl) ?_
  refine x_aload_n (pc := 50) 1 dX5_copyFrom_50 rfl rfl ?_
  refine x_getr (pc := 51) (14) dX5_copyFrom_51 fX5_18 (zat_b rfl rfl) rfl ?_
  refine x_iconst (pc := 54) (nI 0) dX5_copyFrom_54 (by decide) ?_
  refine x_aload_n (pc := 55) 0 dX5_copyFrom_55 rfl rfl ?_
  refine x_getr (pc := 56) (54) dX5_copyFrom_56 fX5_18 (zat_k4 h4 (by decide) rfl) rfl ?_
  refine x_iconst (pc := 59) (nI 0) dX5_copyFrom_59 (by decide) ?_
  refine x_aload_n (pc := 60) 0 dX5_copyFrom_60 rfl rfl ?_
  refine x_geti_l (pc := 61) dX5_copyFrom_61 fX5_28 (zat_k4 h4 (by decide) rfl) rfl rfl ?_
  rw [kcp_p (by decide), kcp_p (by decide)]
  refine x_acopy (pc := 64) (t := 1) dX5_copyFrom_64 w_cpyX5 (zar_b rfl rfl rfl) (zar_k4 h4 (by decide) rfl rfl) (by decide) rfl rfl (n := N) (⟨e5, by omega⟩) (c2) (c2) (fun i hi => by rw [kcp_p (by decide), kcp_p (by decide), e0 14 (by decide)]; exact c6 i hi) (Nat.le_of_ble_eq_true rfl) ?_
  refine x_aload_n (pc := 67) 1 dX5_copyFrom_67 rfl rfl ?_
  refine x_getr (pc := 68) (15) dX5_copyFrom_68 fX5_22 (zat_b rfl rfl) rfl ?_
  refine x_iconst (pc := 71) (nI 0) dX5_copyFrom_71 (by decide) ?_
  refine x_aload_n (pc := 72) 0 dX5_copyFrom_72 rfl rfl ?_
  refine x_getr (pc := 73) (55) dX5_copyFrom_73 fX5_22 (zat_k4 h4 (by decide) rfl) rfl ?_
  refine x_iconst (pc := 76) (nI 0) dX5_copyFrom_76 (by decide) ?_
  refine x_aload_n (pc := 77) 0 dX5_copyFrom_77 rfl rfl ?_
  refine x_geti_l (pc := 78) dX5_copyFrom_78 fX5_28 (zat_k4 h4 (by decide) rfl) rfl rfl ?_
  rw [kcp_p (by decide), kcp_p (by decide), kcp_p (by decide), e5]
  refine x_iconst (pc := 81) (nI 1) dX5_copyFrom_81 (by decide) ?_
  refine x_iadd (pc := 82) dX5_copyFrom_82 ?_
  rw [nI_add]
  refine x_acopy (pc := 83) (t := 0) dX5_copyFrom_83 w_cpyX5 (zar_b rfl rfl rfl) (zar_k4 h4 (by decide) rfl rfl) (by decide) rfl rfl (n := N + 1) (⟨rfl, by omega⟩) (Nat.succ_le_succ c2) (Nat.succ_le_succ c2) (fun i _ => rfl) (Nat.le_of_ble_eq_true rfl) ?_
  refine x_aload_n (pc := 86) 0 dX5_copyFrom_86 rfl rfl ?_
  refine x_aload_n (pc := 87) 0 dX5_copyFrom_87 rfl rfl ?_
  refine x_getr (pc := 88) (55) dX5_copyFrom_88 fX5_22 (zat_k4 h4 (by decide) rfl) rfl ?_
  refine x_aload_n (pc := 91) 0 dX5_copyFrom_91 rfl rfl ?_
  refine x_geti_l (pc := 92) dX5_copyFrom_92 fX5_28 (zat_k4 h4 (by decide) rfl) rfl rfl ?_
  rw [kcp_p (x := 51) (by decide), kcp_p (by decide), kcp_p (by decide), kcp_p (by decide), e5]
  have hj95 : N < 401 := by omega
  refine x_iald_l (pc := 95) (N) dX5_copyFrom_95 (zar_k4 h4 (by decide) rfl rfl) rfl (by first | rfl | simp only [pk_mul, nI_add] | simp only [zon, pk_mul, nI_add]) hj95 (Nat.lt_of_lt_of_le hj95 (by decide)) ?_
  rw [kcp_lt (by omega), kcp_p (by decide), kcp_p (by decide), kcp_p (by decide), e0 15 (by decide), c3]
  have q5 : (kcp (kcp (kcp (kcp K 52 12 N) 53 13 N) 54 14 N) 55 15 (N + 1)) 51 5 = nI N := by rw [kcp_p (by decide), kcp_p (by decide), kcp_p (by decide), kcp_p (by decide)]; exact e5
  have q4 : (kcp (kcp (kcp (kcp K 52 12 N) 53 13 N) 54 14 N) 55 15 (N + 1)) 55 N = nI S := by rw [kcp_lt (by omega), kcp_p (by decide), kcp_p (by decide), kcp_p (by decide), e0 15 (by decide)]; exact c3
  generalize kcp (kcp (kcp (kcp K 52 12 N) 53 13 N) 54 14 N) 55 15 (N + 1) = J at q5 q4 ⊢
  refine x_callV1v (pc := 96) dX5_copyFrom_96 lX5_44 (zat_k4 h4 (by decide) rfl) rfl (s_makeRoom (g := 2) (d := d) (μ := (J, α, τ)) (by decide) (zar_k4 h4 (by decide) rfl rfl) (zat_k4 h4 (by decide) rfl) (by omega) hg) (Nat.le_of_ble_eq_true rfl) (Or.inr (zfr2 ⟨zin_k4 h4 (by decide), rfl⟩ ⟨zpl_b rfl, rfl⟩)) ?_
  rw [k_room_eqg]
  have g1 := k_rmTg_ge (τ := τ) (g := 2) (n := S)
  have g2 : S ≤ (k_rmTg τ 2 S).2 0 := by rw [k_rmTg_k (by decide) (by decide) (by decide)]; exact c5
  have h4 : (k_rmTg τ 2 S).2 4 = 1 := by rw [k_rmTg_k (by decide) (by decide) (by decide)]; exact h4
  have q5 : k_rmKg J τ 2 S 51 5 = nI N := by rw [k_rmKg_p (by decide)]; exact q5
  have q4 : k_rmKg J τ 2 S 55 N = nI S := by rw [k_rmKg_p (by decide)]; exact q4
  refine x_aload_n (pc := 99) 1 dX5_copyFrom_99 rfl rfl ?_
  refine x_getr (pc := 100) (16) dX5_copyFrom_100 fX5_25 (zat_b rfl rfl) rfl ?_
  refine x_iconst (pc := 103) (nI 0) dX5_copyFrom_103 (by decide) ?_
  refine x_aload_n (pc := 104) 0 dX5_copyFrom_104 rfl rfl ?_
  refine x_getr (pc := 105) (56) dX5_copyFrom_105 fX5_25 (zat_k4 h4 (by decide) rfl) rfl ?_
  refine x_iconst (pc := 108) (nI 0) dX5_copyFrom_108 (by decide) ?_
  refine x_aload_n (pc := 109) 0 dX5_copyFrom_109 rfl rfl ?_
  refine x_getr (pc := 110) (55) dX5_copyFrom_110 fX5_22 (zat_k4 h4 (by decide) rfl) rfl ?_
  refine x_aload_n (pc := 113) 0 dX5_copyFrom_113 rfl rfl ?_
  refine x_geti_l (pc := 114) dX5_copyFrom_114 fX5_28 (zat_k4 h4 (by decide) rfl) rfl rfl ?_
  rw [q5]
  have hj117 : N < 401 := by omega
  refine x_iald_l (pc := 117) (N) dX5_copyFrom_117 (zar_k4 h4 (by decide) rfl rfl) rfl (by first | rfl | simp only [pk_mul, nI_add] | simp only [zon, pk_mul, nI_add]) hj117 (Nat.lt_of_lt_of_le hj117 (by decide)) ?_
  rw [q4]
  refine x_acopy (pc := 118) (t := 0) dX5_copyFrom_118 w_cpyX5 (zar_b rfl rfl rfl) (zar_k4 h4 (by decide) rfl rfl) (by decide) rfl rfl (n := S) (⟨rfl, by omega⟩) (g2) (g1) (fun i _ => rfl) (Nat.le_of_ble_eq_true rfl) ?_
  refine x_vret (pc := 121) dX5_copyFrom_121 rfl ?_
  exact ⟨rfl, rfl⟩
theorem s_cpA20 (d : Nat) {N S t u : Nat} (h4 : τ.2 4 = 1) (hc : kCp κ τ 0 N S t u) (hg : τ.2 2 ≤ 24000) : zTr E (d + 4) mX3_copyFrom [.ref 50, .ref 10] (κ, α, τ) none (k_cpA κ τ 2 0 N S t u, α, k_rmTg τ 2 S) := by
  obtain ⟨c1, c3, c6, ⟨c7, c8⟩, ⟨c9, c10⟩, b, c11⟩ := id hc
  have c7 : κ 17 1 = nI t := c7
  have c9 : κ 19 1 = nI u := c9
  have c11 : κ 10 7 = zbo b := c11
  refine zM.tr (zM_of [some (.ref 50), some (.ref 10)] (by decide) rfl (Nat.le_of_ble_eq_true rfl) ?_)
  refine x_aload_n (pc := 0) 0 dX3_copyFrom_0 rfl rfl ?_
  refine x_getr (pc := 1) (51) dX3_copyFrom_1 fX3_12 (zat_k4 h4 (by decide) rfl) rfl ?_
  refine x_aload_n (pc := 4) 1 dX3_copyFrom_4 rfl rfl ?_
  refine x_getr (pc := 5) (11) dX3_copyFrom_5 fX3_12 (zat_b rfl rfl) rfl ?_
  refine x_callV1v (pc := 8) dX3_copyFrom_8 lX3_51 (zat_k4 h4 (by decide) rfl) rfl (s_cpS20 d h4 hc hg) (Nat.le_of_ble_eq_true rfl) (Or.inr (zfr2 ⟨zin_k4 h4 (by decide), rfl⟩ ⟨zpl_b rfl, rfl⟩)) ?_
  have eF : k_cpA κ τ 2 0 N S t u = zit (k_cpFld 50 10) 4 13 (kcp (k_cpR (k_cpR (k_cpS κ τ 2 0 N S) 57 17 t) 59 19 u) 61 21 31) := rfl
  rw [eF]
  have z : ∀ p, p ≠ 51 → p ≠ 52 → p ≠ 53 → p ≠ 54 → p ≠ 55 → p ≠ 56 → k_cpS κ τ 2 0 N S p = κ p := fun p p0 p1 p2 p3 p4 p5 => by
    funext j
    show kcp (k_rmKg (kcp (kcp (kcp (kcp (k_cp1 κ 51 11) 52 12 N) 53 13 N) 54 14 N) 55 15 (N + 1)) τ 2 S) 56 16 S p j = κ p j
    rw [kcp_p p5, k_rmKg_p p5, kcp_p p4, kcp_p p3, kcp_p p2, kcp_p p1]
    unfold k_cp1
    rw [zup_p p0, zup_p p0]
  have h4 : (k_rmTg τ 2 S).2 4 = 1 := by rw [k_rmTg_k (by decide) (by decide) (by decide)]; exact h4
  have d7 : k_cpS κ τ 2 0 N S 17 1 = nI t := by rw [z 17 (by decide) (by decide) (by decide) (by decide) (by decide) (by decide)]; exact c7
  have d9 : k_cpS κ τ 2 0 N S 19 1 = nI u := by rw [z 19 (by decide) (by decide) (by decide) (by decide) (by decide) (by decide)]; exact c9
  have d11 : k_cpS κ τ 2 0 N S 10 7 = zbo b := by rw [z 10 (by decide) (by decide) (by decide) (by decide) (by decide) (by decide)]; exact c11
  generalize k_cpS κ τ 2 0 N S = K at d7 d9 d11 ⊢
  generalize k_rmTg τ 2 S = τ' at h4 ⊢
  have r1 : kRow τ' 57 8 := kRow57 h4
  have r2 : kRow τ' 17 8 := kRow17
  have r3 : kRow τ' 59 8 := kRow59 h4
  have r4 : kRow τ' 19 8 := kRow19
  refine x_aload_n (pc := 11) 0 dX3_copyFrom_11 rfl rfl ?_
  refine x_getr (pc := 12) (57) dX3_copyFrom_12 fX3_23 (zat_k4 h4 (by decide) rfl) rfl ?_
  refine x_aload_n (pc := 15) 1 dX3_copyFrom_15 rfl rfl ?_
  refine x_getr (pc := 16) (17) dX3_copyFrom_16 fX3_23 (zat_b rfl rfl) rfl ?_
  refine x_callV1v (pc := 19) dX3_copyFrom_19 lX3_55 (zat_k4 h4 (by decide) rfl) rfl (s_rowCopy (t := t) d r1 r2 (by decide) (by decide) (by decide) d7 c8 c8) (Nat.le_of_ble_eq_true rfl) (Or.inl zgr) ?_
  refine x_aload_n (pc := 22) 0 dX3_copyFrom_22 rfl rfl ?_
  refine x_getr (pc := 23) (59) dX3_copyFrom_23 fX3_27 (zat_k4 h4 (by decide) rfl) rfl ?_
  refine x_aload_n (pc := 26) 1 dX3_copyFrom_26 rfl rfl ?_
  refine x_getr (pc := 27) (19) dX3_copyFrom_27 fX3_27 (zat_b rfl rfl) rfl ?_
  refine x_callV1v (pc := 30) dX3_copyFrom_30 lX3_55 (zat_k4 h4 (by decide) rfl) rfl (s_rowCopy (t := u) d r3 r4 (by decide) (by decide) (by decide) (by rw [k_cpR_p (by decide) (by decide)]; exact d9) c10 c10) (Nat.le_of_ble_eq_true rfl) (Or.inl zgr) ?_
  refine x_aload_n (pc := 33) 1 dX3_copyFrom_33 rfl rfl ?_
  refine x_getr (pc := 34) (21) dX3_copyFrom_34 fX3_30 (zat_b rfl rfl) rfl ?_
  refine x_iconst (pc := 37) (nI 0) dX3_copyFrom_37 (by decide) ?_
  refine x_aload_n (pc := 38) 0 dX3_copyFrom_38 rfl rfl ?_
  refine x_getr (pc := 39) (61) dX3_copyFrom_39 fX3_30 (zat_k4 h4 (by decide) rfl) rfl ?_
  refine x_iconst (pc := 42) (nI 0) dX3_copyFrom_42 (by decide) ?_
  refine x_aload_n (pc := 43) 0 dX3_copyFrom_43 rfl rfl ?_
  refine x_getr (pc := 44) (61) dX3_copyFrom_44 fX3_30 (zat_k4 h4 (by decide) rfl) rfl ?_
  refine x_alen (pc := 47) dX3_copyFrom_47 (zar_k4 h4 (by decide) rfl rfl) (by decide) ?_
  have f11 : kcp (k_cpR (k_cpR K 57 17 t) 59 19 u) 61 21 31 10 7 = zbo b := by rw [kcp_p (by decide), k_cpR_p (by decide) (by decide), k_cpR_p (by decide) (by decide)]; exact d11
  refine x_acopy (pc := 48) (t := 0) dX3_copyFrom_48 w_cpyX3 (zar_b rfl rfl rfl) (zar_k4 h4 (by decide) rfl rfl) (by decide) rfl rfl (n := 31) (⟨rfl, by decide⟩) (Nat.le_refl _) (Nat.le_refl _) (fun i _ => rfl) (Nat.le_of_ble_eq_true rfl) ?_
  generalize kcp (k_cpR (k_cpR K 57 17 t) 59 19 u) 61 21 31 = J at f11 ⊢
  have bb : narrow .boolean (.int (zup (zup (zup J 50 4 (J 10 4)) 50 5 (zup J 50 4 (J 10 4) 10 5)) 50 6 (zup (zup J 50 4 (J 10 4)) 50 5 (zup J 50 4 (J 10 4) 10 5) 10 6) 10 7)) = .int (zup (zup (zup J 50 4 (J 10 4)) 50 5 (zup J 50 4 (J 10 4) 10 5)) 50 6 (zup (zup J 50 4 (J 10 4)) 50 5 (zup J 50 4 (J 10 4) 10 5) 10 6) 10 7) ∧ fits .boolean (.int (zup (zup (zup J 50 4 (J 10 4)) 50 5 (zup J 50 4 (J 10 4) 10 5)) 50 6 (zup (zup J 50 4 (J 10 4)) 50 5 (zup J 50 4 (J 10 4) 10 5) 10 6) 10 7)) = true := by
    have e : zup (zup (zup J 50 4 (J 10 4)) 50 5 (zup J 50 4 (J 10 4) 10 5)) 50 6 (zup (zup J 50 4 (J 10 4)) 50 5 (zup J 50 4 (J 10 4) 10 5) 10 6) 10 7 = zbo b := by rw [zup_p (by decide), zup_p (by decide), zup_p (by decide)]; exact f11
    rw [e]
    exact ⟨zbo_nar b, zbo_fit b⟩
  refine x_aload_n (pc := 51) 0 dX3_copyFrom_51 rfl rfl ?_
  refine x_aload_n (pc := 52) 1 dX3_copyFrom_52 rfl rfl ?_
  refine x_geti_l (pc := 53) dX3_copyFrom_53 fX3_41 (zat_b rfl rfl) rfl rfl ?_
  refine x_puti_l (pc := 56) dX3_copyFrom_56 pX3_41 (zat_k4 h4 (by decide) rfl) rfl rfl ?_
  refine x_aload_n (pc := 59) 0 dX3_copyFrom_59 rfl rfl ?_
  refine x_aload_n (pc := 60) 1 dX3_copyFrom_60 rfl rfl ?_
  refine x_geti_l (pc := 61) dX3_copyFrom_61 fX3_44 (zat_b rfl rfl) rfl rfl ?_
  refine x_puti_l (pc := 64) dX3_copyFrom_64 pX3_44 (zat_k4 h4 (by decide) rfl) rfl rfl ?_
  refine x_aload_n (pc := 67) 0 dX3_copyFrom_67 rfl rfl ?_
  refine x_aload_n (pc := 68) 1 dX3_copyFrom_68 rfl rfl ?_
  refine x_geti_l (pc := 69) dX3_copyFrom_69 fX3_64 (zat_b rfl rfl) rfl rfl ?_
  refine x_puti_l (pc := 72) dX3_copyFrom_72 pX3_64 (zat_k4 h4 (by decide) rfl) rfl rfl ?_
  refine x_aload_n (pc := 75) 0 dX3_copyFrom_75 rfl rfl ?_
  refine x_aload_n (pc := 76) 1 dX3_copyFrom_76 rfl rfl ?_
  refine x_geti_l (pc := 77) dX3_copyFrom_77 fX3_67 (zat_b rfl rfl) rfl rfl ?_
  refine x_put0_l (pc := 80) dX3_copyFrom_80 pX3_67 (zat_k4 h4 (by decide) rfl) rfl rfl (bb).1 (bb).2 ?_
  refine x_aload_n (pc := 83) 0 dX3_copyFrom_83 rfl rfl ?_
  refine x_aload_n (pc := 84) 1 dX3_copyFrom_84 rfl rfl ?_
  refine x_geti_l (pc := 85) dX3_copyFrom_85 fX3_71 (zat_b rfl rfl) rfl rfl ?_
  refine x_puti_l (pc := 88) dX3_copyFrom_88 pX3_71 (zat_k4 h4 (by decide) rfl) rfl rfl ?_
  refine x_aload_n (pc := 91) 0 dX3_copyFrom_91 rfl rfl ?_
  refine x_aload_n (pc := 92) 1 dX3_copyFrom_92 rfl rfl ?_
  refine x_geti_l (pc := 93) dX3_copyFrom_93 fX3_74 (zat_b rfl rfl) rfl rfl ?_
  refine x_puti_l (pc := 96) dX3_copyFrom_96 pX3_74 (zat_k4 h4 (by decide) rfl) rfl rfl ?_
  refine x_aload_n (pc := 99) 0 dX3_copyFrom_99 rfl rfl ?_
  refine x_aload_n (pc := 100) 1 dX3_copyFrom_100 rfl rfl ?_
  refine x_geti_l (pc := 101) dX3_copyFrom_101 fX3_77 (zat_b rfl rfl) rfl rfl ?_
  refine x_puti_l (pc := 104) dX3_copyFrom_104 pX3_77 (zat_k4 h4 (by decide) rfl) rfl rfl ?_
  refine x_aload_n (pc := 107) 0 dX3_copyFrom_107 rfl rfl ?_
  refine x_aload_n (pc := 108) 1 dX3_copyFrom_108 rfl rfl ?_
  refine x_geti_l (pc := 109) dX3_copyFrom_109 fX3_80 (zat_b rfl rfl) rfl rfl ?_
  refine x_puti_l (pc := 112) dX3_copyFrom_112 pX3_80 (zat_k4 h4 (by decide) rfl) rfl rfl ?_
  refine x_aload_n (pc := 115) 0 dX3_copyFrom_115 rfl rfl ?_
  refine x_aload_n (pc := 116) 1 dX3_copyFrom_116 rfl rfl ?_
  refine x_geti_l (pc := 117) dX3_copyFrom_117 fX3_34 (zat_b rfl rfl) rfl rfl ?_
  refine x_puti_l (pc := 120) dX3_copyFrom_120 pX3_34 (zat_k4 h4 (by decide) rfl) rfl rfl ?_
  refine x_aload_n (pc := 123) 0 dX3_copyFrom_123 rfl rfl ?_
  refine x_aload_n (pc := 124) 1 dX3_copyFrom_124 rfl rfl ?_
  refine x_geti_l (pc := 125) dX3_copyFrom_125 fX3_83 (zat_b rfl rfl) rfl rfl ?_
  refine x_puti_l (pc := 128) dX3_copyFrom_128 pX3_83 (zat_k4 h4 (by decide) rfl) rfl rfl ?_
  refine x_aload_n (pc := 131) 0 dX3_copyFrom_131 rfl rfl ?_
  refine x_aload_n (pc := 132) 1 dX3_copyFrom_132 rfl rfl ?_
  refine x_geti_l (pc := 133) dX3_copyFrom_133 fX3_86 (zat_b rfl rfl) rfl rfl ?_
  refine x_puti_l (pc := 136) dX3_copyFrom_136 pX3_86 (zat_k4 h4 (by decide) rfl) rfl rfl ?_
  refine x_aload_n (pc := 139) 0 dX3_copyFrom_139 rfl rfl ?_
  refine x_aload_n (pc := 140) 1 dX3_copyFrom_140 rfl rfl ?_
  refine x_geti_l (pc := 141) dX3_copyFrom_141 fX3_89 (zat_b rfl rfl) rfl rfl ?_
  refine x_puti_l (pc := 144) dX3_copyFrom_144 pX3_89 (zat_k4 h4 (by decide) rfl) rfl rfl ?_
  refine x_aload_n (pc := 147) 0 dX3_copyFrom_147 rfl rfl ?_
  refine x_aload_n (pc := 148) 1 dX3_copyFrom_148 rfl rfl ?_
  refine x_geti_l (pc := 149) dX3_copyFrom_149 fX3_38 (zat_b rfl rfl) rfl rfl ?_
  refine x_puti_l (pc := 152) dX3_copyFrom_152 pX3_38 (zat_k4 h4 (by decide) rfl) rfl rfl ?_
  refine x_vret (pc := 155) dX3_copyFrom_155 rfl ?_
  exact ⟨rfl, rfl⟩
theorem s_cpS01 (d : Nat) {N S t u : Nat} (h3 : τ.2 3 = 1) (hc : kCp κ τ 1 N S t u) (hg : τ.2 0 ≤ 24000) : zTr E (d + 3) mX5_copyFrom [.ref 11, .ref 31] (κ, α, τ) none (k_cpS κ τ 0 1 N S, α, k_rmTg τ 0 S) := by
  obtain ⟨⟨c1, c2⟩, ⟨c3, c4, c5⟩, c6, -⟩ := hc
  have c1 : κ 31 5 = nI N := c1
  have c3 : κ 35 N = nI S := c3
  have c6 : ∀ i, i < N → fits .byte (.int (κ 34 i)) = true := c6
  refine zM.tr (zM_of [some (.ref 11), some (.ref 31)] (by decide) rfl (Nat.le_of_ble_eq_true rfl) ?_)
  refine x_aload_n (pc := 0) 0 dX5_copyFrom_0 rfl rfl ?_
  refine x_aload_n (pc := 1) 1 dX5_copyFrom_1 rfl rfl ?_
  refine x_geti_l (pc := 2) dX5_copyFrom_2 fX5_28 (zat_k3 h3 (by decide) rfl) rfl rfl ?_
  refine x_puti_l (pc := 5) dX5_copyFrom_5 pX5_28 (zat_b rfl rfl) rfl rfl ?_
  refine x_aload_n (pc := 8) 0 dX5_copyFrom_8 rfl rfl ?_
  refine x_aload_n (pc := 9) 1 dX5_copyFrom_9 rfl rfl ?_
  refine x_geti_l (pc := 10) dX5_copyFrom_10 fX5_32 (zat_k3 h3 (by decide) rfl) rfl rfl ?_
  rw [zup_p (by decide)]
  refine x_puti_l (pc := 13) dX5_copyFrom_13 pX5_32 (zat_b rfl rfl) rfl rfl ?_
  refine x_aload_n (pc := 16) 1 dX5_copyFrom_16 rfl rfl ?_
  refine x_getr (pc := 17) (32) dX5_copyFrom_17 fX5_9 (zat_k3 h3 (by decide) rfl) rfl ?_
  refine x_iconst (pc := 20) (nI 0) dX5_copyFrom_20 (by decide) ?_
  refine x_aload_n (pc := 21) 0 dX5_copyFrom_21 rfl rfl ?_
  refine x_getr (pc := 22) (12) dX5_copyFrom_22 fX5_9 (zat_b rfl rfl) rfl ?_
  refine x_iconst (pc := 25) (nI 0) dX5_copyFrom_25 (by decide) ?_
  refine x_aload_n (pc := 26) 0 dX5_copyFrom_26 rfl rfl ?_
  refine x_geti_l (pc := 27) dX5_copyFrom_27 fX5_28 (zat_b rfl rfl) rfl rfl ?_
  show zX E (d + 3) mX5_copyFrom 30 [some (.ref 11), some (.ref 31)] [.int (k_cp1 κ 11 31 11 5), .int (nI 0), .ref 12, .int (nI 0), .ref 32] (k_cp1 κ 11 31, α, τ) _
  have e0 : ∀ p, p ≠ 11 → k_cp1 κ 11 31 p = κ p := fun p hp => by funext j; unfold k_cp1; rw [zup_p hp, zup_p hp]
  have e5 : k_cp1 κ 11 31 11 5 = nI N := by unfold k_cp1; rw [zup_i (by decide), zup_same]; exact c1
  have eF : k_cpS κ τ 0 1 N S = kcp (k_rmKg (kcp (kcp (kcp (kcp (k_cp1 κ 11 31) 12 32 N) 13 33 N) 14 34 N) 15 35 (N + 1)) τ 0 S) 16 36 S := rfl
  rw [eF]
  generalize k_cp1 κ 11 31 = K at e0 e5 ⊢
  refine x_acopy (pc := 30) (t := 0) dX5_copyFrom_30 w_cpyX5 (zar_k3 h3 (by decide) rfl rfl) (zar_b rfl rfl rfl) (by decide) rfl rfl (n := N) (⟨e5, by omega⟩) (c2) (c2) (fun i _ => rfl) (Nat.le_of_ble_eq_true rfl) ?_
  refine x_aload_n (pc := 33) 1 dX5_copyFrom_33 rfl rfl ?_
  refine x_getr (pc := 34) (33) dX5_copyFrom_34 fX5_15 (zat_k3 h3 (by decide) rfl) rfl ?_
  refine x_iconst (pc := 37) (nI 0) dX5_copyFrom_37 (by decide) ?_
  refine x_aload_n (pc := 38) 0 dX5_copyFrom_38 rfl rfl ?_
  refine x_getr (pc := 39) (13) dX5_copyFrom_39 fX5_15 (zat_b rfl rfl) rfl ?_
  refine x_iconst (pc := 42) (nI 0) dX5_copyFrom_42 (by decide) ?_
  refine x_aload_n (pc := 43) 0 dX5_copyFrom_43 rfl rfl ?_
  refine x_geti_l (pc := 44) dX5_copyFrom_44 fX5_28 (zat_b rfl rfl) rfl rfl ?_
  rw [kcp_p (by decide)]
  refine x_acopy (pc := 47) (t := 0) dX5_copyFrom_47 w_cpyX5 (zar_k3 h3 (by decide) rfl rfl) (zar_b rfl rfl rfl) (by decide) rfl rfl (n := N) (⟨e5, by omega⟩) (c2) (c2) (fun i _ => rfl) (Nat.le_of_ble_eq_true rfl) ?_
  refine x_aload_n (pc := 50) 1 dX5_copyFrom_50 rfl rfl ?_
  refine x_getr (pc := 51) (34) dX5_copyFrom_51 fX5_18 (zat_k3 h3 (by decide) rfl) rfl ?_
  refine x_iconst (pc := 54) (nI 0) dX5_copyFrom_54 (by decide) ?_
  refine x_aload_n (pc := 55) 0 dX5_copyFrom_55 rfl rfl ?_
  refine x_getr (pc := 56) (14) dX5_copyFrom_56 fX5_18 (zat_b rfl rfl) rfl ?_
  refine x_iconst (pc := 59) (nI 0) dX5_copyFrom_59 (by decide) ?_
  refine x_aload_n (pc := 60) 0 dX5_copyFrom_60 rfl rfl ?_
  refine x_geti_l (pc := 61) dX5_copyFrom_61 fX5_28 (zat_b rfl rfl) rfl rfl ?_
  rw [kcp_p (by decide), kcp_p (by decide)]
  refine x_acopy (pc := 64) (t := 1) dX5_copyFrom_64 w_cpyX5 (zar_k3 h3 (by decide) rfl rfl) (zar_b rfl rfl rfl) (by decide) rfl rfl (n := N) (⟨e5, by omega⟩) (c2) (c2) (fun i hi => by rw [kcp_p (by decide), kcp_p (by decide), e0 34 (by decide)]; exact c6 i hi) (Nat.le_of_ble_eq_true rfl) ?_
  refine x_aload_n (pc := 67) 1 dX5_copyFrom_67 rfl rfl ?_
  refine x_getr (pc := 68) (35) dX5_copyFrom_68 fX5_22 (zat_k3 h3 (by decide) rfl) rfl ?_
  refine x_iconst (pc := 71) (nI 0) dX5_copyFrom_71 (by decide) ?_
  refine x_aload_n (pc := 72) 0 dX5_copyFrom_72 rfl rfl ?_
  refine x_getr (pc := 73) (15) dX5_copyFrom_73 fX5_22 (zat_b rfl rfl) rfl ?_
  refine x_iconst (pc := 76) (nI 0) dX5_copyFrom_76 (by decide) ?_
  refine x_aload_n (pc := 77) 0 dX5_copyFrom_77 rfl rfl ?_
  refine x_geti_l (pc := 78) dX5_copyFrom_78 fX5_28 (zat_b rfl rfl) rfl rfl ?_
  rw [kcp_p (by decide), kcp_p (by decide), kcp_p (by decide), e5]
  refine x_iconst (pc := 81) (nI 1) dX5_copyFrom_81 (by decide) ?_
  refine x_iadd (pc := 82) dX5_copyFrom_82 ?_
  rw [nI_add]
  refine x_acopy (pc := 83) (t := 0) dX5_copyFrom_83 w_cpyX5 (zar_k3 h3 (by decide) rfl rfl) (zar_b rfl rfl rfl) (by decide) rfl rfl (n := N + 1) (⟨rfl, by omega⟩) (Nat.succ_le_succ c2) (Nat.succ_le_succ c2) (fun i _ => rfl) (Nat.le_of_ble_eq_true rfl) ?_
  refine x_aload_n (pc := 86) 0 dX5_copyFrom_86 rfl rfl ?_
  refine x_aload_n (pc := 87) 0 dX5_copyFrom_87 rfl rfl ?_
  refine x_getr (pc := 88) (15) dX5_copyFrom_88 fX5_22 (zat_b rfl rfl) rfl ?_
  refine x_aload_n (pc := 91) 0 dX5_copyFrom_91 rfl rfl ?_
  refine x_geti_l (pc := 92) dX5_copyFrom_92 fX5_28 (zat_b rfl rfl) rfl rfl ?_
  rw [kcp_p (x := 11) (by decide), kcp_p (by decide), kcp_p (by decide), kcp_p (by decide), e5]
  have hj95 : N < 401 := by omega
  refine x_iald_l (pc := 95) (N) dX5_copyFrom_95 (zar_b rfl rfl rfl) rfl (by first | rfl | simp only [pk_mul, nI_add] | simp only [zon, pk_mul, nI_add]) hj95 (Nat.lt_of_lt_of_le hj95 (by decide)) ?_
  rw [kcp_lt (by omega), kcp_p (by decide), kcp_p (by decide), kcp_p (by decide), e0 35 (by decide), c3]
  have q5 : (kcp (kcp (kcp (kcp K 12 32 N) 13 33 N) 14 34 N) 15 35 (N + 1)) 11 5 = nI N := by rw [kcp_p (by decide), kcp_p (by decide), kcp_p (by decide), kcp_p (by decide)]; exact e5
  have q4 : (kcp (kcp (kcp (kcp K 12 32 N) 13 33 N) 14 34 N) 15 35 (N + 1)) 15 N = nI S := by rw [kcp_lt (by omega), kcp_p (by decide), kcp_p (by decide), kcp_p (by decide), e0 35 (by decide)]; exact c3
  generalize kcp (kcp (kcp (kcp K 12 32 N) 13 33 N) 14 34 N) 15 35 (N + 1) = J at q5 q4 ⊢
  refine x_callV1v (pc := 96) dX5_copyFrom_96 lX5_44 (zat_b rfl rfl) rfl (s_makeRoom (g := 0) (d := d) (μ := (J, α, τ)) (by decide) (zar_b rfl rfl rfl) (zat_b rfl rfl) (by omega) hg) (Nat.le_of_ble_eq_true rfl) (Or.inr (zfr2 ⟨zpl_b rfl, rfl⟩ ⟨zin_k3 h3 (by decide), rfl⟩)) ?_
  rw [k_room_eqg]
  have g1 := k_rmTg_ge (τ := τ) (g := 0) (n := S)
  have g2 : S ≤ (k_rmTg τ 0 S).2 1 := by rw [k_rmTg_k (by decide) (by decide) (by decide)]; exact c5
  have h3 : (k_rmTg τ 0 S).2 3 = 1 := by rw [k_rmTg_k (by decide) (by decide) (by decide)]; exact h3
  have q5 : k_rmKg J τ 0 S 11 5 = nI N := by rw [k_rmKg_p (by decide)]; exact q5
  have q4 : k_rmKg J τ 0 S 15 N = nI S := by rw [k_rmKg_p (by decide)]; exact q4
  refine x_aload_n (pc := 99) 1 dX5_copyFrom_99 rfl rfl ?_
  refine x_getr (pc := 100) (36) dX5_copyFrom_100 fX5_25 (zat_k3 h3 (by decide) rfl) rfl ?_
  refine x_iconst (pc := 103) (nI 0) dX5_copyFrom_103 (by decide) ?_
  refine x_aload_n (pc := 104) 0 dX5_copyFrom_104 rfl rfl ?_
  refine x_getr (pc := 105) (16) dX5_copyFrom_105 fX5_25 (zat_b rfl rfl) rfl ?_
  refine x_iconst (pc := 108) (nI 0) dX5_copyFrom_108 (by decide) ?_
  refine x_aload_n (pc := 109) 0 dX5_copyFrom_109 rfl rfl ?_
  refine x_getr (pc := 110) (15) dX5_copyFrom_110 fX5_22 (zat_b rfl rfl) rfl ?_
  refine x_aload_n (pc := 113) 0 dX5_copyFrom_113 rfl rfl ?_
  refine x_geti_l (pc := 114) dX5_copyFrom_114 fX5_28 (zat_b rfl rfl) rfl rfl ?_
  rw [q5]
  have hj117 : N < 401 := by omega
  refine x_iald_l (pc := 117) (N) dX5_copyFrom_117 (zar_b rfl rfl rfl) rfl (by first | rfl | simp only [pk_mul, nI_add] | simp only [zon, pk_mul, nI_add]) hj117 (Nat.lt_of_lt_of_le hj117 (by decide)) ?_
  rw [q4]
  refine x_acopy (pc := 118) (t := 0) dX5_copyFrom_118 w_cpyX5 (zar_k3 h3 (by decide) rfl rfl) (zar_b rfl rfl rfl) (by decide) rfl rfl (n := S) (⟨rfl, by omega⟩) (g2) (g1) (fun i _ => rfl) (Nat.le_of_ble_eq_true rfl) ?_
  refine x_vret (pc := 121) dX5_copyFrom_121 rfl ?_
  exact ⟨rfl, rfl⟩
theorem s_cpA01 (d : Nat) {N S t u : Nat} (h3 : τ.2 3 = 1) (hc : kCp κ τ 1 N S t u) (hg : τ.2 0 ≤ 24000) : zTr E (d + 4) mX3_copyFrom [.ref 10, .ref 30] (κ, α, τ) none (k_cpA κ τ 0 1 N S t u, α, k_rmTg τ 0 S) := by
  obtain ⟨c1, c3, c6, ⟨c7, c8⟩, ⟨c9, c10⟩, b, c11⟩ := id hc
  have c7 : κ 37 1 = nI t := c7
  have c9 : κ 39 1 = nI u := c9
  have c11 : κ 30 7 = zbo b := c11
  refine zM.tr (zM_of [some (.ref 10), some (.ref 30)] (by decide) rfl (Nat.le_of_ble_eq_true rfl) ?_)
  refine x_aload_n (pc := 0) 0 dX3_copyFrom_0 rfl rfl ?_
  refine x_getr (pc := 1) (11) dX3_copyFrom_1 fX3_12 (zat_b rfl rfl) rfl ?_
  refine x_aload_n (pc := 4) 1 dX3_copyFrom_4 rfl rfl ?_
  refine x_getr (pc := 5) (31) dX3_copyFrom_5 fX3_12 (zat_k3 h3 (by decide) rfl) rfl ?_
  refine x_callV1v (pc := 8) dX3_copyFrom_8 lX3_51 (zat_b rfl rfl) rfl (s_cpS01 d h3 hc hg) (Nat.le_of_ble_eq_true rfl) (Or.inr (zfr2 ⟨zpl_b rfl, rfl⟩ ⟨zin_k3 h3 (by decide), rfl⟩)) ?_
  have eF : k_cpA κ τ 0 1 N S t u = zit (k_cpFld 10 30) 4 13 (kcp (k_cpR (k_cpR (k_cpS κ τ 0 1 N S) 17 37 t) 19 39 u) 21 41 31) := rfl
  rw [eF]
  have z : ∀ p, p ≠ 11 → p ≠ 12 → p ≠ 13 → p ≠ 14 → p ≠ 15 → p ≠ 16 → k_cpS κ τ 0 1 N S p = κ p := fun p p0 p1 p2 p3 p4 p5 => by
    funext j
    show kcp (k_rmKg (kcp (kcp (kcp (kcp (k_cp1 κ 11 31) 12 32 N) 13 33 N) 14 34 N) 15 35 (N + 1)) τ 0 S) 16 36 S p j = κ p j
    rw [kcp_p p5, k_rmKg_p p5, kcp_p p4, kcp_p p3, kcp_p p2, kcp_p p1]
    unfold k_cp1
    rw [zup_p p0, zup_p p0]
  have h3 : (k_rmTg τ 0 S).2 3 = 1 := by rw [k_rmTg_k (by decide) (by decide) (by decide)]; exact h3
  have d7 : k_cpS κ τ 0 1 N S 37 1 = nI t := by rw [z 37 (by decide) (by decide) (by decide) (by decide) (by decide) (by decide)]; exact c7
  have d9 : k_cpS κ τ 0 1 N S 39 1 = nI u := by rw [z 39 (by decide) (by decide) (by decide) (by decide) (by decide) (by decide)]; exact c9
  have d11 : k_cpS κ τ 0 1 N S 30 7 = zbo b := by rw [z 30 (by decide) (by decide) (by decide) (by decide) (by decide) (by decide)]; exact c11
  generalize k_cpS κ τ 0 1 N S = K at d7 d9 d11 ⊢
  generalize k_rmTg τ 0 S = τ' at h3 ⊢
  have r1 : kRow τ' 17 8 := kRow17
  have r2 : kRow τ' 37 8 := kRow37 h3
  have r3 : kRow τ' 19 8 := kRow19
  have r4 : kRow τ' 39 8 := kRow39 h3
  refine x_aload_n (pc := 11) 0 dX3_copyFrom_11 rfl rfl ?_
  refine x_getr (pc := 12) (17) dX3_copyFrom_12 fX3_23 (zat_b rfl rfl) rfl ?_
  refine x_aload_n (pc := 15) 1 dX3_copyFrom_15 rfl rfl ?_
  refine x_getr (pc := 16) (37) dX3_copyFrom_16 fX3_23 (zat_k3 h3 (by decide) rfl) rfl ?_
  refine x_callV1v (pc := 19) dX3_copyFrom_19 lX3_55 (zat_b rfl rfl) rfl (s_rowCopy (t := t) d r1 r2 (by decide) (by decide) (by decide) d7 c8 c8) (Nat.le_of_ble_eq_true rfl) (Or.inl zgr) ?_
  refine x_aload_n (pc := 22) 0 dX3_copyFrom_22 rfl rfl ?_
  refine x_getr (pc := 23) (19) dX3_copyFrom_23 fX3_27 (zat_b rfl rfl) rfl ?_
  refine x_aload_n (pc := 26) 1 dX3_copyFrom_26 rfl rfl ?_
  refine x_getr (pc := 27) (39) dX3_copyFrom_27 fX3_27 (zat_k3 h3 (by decide) rfl) rfl ?_
  refine x_callV1v (pc := 30) dX3_copyFrom_30 lX3_55 (zat_b rfl rfl) rfl (s_rowCopy (t := u) d r3 r4 (by decide) (by decide) (by decide) (by rw [k_cpR_p (by decide) (by decide)]; exact d9) c10 c10) (Nat.le_of_ble_eq_true rfl) (Or.inl zgr) ?_
  refine x_aload_n (pc := 33) 1 dX3_copyFrom_33 rfl rfl ?_
  refine x_getr (pc := 34) (41) dX3_copyFrom_34 fX3_30 (zat_k3 h3 (by decide) rfl) rfl ?_
  refine x_iconst (pc := 37) (nI 0) dX3_copyFrom_37 (by decide) ?_
  refine x_aload_n (pc := 38) 0 dX3_copyFrom_38 rfl rfl ?_
  refine x_getr (pc := 39) (21) dX3_copyFrom_39 fX3_30 (zat_b rfl rfl) rfl ?_
  refine x_iconst (pc := 42) (nI 0) dX3_copyFrom_42 (by decide) ?_
  refine x_aload_n (pc := 43) 0 dX3_copyFrom_43 rfl rfl ?_
  refine x_getr (pc := 44) (21) dX3_copyFrom_44 fX3_30 (zat_b rfl rfl) rfl ?_
  refine x_alen (pc := 47) dX3_copyFrom_47 (zar_b rfl rfl rfl) (by decide) ?_
  have f11 : kcp (k_cpR (k_cpR K 17 37 t) 19 39 u) 21 41 31 30 7 = zbo b := by rw [kcp_p (by decide), k_cpR_p (by decide) (by decide), k_cpR_p (by decide) (by decide)]; exact d11
  refine x_acopy (pc := 48) (t := 0) dX3_copyFrom_48 w_cpyX3 (zar_k3 h3 (by decide) rfl rfl) (zar_b rfl rfl rfl) (by decide) rfl rfl (n := 31) (⟨rfl, by decide⟩) (Nat.le_refl _) (Nat.le_refl _) (fun i _ => rfl) (Nat.le_of_ble_eq_true rfl) ?_
  generalize kcp (k_cpR (k_cpR K 17 37 t) 19 39 u) 21 41 31 = J at f11 ⊢
  have bb : narrow .boolean (.int (zup (zup (zup J 10 4 (J 30 4)) 10 5 (zup J 10 4 (J 30 4) 30 5)) 10 6 (zup (zup J 10 4 (J 30 4)) 10 5 (zup J 10 4 (J 30 4) 30 5) 30 6) 30 7)) = .int (zup (zup (zup J 10 4 (J 30 4)) 10 5 (zup J 10 4 (J 30 4) 30 5)) 10 6 (zup (zup J 10 4 (J 30 4)) 10 5 (zup J 10 4 (J 30 4) 30 5) 30 6) 30 7) ∧ fits .boolean (.int (zup (zup (zup J 10 4 (J 30 4)) 10 5 (zup J 10 4 (J 30 4) 30 5)) 10 6 (zup (zup J 10 4 (J 30 4)) 10 5 (zup J 10 4 (J 30 4) 30 5) 30 6) 30 7)) = true := by
    have e : zup (zup (zup J 10 4 (J 30 4)) 10 5 (zup J 10 4 (J 30 4) 30 5)) 10 6 (zup (zup J 10 4 (J 30 4)) 10 5 (zup J 10 4 (J 30 4) 30 5) 30 6) 30 7 = zbo b := by rw [zup_p (by decide), zup_p (by decide), zup_p (by decide)]; exact f11
    rw [e]
    exact ⟨zbo_nar b, zbo_fit b⟩
  refine x_aload_n (pc := 51) 0 dX3_copyFrom_51 rfl rfl ?_
  refine x_aload_n (pc := 52) 1 dX3_copyFrom_52 rfl rfl ?_
  refine x_geti_l (pc := 53) dX3_copyFrom_53 fX3_41 (zat_k3 h3 (by decide) rfl) rfl rfl ?_
  refine x_puti_l (pc := 56) dX3_copyFrom_56 pX3_41 (zat_b rfl rfl) rfl rfl ?_
  refine x_aload_n (pc := 59) 0 dX3_copyFrom_59 rfl rfl ?_
  refine x_aload_n (pc := 60) 1 dX3_copyFrom_60 rfl rfl ?_
  refine x_geti_l (pc := 61) dX3_copyFrom_61 fX3_44 (zat_k3 h3 (by decide) rfl) rfl rfl ?_
  refine x_puti_l (pc := 64) dX3_copyFrom_64 pX3_44 (zat_b rfl rfl) rfl rfl ?_
  refine x_aload_n (pc := 67) 0 dX3_copyFrom_67 rfl rfl ?_
  refine x_aload_n (pc := 68) 1 dX3_copyFrom_68 rfl rfl ?_
  refine x_geti_l (pc := 69) dX3_copyFrom_69 fX3_64 (zat_k3 h3 (by decide) rfl) rfl rfl ?_
  refine x_puti_l (pc := 72) dX3_copyFrom_72 pX3_64 (zat_b rfl rfl) rfl rfl ?_
  refine x_aload_n (pc := 75) 0 dX3_copyFrom_75 rfl rfl ?_
  refine x_aload_n (pc := 76) 1 dX3_copyFrom_76 rfl rfl ?_
  refine x_geti_l (pc := 77) dX3_copyFrom_77 fX3_67 (zat_k3 h3 (by decide) rfl) rfl rfl ?_
  refine x_put0_l (pc := 80) dX3_copyFrom_80 pX3_67 (zat_b rfl rfl) rfl rfl (bb).1 (bb).2 ?_
  refine x_aload_n (pc := 83) 0 dX3_copyFrom_83 rfl rfl ?_
  refine x_aload_n (pc := 84) 1 dX3_copyFrom_84 rfl rfl ?_
  refine x_geti_l (pc := 85) dX3_copyFrom_85 fX3_71 (zat_k3 h3 (by decide) rfl) rfl rfl ?_
  refine x_puti_l (pc := 88) dX3_copyFrom_88 pX3_71 (zat_b rfl rfl) rfl rfl ?_
  refine x_aload_n (pc := 91) 0 dX3_copyFrom_91 rfl rfl ?_
  refine x_aload_n (pc := 92) 1 dX3_copyFrom_92 rfl rfl ?_
  refine x_geti_l (pc := 93) dX3_copyFrom_93 fX3_74 (zat_k3 h3 (by decide) rfl) rfl rfl ?_
  refine x_puti_l (pc := 96) dX3_copyFrom_96 pX3_74 (zat_b rfl rfl) rfl rfl ?_
  refine x_aload_n (pc := 99) 0 dX3_copyFrom_99 rfl rfl ?_
  refine x_aload_n (pc := 100) 1 dX3_copyFrom_100 rfl rfl ?_
  refine x_geti_l (pc := 101) dX3_copyFrom_101 fX3_77 (zat_k3 h3 (by decide) rfl) rfl rfl ?_
  refine x_puti_l (pc := 104) dX3_copyFrom_104 pX3_77 (zat_b rfl rfl) rfl rfl ?_
  refine x_aload_n (pc := 107) 0 dX3_copyFrom_107 rfl rfl ?_
  refine x_aload_n (pc := 108) 1 dX3_copyFrom_108 rfl rfl ?_
  refine x_geti_l (pc := 109) dX3_copyFrom_109 fX3_80 (zat_k3 h3 (by decide) rfl) rfl rfl ?_
  refine x_puti_l (pc := 112) dX3_copyFrom_112 pX3_80 (zat_b rfl rfl) rfl rfl ?_
  refine x_aload_n (pc := 115) 0 dX3_copyFrom_115 rfl rfl ?_
  refine x_aload_n (pc := 116) 1 dX3_copyFrom_116 rfl rfl ?_
  refine x_geti_l (pc := 117) dX3_copyFrom_117 fX3_34 (zat_k3 h3 (by decide) rfl) rfl rfl ?_
  refine x_puti_l (pc := 120) dX3_copyFrom_120 pX3_34 (zat_b rfl rfl) rfl rfl ?_
  refine x_aload_n (pc := 123) 0 dX3_copyFrom_123 rfl rfl ?_
  refine x_aload_n (pc := 124) 1 dX3_copyFrom_124 rfl rfl ?_
  refine x_geti_l (pc := 125) dX3_copyFrom_125 fX3_83 (zat_k3 h3 (by decide) rfl) rfl rfl ?_
  refine x_puti_l (pc := 128) dX3_copyFrom_128 pX3_83 (zat_b rfl rfl) rfl rfl ?_
  refine x_aload_n (pc := 131) 0 dX3_copyFrom_131 rfl rfl ?_
  refine x_aload_n (pc := 132) 1 dX3_copyFrom_132 rfl rfl ?_
  refine x_geti_l (pc := 133) dX3_copyFrom_133 fX3_86 (zat_k3 h3 (by decide) rfl) rfl rfl ?_
  refine x_puti_l (pc := 136) dX3_copyFrom_136 pX3_86 (zat_b rfl rfl) rfl rfl ?_
  refine x_aload_n (pc := 139) 0 dX3_copyFrom_139 rfl rfl ?_
  refine x_aload_n (pc := 140) 1 dX3_copyFrom_140 rfl rfl ?_
  refine x_geti_l (pc := 141) dX3_copyFrom_141 fX3_89 (zat_k3 h3 (by decide) rfl) rfl rfl ?_
  refine x_puti_l (pc := 144) dX3_copyFrom_144 pX3_89 (zat_b rfl rfl) rfl rfl ?_
  refine x_aload_n (pc := 147) 0 dX3_copyFrom_147 rfl rfl ?_
  refine x_aload_n (pc := 148) 1 dX3_copyFrom_148 rfl rfl ?_
  refine x_geti_l (pc := 149) dX3_copyFrom_149 fX3_38 (zat_k3 h3 (by decide) rfl) rfl rfl ?_
  refine x_puti_l (pc := 152) dX3_copyFrom_152 pX3_38 (zat_b rfl rfl) rfl rfl ?_
  refine x_vret (pc := 155) dX3_copyFrom_155 rfl ?_
  exact ⟨rfl, rfl⟩
theorem s_cpS02 (d : Nat) {N S t u : Nat} (h4 : τ.2 4 = 1) (hc : kCp κ τ 2 N S t u) (hg : τ.2 0 ≤ 24000) : zTr E (d + 3) mX5_copyFrom [.ref 11, .ref 51] (κ, α, τ) none (k_cpS κ τ 0 2 N S, α, k_rmTg τ 0 S) := by
  obtain ⟨⟨c1, c2⟩, ⟨c3, c4, c5⟩, c6, -⟩ := hc
  have c1 : κ 51 5 = nI N := c1
  have c3 : κ 55 N = nI S := c3
  have c6 : ∀ i, i < N → fits .byte (.int (κ 54 i)) = true := c6
  refine zM.tr (zM_of [some (.ref 11), some (.ref 51)] (by decide) rfl (Nat.le_of_ble_eq_true rfl) ?_)
  refine x_aload_n (pc := 0) 0 dX5_copyFrom_0 rfl rfl ?_
  refine x_aload_n (pc := 1) 1 dX5_copyFrom_1 rfl rfl ?_
  refine x_geti_l (pc := 2) dX5_copyFrom_2 fX5_28 (zat_k4 h4 (by decide) rfl) rfl rfl ?_
  refine x_puti_l (pc := 5) dX5_copyFrom_5 pX5_28 (zat_b rfl rfl) rfl rfl ?_
  refine x_aload_n (pc := 8) 0 dX5_copyFrom_8 rfl rfl ?_
  refine x_aload_n (pc := 9) 1 dX5_copyFrom_9 rfl rfl ?_
  refine x_geti_l (pc := 10) dX5_copyFrom_10 fX5_32 (zat_k4 h4 (by decide) rfl) rfl rfl ?_
  rw [zup_p (by decide)]
  refine x_puti_l (pc := 13) dX5_copyFrom_13 pX5_32 (zat_b rfl rfl) rfl rfl ?_
  refine x_aload_n (pc := 16) 1 dX5_copyFrom_16 rfl rfl ?_
  refine x_getr (pc := 17) (52) dX5_copyFrom_17 fX5_9 (zat_k4 h4 (by decide) rfl) rfl ?_
  refine x_iconst (pc := 20) (nI 0) dX5_copyFrom_20 (by decide) ?_
  refine x_aload_n (pc := 21) 0 dX5_copyFrom_21 rfl rfl ?_
  refine x_getr (pc := 22) (12) dX5_copyFrom_22 fX5_9 (zat_b rfl rfl) rfl ?_
  refine x_iconst (pc := 25) (nI 0) dX5_copyFrom_25 (by decide) ?_
  refine x_aload_n (pc := 26) 0 dX5_copyFrom_26 rfl rfl ?_
  refine x_geti_l (pc := 27) dX5_copyFrom_27 fX5_28 (zat_b rfl rfl) rfl rfl ?_
  show zX E (d + 3) mX5_copyFrom 30 [some (.ref 11), some (.ref 51)] [.int (k_cp1 κ 11 51 11 5), .int (nI 0), .ref 12, .int (nI 0), .ref 52] (k_cp1 κ 11 51, α, τ) _
  have e0 : ∀ p, p ≠ 11 → k_cp1 κ 11 51 p = κ p := fun p hp => by funext j; unfold k_cp1; rw [zup_p hp, zup_p hp]
  have e5 : k_cp1 κ 11 51 11 5 = nI N := by unfold k_cp1; rw [zup_i (by decide), zup_same]; exact c1
  have eF : k_cpS κ τ 0 2 N S = kcp (k_rmKg (kcp (kcp (kcp (kcp (k_cp1 κ 11 51) 12 52 N) 13 53 N) 14 54 N) 15 55 (N + 1)) τ 0 S) 16 56 S := rfl
  rw [eF]
  generalize k_cp1 κ 11 51 = K at e0 e5 ⊢
  refine x_acopy (pc := 30) (t := 0) dX5_copyFrom_30 w_cpyX5 (zar_k4 h4 (by decide) rfl rfl) (zar_b rfl rfl rfl) (by decide) rfl rfl (n := N) (⟨e5, by omega⟩) (c2) (c2) (fun i _ => rfl) (Nat.le_of_ble_eq_true rfl) ?_
  refine x_aload_n (pc := 33) 1 dX5_copyFrom_33 rfl rfl ?_
  refine x_getr (pc := 34) (53) dX5_copyFrom_34 fX5_15 (zat_k4 h4 (by decide) rfl) rfl ?_
  refine x_iconst (pc := 37) (nI 0) dX5_copyFrom_37 (by decide) ?_
  refine x_aload_n (pc := 38) 0 dX5_copyFrom_38 rfl rfl ?_
  refine x_getr (pc := 39) (13) dX5_copyFrom_39 fX5_15 (zat_b rfl rfl) rfl ?_
  refine x_iconst (pc := 42) (nI 0) dX5_copyFrom_42 (by decide) ?_
  refine x_aload_n (pc := 43) 0 dX5_copyFrom_43 rfl rfl ?_
  refine x_geti_l (pc := 44) dX5_copyFrom_44 fX5_28 (zat_b rfl rfl) rfl rfl ?_
  rw [kcp_p (by decide)]
  refine x_acopy (pc := 47) (t := 0) dX5_copyFrom_47 w_cpyX5 (zar_k4 h4 (by decide) rfl rfl) (zar_b rfl rfl rfl) (by decide) rfl rfl (n := N) (⟨e5, by omega⟩) (c2) (c2) (fun i _ => rfl) (Nat.le_of_ble_eq_true rfl) ?_
  refine x_aload_n (pc := 50) 1 dX5_copyFrom_50 rfl rfl ?_
  refine x_getr (pc := 51) (54) dX5_copyFrom_51 fX5_18 (zat_k4 h4 (by decide) rfl) rfl ?_
  refine x_iconst (pc := 54) (nI 0) dX5_copyFrom_54 (by decide) ?_
  refine x_aload_n (pc := 55) 0 dX5_copyFrom_55 rfl rfl ?_
  refine x_getr (pc := 56) (14) dX5_copyFrom_56 fX5_18 (zat_b rfl rfl) rfl ?_
  refine x_iconst (pc := 59) (nI 0) dX5_copyFrom_59 (by decide) ?_
  refine x_aload_n (pc := 60) 0 dX5_copyFrom_60 rfl rfl ?_
  refine x_geti_l (pc := 61) dX5_copyFrom_61 fX5_28 (zat_b rfl rfl) rfl rfl ?_
  rw [kcp_p (by decide), kcp_p (by decide)]
  refine x_acopy (pc := 64) (t := 1) dX5_copyFrom_64 w_cpyX5 (zar_k4 h4 (by decide) rfl rfl) (zar_b rfl rfl rfl) (by decide) rfl rfl (n := N) (⟨e5, by omega⟩) (c2) (c2) (fun i hi => by rw [kcp_p (by decide), kcp_p (by decide), e0 54 (by decide)]; exact c6 i hi) (Nat.le_of_ble_eq_true rfl) ?_
  refine x_aload_n (pc := 67) 1 dX5_copyFrom_67 rfl rfl ?_
  refine x_getr (pc := 68) (55) dX5_copyFrom_68 fX5_22 (zat_k4 h4 (by decide) rfl) rfl ?_
  refine x_iconst (pc := 71) (nI 0) dX5_copyFrom_71 (by decide) ?_
  refine x_aload_n (pc := 72) 0 dX5_copyFrom_72 rfl rfl ?_
  refine x_getr (pc := 73) (15) dX5_copyFrom_73 fX5_22 (zat_b rfl rfl) rfl ?_
  refine x_iconst (pc := 76) (nI 0) dX5_copyFrom_76 (by decide) ?_
  refine x_aload_n (pc := 77) 0 dX5_copyFrom_77 rfl rfl ?_
  refine x_geti_l (pc := 78) dX5_copyFrom_78 fX5_28 (zat_b rfl rfl) rfl rfl ?_
  rw [kcp_p (by decide), kcp_p (by decide), kcp_p (by decide), e5]
  refine x_iconst (pc := 81) (nI 1) dX5_copyFrom_81 (by decide) ?_
  refine x_iadd (pc := 82) dX5_copyFrom_82 ?_
  rw [nI_add]
  refine x_acopy (pc := 83) (t := 0) dX5_copyFrom_83 w_cpyX5 (zar_k4 h4 (by decide) rfl rfl) (zar_b rfl rfl rfl) (by decide) rfl rfl (n := N + 1) (⟨rfl, by omega⟩) (Nat.succ_le_succ c2) (Nat.succ_le_succ c2) (fun i _ => rfl) (Nat.le_of_ble_eq_true rfl) ?_
  refine x_aload_n (pc := 86) 0 dX5_copyFrom_86 rfl rfl ?_
  refine x_aload_n (pc := 87) 0 dX5_copyFrom_87 rfl rfl ?_
  refine x_getr (pc := 88) (15) dX5_copyFrom_88 fX5_22 (zat_b rfl rfl) rfl ?_
  refine x_aload_n (pc := 91) 0 dX5_copyFrom_91 rfl rfl ?_
  refine x_geti_l (pc := 92) dX5_copyFrom_92 fX5_28 (zat_b rfl rfl) rfl rfl ?_
  rw [kcp_p (x := 11) (by decide), kcp_p (by decide), kcp_p (by decide), kcp_p (by decide), e5]
  have hj95 : N < 401 := by omega
  refine x_iald_l (pc := 95) (N) dX5_copyFrom_95 (zar_b rfl rfl rfl) rfl (by first | rfl | simp only [pk_mul, nI_add] | simp only [zon, pk_mul, nI_add]) hj95 (Nat.lt_of_lt_of_le hj95 (by decide)) ?_
  rw [kcp_lt (by omega), kcp_p (by decide), kcp_p (by decide), kcp_p (by decide), e0 55 (by decide), c3]
  have q5 : (kcp (kcp (kcp (kcp K 12 52 N) 13 53 N) 14 54 N) 15 55 (N + 1)) 11 5 = nI N := by rw [kcp_p (by decide), kcp_p (by decide), kcp_p (by decide), kcp_p (by decide)]; exact e5
  have q4 : (kcp (kcp (kcp (kcp K 12 52 N) 13 53 N) 14 54 N) 15 55 (N + 1)) 15 N = nI S := by rw [kcp_lt (by omega), kcp_p (by decide), kcp_p (by decide), kcp_p (by decide), e0 55 (by decide)]; exact c3
  generalize kcp (kcp (kcp (kcp K 12 52 N) 13 53 N) 14 54 N) 15 55 (N + 1) = J at q5 q4 ⊢
  refine x_callV1v (pc := 96) dX5_copyFrom_96 lX5_44 (zat_b rfl rfl) rfl (s_makeRoom (g := 0) (d := d) (μ := (J, α, τ)) (by decide) (zar_b rfl rfl rfl) (zat_b rfl rfl) (by omega) hg) (Nat.le_of_ble_eq_true rfl) (Or.inr (zfr2 ⟨zpl_b rfl, rfl⟩ ⟨zin_k4 h4 (by decide), rfl⟩)) ?_
  rw [k_room_eqg]
  have g1 := k_rmTg_ge (τ := τ) (g := 0) (n := S)
  have g2 : S ≤ (k_rmTg τ 0 S).2 2 := by rw [k_rmTg_k (by decide) (by decide) (by decide)]; exact c5
  have h4 : (k_rmTg τ 0 S).2 4 = 1 := by rw [k_rmTg_k (by decide) (by decide) (by decide)]; exact h4
  have q5 : k_rmKg J τ 0 S 11 5 = nI N := by rw [k_rmKg_p (by decide)]; exact q5
  have q4 : k_rmKg J τ 0 S 15 N = nI S := by rw [k_rmKg_p (by decide)]; exact q4
  refine x_aload_n (pc := 99) 1 dX5_copyFrom_99 rfl rfl ?_
  refine x_getr (pc := 100) (56) dX5_copyFrom_100 fX5_25 (zat_k4 h4 (by decide) rfl) rfl ?_
  refine x_iconst (pc := 103) (nI 0) dX5_copyFrom_103 (by decide) ?_
  refine x_aload_n (pc := 104) 0 dX5_copyFrom_104 rfl rfl ?_
  refine x_getr (pc := 105) (16) dX5_copyFrom_105 fX5_25 (zat_b rfl rfl) rfl ?_
  refine x_iconst (pc := 108) (nI 0) dX5_copyFrom_108 (by decide) ?_
  refine x_aload_n (pc := 109) 0 dX5_copyFrom_109 rfl rfl ?_
  refine x_getr (pc := 110) (15) dX5_copyFrom_110 fX5_22 (zat_b rfl rfl) rfl ?_
  refine x_aload_n (pc := 113) 0 dX5_copyFrom_113 rfl rfl ?_
  refine x_geti_l (pc := 114) dX5_copyFrom_114 fX5_28 (zat_b rfl rfl) rfl rfl ?_
  rw [q5]
  have hj117 : N < 401 := by omega
  refine x_iald_l (pc := 117) (N) dX5_copyFrom_117 (zar_b rfl rfl rfl) rfl (by first | rfl | simp only [pk_mul, nI_add] | simp only [zon, pk_mul, nI_add]) hj117 (Nat.lt_of_lt_of_le hj117 (by decide)) ?_
  rw [q4]
  refine x_acopy (pc := 118) (t := 0) dX5_copyFrom_118 w_cpyX5 (zar_k4 h4 (by decide) rfl rfl) (zar_b rfl rfl rfl) (by decide) rfl rfl (n := S) (⟨rfl, by omega⟩) (g2) (g1) (fun i _ => rfl) (Nat.le_of_ble_eq_true rfl) ?_
  refine x_vret (pc := 121) dX5_copyFrom_121 rfl ?_
  exact ⟨rfl, rfl⟩
theorem s_cpA02 (d : Nat) {N S t u : Nat} (h4 : τ.2 4 = 1) (hc : kCp κ τ 2 N S t u) (hg : τ.2 0 ≤ 24000) : zTr E (d + 4) mX3_copyFrom [.ref 10, .ref 50] (κ, α, τ) none (k_cpA κ τ 0 2 N S t u, α, k_rmTg τ 0 S) := by
  obtain ⟨c1, c3, c6, ⟨c7, c8⟩, ⟨c9, c10⟩, b, c11⟩ := id hc
  have c7 : κ 57 1 = nI t := c7
  have c9 : κ 59 1 = nI u := c9
  have c11 : κ 50 7 = zbo b := c11
  refine zM.tr (zM_of [some (.ref 10), some (.ref 50)] (by decide) rfl (Nat.le_of_ble_eq_true rfl) ?_)
  refine x_aload_n (pc := 0) 0 dX3_copyFrom_0 rfl rfl ?_
  refine x_getr (pc := 1) (11) dX3_copyFrom_1 fX3_12 (zat_b rfl rfl) rfl ?_
  refine x_aload_n (pc := 4) 1 dX3_copyFrom_4 rfl rfl ?_
  refine x_getr (pc := 5) (51) dX3_copyFrom_5 fX3_12 (zat_k4 h4 (by decide) rfl) rfl ?_
  refine x_callV1v (pc := 8) dX3_copyFrom_8 lX3_51 (zat_b rfl rfl) rfl (s_cpS02 d h4 hc hg) (Nat.le_of_ble_eq_true rfl) (Or.inr (zfr2 ⟨zpl_b rfl, rfl⟩ ⟨zin_k4 h4 (by decide), rfl⟩)) ?_
  have eF : k_cpA κ τ 0 2 N S t u = zit (k_cpFld 10 50) 4 13 (kcp (k_cpR (k_cpR (k_cpS κ τ 0 2 N S) 17 57 t) 19 59 u) 21 61 31) := rfl
  rw [eF]
  have z : ∀ p, p ≠ 11 → p ≠ 12 → p ≠ 13 → p ≠ 14 → p ≠ 15 → p ≠ 16 → k_cpS κ τ 0 2 N S p = κ p := fun p p0 p1 p2 p3 p4 p5 => by
    funext j
    show kcp (k_rmKg (kcp (kcp (kcp (kcp (k_cp1 κ 11 51) 12 52 N) 13 53 N) 14 54 N) 15 55 (N + 1)) τ 0 S) 16 56 S p j = κ p j
    rw [kcp_p p5, k_rmKg_p p5, kcp_p p4, kcp_p p3, kcp_p p2, kcp_p p1]
    unfold k_cp1
    rw [zup_p p0, zup_p p0]
  have h4 : (k_rmTg τ 0 S).2 4 = 1 := by rw [k_rmTg_k (by decide) (by decide) (by decide)]; exact h4
  have d7 : k_cpS κ τ 0 2 N S 57 1 = nI t := by rw [z 57 (by decide) (by decide) (by decide) (by decide) (by decide) (by decide)]; exact c7
  have d9 : k_cpS κ τ 0 2 N S 59 1 = nI u := by rw [z 59 (by decide) (by decide) (by decide) (by decide) (by decide) (by decide)]; exact c9
  have d11 : k_cpS κ τ 0 2 N S 50 7 = zbo b := by rw [z 50 (by decide) (by decide) (by decide) (by decide) (by decide) (by decide)]; exact c11
  generalize k_cpS κ τ 0 2 N S = K at d7 d9 d11 ⊢
  generalize k_rmTg τ 0 S = τ' at h4 ⊢
  have r1 : kRow τ' 17 8 := kRow17
  have r2 : kRow τ' 57 8 := kRow57 h4
  have r3 : kRow τ' 19 8 := kRow19
  have r4 : kRow τ' 59 8 := kRow59 h4
  refine x_aload_n (pc := 11) 0 dX3_copyFrom_11 rfl rfl ?_
  refine x_getr (pc := 12) (17) dX3_copyFrom_12 fX3_23 (zat_b rfl rfl) rfl ?_
  refine x_aload_n (pc := 15) 1 dX3_copyFrom_15 rfl rfl ?_
  refine x_getr (pc := 16) (57) dX3_copyFrom_16 fX3_23 (zat_k4 h4 (by decide) rfl) rfl ?_
  refine x_callV1v (pc := 19) dX3_copyFrom_19 lX3_55 (zat_b rfl rfl) rfl (s_rowCopy (t := t) d r1 r2 (by decide) (by decide) (by decide) d7 c8 c8) (Nat.le_of_ble_eq_true rfl) (Or.inl zgr) ?_
  refine x_aload_n (pc := 22) 0 dX3_copyFrom_22 rfl rfl ?_
  refine x_getr (pc := 23) (19) dX3_copyFrom_23 fX3_27 (zat_b rfl rfl) rfl ?_
  refine x_aload_n (pc := 26) 1 dX3_copyFrom_26 rfl rfl ?_
  refine x_getr (pc := 27) (59) dX3_copyFrom_27 fX3_27 (zat_k4 h4 (by decide) rfl) rfl ?_
  refine x_callV1v (pc := 30) dX3_copyFrom_30 lX3_55 (zat_b rfl rfl) rfl (s_rowCopy (t := u) d r3 r4 (by decide) (by decide) (by decide) (by rw [k_cpR_p (by decide) (by decide)]; exact d9) c10 c10) (Nat.le_of_ble_eq_true rfl) (Or.inl zgr) ?_
  refine x_aload_n (pc := 33) 1 dX3_copyFrom_33 rfl rfl ?_
  refine x_getr (pc := 34) (61) dX3_copyFrom_34 fX3_30 (zat_k4 h4 (by decide) rfl) rfl ?_
  refine x_iconst (pc := 37) (nI 0) dX3_copyFrom_37 (by decide) ?_
  refine x_aload_n (pc := 38) 0 dX3_copyFrom_38 rfl rfl ?_
  refine x_getr (pc := 39) (21) dX3_copyFrom_39 fX3_30 (zat_b rfl rfl) rfl ?_
  refine x_iconst (pc := 42) (nI 0) dX3_copyFrom_42 (by decide) ?_
  refine x_aload_n (pc := 43) 0 dX3_copyFrom_43 rfl rfl ?_
  refine x_getr (pc := 44) (21) dX3_copyFrom_44 fX3_30 (zat_b rfl rfl) rfl ?_
  refine x_alen (pc := 47) dX3_copyFrom_47 (zar_b rfl rfl rfl) (by decide) ?_
  have f11 : kcp (k_cpR (k_cpR K 17 57 t) 19 59 u) 21 61 31 50 7 = zbo b := by rw [kcp_p (by decide), k_cpR_p (by decide) (by decide), k_cpR_p (by decide) (by decide)]; exact d11
  refine x_acopy (pc := 48) (t := 0) dX3_copyFrom_48 w_cpyX3 (zar_k4 h4 (by decide) rfl rfl) (zar_b rfl rfl rfl) (by decide) rfl rfl (n := 31) (⟨rfl, by decide⟩) (Nat.le_refl _) (Nat.le_refl _) (fun i _ => rfl) (Nat.le_of_ble_eq_true rfl) ?_
  generalize kcp (k_cpR (k_cpR K 17 57 t) 19 59 u) 21 61 31 = J at f11 ⊢
  have bb : narrow .boolean (.int (zup (zup (zup J 10 4 (J 50 4)) 10 5 (zup J 10 4 (J 50 4) 50 5)) 10 6 (zup (zup J 10 4 (J 50 4)) 10 5 (zup J 10 4 (J 50 4) 50 5) 50 6) 50 7)) = .int (zup (zup (zup J 10 4 (J 50 4)) 10 5 (zup J 10 4 (J 50 4) 50 5)) 10 6 (zup (zup J 10 4 (J 50 4)) 10 5 (zup J 10 4 (J 50 4) 50 5) 50 6) 50 7) ∧ fits .boolean (.int (zup (zup (zup J 10 4 (J 50 4)) 10 5 (zup J 10 4 (J 50 4) 50 5)) 10 6 (zup (zup J 10 4 (J 50 4)) 10 5 (zup J 10 4 (J 50 4) 50 5) 50 6) 50 7)) = true := by
    have e : zup (zup (zup J 10 4 (J 50 4)) 10 5 (zup J 10 4 (J 50 4) 50 5)) 10 6 (zup (zup J 10 4 (J 50 4)) 10 5 (zup J 10 4 (J 50 4) 50 5) 50 6) 50 7 = zbo b := by rw [zup_p (by decide), zup_p (by decide), zup_p (by decide)]; exact f11
    rw [e]
    exact ⟨zbo_nar b, zbo_fit b⟩
  refine x_aload_n (pc := 51) 0 dX3_copyFrom_51 rfl rfl ?_
  refine x_aload_n (pc := 52) 1 dX3_copyFrom_52 rfl rfl ?_
  refine x_geti_l (pc := 53) dX3_copyFrom_53 fX3_41 (zat_k4 h4 (by decide) rfl) rfl rfl ?_
  refine x_puti_l (pc := 56) dX3_copyFrom_56 pX3_41 (zat_b rfl rfl) rfl rfl ?_
  refine x_aload_n (pc := 59) 0 dX3_copyFrom_59 rfl rfl ?_
  refine x_aload_n (pc := 60) 1 dX3_copyFrom_60 rfl rfl ?_
  refine x_geti_l (pc := 61) dX3_copyFrom_61 fX3_44 (zat_k4 h4 (by decide) rfl) rfl rfl ?_
  refine x_puti_l (pc := 64) dX3_copyFrom_64 pX3_44 (zat_b rfl rfl) rfl rfl ?_
  refine x_aload_n (pc := 67) 0 dX3_copyFrom_67 rfl rfl ?_
  refine x_aload_n (pc := 68) 1 dX3_copyFrom_68 rfl rfl ?_
  refine x_geti_l (pc := 69) dX3_copyFrom_69 fX3_64 (zat_k4 h4 (by decide) rfl) rfl rfl ?_
  refine x_puti_l (pc := 72) dX3_copyFrom_72 pX3_64 (zat_b rfl rfl) rfl rfl ?_
  refine x_aload_n (pc := 75) 0 dX3_copyFrom_75 rfl rfl ?_
  refine x_aload_n (pc := 76) 1 dX3_copyFrom_76 rfl rfl ?_
  refine x_geti_l (pc := 77) dX3_copyFrom_77 fX3_67 (zat_k4 h4 (by decide) rfl) rfl rfl ?_
  refine x_put0_l (pc := 80) dX3_copyFrom_80 pX3_67 (zat_b rfl rfl) rfl rfl (bb).1 (bb).2 ?_
  refine x_aload_n (pc := 83) 0 dX3_copyFrom_83 rfl rfl ?_
  refine x_aload_n (pc := 84) 1 dX3_copyFrom_84 rfl rfl ?_
  refine x_geti_l (pc := 85) dX3_copyFrom_85 fX3_71 (zat_k4 h4 (by decide) rfl) rfl rfl ?_
  refine x_puti_l (pc := 88) dX3_copyFrom_88 pX3_71 (zat_b rfl rfl) rfl rfl ?_
  refine x_aload_n (pc := 91) 0 dX3_copyFrom_91 rfl rfl ?_
  refine x_aload_n (pc := 92) 1 dX3_copyFrom_92 rfl rfl ?_
  refine x_geti_l (pc := 93) dX3_copyFrom_93 fX3_74 (zat_k4 h4 (by decide) rfl) rfl rfl ?_
  refine x_puti_l (pc := 96) dX3_copyFrom_96 pX3_74 (zat_b rfl rfl) rfl rfl ?_
  refine x_aload_n (pc := 99) 0 dX3_copyFrom_99 rfl rfl ?_
  refine x_aload_n (pc := 100) 1 dX3_copyFrom_100 rfl rfl ?_
  refine x_geti_l (pc := 101) dX3_copyFrom_101 fX3_77 (zat_k4 h4 (by decide) rfl) rfl rfl ?_
  refine x_puti_l (pc := 104) dX3_copyFrom_104 pX3_77 (zat_b rfl rfl) rfl rfl ?_
  refine x_aload_n (pc := 107) 0 dX3_copyFrom_107 rfl rfl ?_
  refine x_aload_n (pc := 108) 1 dX3_copyFrom_108 rfl rfl ?_
  refine x_geti_l (pc := 109) dX3_copyFrom_109 fX3_80 (zat_k4 h4 (by decide) rfl) rfl rfl ?_
  refine x_puti_l (pc := 112) dX3_copyFrom_112 pX3_80 (zat_b rfl rfl) rfl rfl ?_
  refine x_aload_n (pc := 115) 0 dX3_copyFrom_115 rfl rfl ?_
  refine x_aload_n (pc := 116) 1 dX3_copyFrom_116 rfl rfl ?_
  refine x_geti_l (pc := 117) dX3_copyFrom_117 fX3_34 (zat_k4 h4 (by decide) rfl) rfl rfl ?_
  refine x_puti_l (pc := 120) dX3_copyFrom_120 pX3_34 (zat_b rfl rfl) rfl rfl ?_
  refine x_aload_n (pc := 123) 0 dX3_copyFrom_123 rfl rfl ?_
  refine x_aload_n (pc := 124) 1 dX3_copyFrom_124 rfl rfl ?_
  refine x_geti_l (pc := 125) dX3_copyFrom_125 fX3_83 (zat_k4 h4 (by decide) rfl) rfl rfl ?_
  refine x_puti_l (pc := 128) dX3_copyFrom_128 pX3_83 (zat_b rfl rfl) rfl rfl ?_
  refine x_aload_n (pc := 131) 0 dX3_copyFrom_131 rfl rfl ?_
  refine x_aload_n (pc := 132) 1 dX3_copyFrom_132 rfl rfl ?_
  refine x_geti_l (pc := 133) dX3_copyFrom_133 fX3_86 (zat_k4 h4 (by decide) rfl) rfl rfl ?_
  refine x_puti_l (pc := 136) dX3_copyFrom_136 pX3_86 (zat_b rfl rfl) rfl rfl ?_
  refine x_aload_n (pc := 139) 0 dX3_copyFrom_139 rfl rfl ?_
  refine x_aload_n (pc := 140) 1 dX3_copyFrom_140 rfl rfl ?_
  refine x_geti_l (pc := 141) dX3_copyFrom_141 fX3_89 (zat_k4 h4 (by decide) rfl) rfl rfl ?_
  refine x_puti_l (pc := 144) dX3_copyFrom_144 pX3_89 (zat_b rfl rfl) rfl rfl ?_
  refine x_aload_n (pc := 147) 0 dX3_copyFrom_147 rfl rfl ?_
  refine x_aload_n (pc := 148) 1 dX3_copyFrom_148 rfl rfl ?_
  refine x_geti_l (pc := 149) dX3_copyFrom_149 fX3_38 (zat_k4 h4 (by decide) rfl) rfl rfl ?_
  refine x_puti_l (pc := 152) dX3_copyFrom_152 pX3_38 (zat_b rfl rfl) rfl rfl ?_
  refine x_vret (pc := 155) dX3_copyFrom_155 rfl ?_
  exact ⟨rfl, rfl⟩
end CP
