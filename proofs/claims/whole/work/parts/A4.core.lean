/-! the core, alike -/
section CE
variable {κ α : Nat → Nat → Int32} {τ : (Nat → Nat → Int64) × (Nat → Nat)} {T : Nat → Int32} {L : Nat → Nat} {R : Nat → Int32} {t w : Nat}
theorem a_th_is (r : Nat) (β : Nat → Nat → Int32) (v : Nat) : ∀ m k a, zoff [112] β a → zoff [112] β (zit (a_thF r) k m a) ∧ (¬ zit (a_thF r) k m a 112 v = 0 ↔ ¬ a 112 v = 0 ∨ ∃ j, k ≤ j ∧ j < k + m ∧ zv (aL β r j) = v)
  | 0, k, a, h => ⟨h, ⟨fun x => .inl x, fun x => x.elim id (fun ⟨j, y, z, _⟩ => by omega)⟩⟩
  | m + 1, k, a, h => by
    have h' : zoff [112] β (a_thF r k a) := h.tr (a_thF_off r k a)
    obtain ⟨i1, i2⟩ := a_th_is r β v m (k + 1) (a_thF r k a) h'
    have i1 : zoff [112] β (zit (a_thF r) k (m + 1) a) := i1
    have i2 : ¬ zit (a_thF r) k (m + 1) a 112 v = 0 ↔ ¬ a_thF r k a 112 v = 0 ∨ ∃ j, k + 1 ≤ j ∧ j < k + 1 + m ∧ zv (aL β r j) = v := i2
    refine ⟨i1, i2.trans ?_⟩
    have e : aL a r k = aL β r k := by unfold aL; rw [h 101 (by decide)]
    have e2 : (¬ a_thF r k a 112 v = 0) ↔ (¬ a 112 v = 0 ∨ zv (aL β r k) = v) := by
      unfold a_thF
      rw [e]
      by_cases x : v = zv (aL β r k)
      · subst x; rw [zup_same]; exact ⟨fun _ => .inr rfl, fun _ => by decide⟩
      · rw [zup_i x]; exact ⟨.inl, fun y => y.elim id (fun z => absurd z.symm x)⟩
    rw [e2]
    constructor
    · rintro ((x | x) | ⟨j, a1, a2, a3⟩)
      · exact .inl x
      · exact .inr ⟨k, by omega, by omega, x⟩
      · exact .inr ⟨j, by omega, by omega, a3⟩
    · rintro (x | ⟨j, a1, a2, a3⟩)
      · exact .inl (.inl x)
      · by_cases ej : j = k
        · subst ej; exact .inl (.inr a3)
        · exact .inr ⟨j, by omega, by omega, a3⟩
theorem a_coStep_is (n : Nat) (m : Int32) (β : Nat → Nat → Int32) : a_coStep n (m, β) = if β 112 (zv (β 109 n)) = 0 then (m, β) else if β 107 (zv (β 109 n)) = -1 then (if 0 < β 106 (zv (β 109 n)) then (m ||| (nI 1 <<< (zon (a_placeAssumed β (zv (β 109 n))) &&& 31)), β) else (m, β)) else (m, zit (a_thF (β 107 (zv (β 109 n))).toNatClampNeg) 0 (aS β (β 107 (zv (β 109 n))).toNatClampNeg) β) := rfl
theorem k_coF_is (n : Nat) (m x : Int32) : k_coF κ n (m, x) = if x &&& kb (nI (zv (κ 70 n))) = 0 then (m, x) else if κ 72 (zv (κ 70 n)) = -1 then (if 0 < κ 71 (zv (κ 70 n)) then (m ||| k_abit κ (zv (κ 70 n)), x) else (m, x)) else (m, x ||| kM κ (κ 72 (zv (κ 70 n))).toNatClampNeg) := rfl
theorem co_loop (hs : sN κ α τ) (hT : aT α T L R t w) (hk : kT κ T L R t w) (hw : tW 30 T t) (hr : ∀ i, i < t → rI (aCl α) T L R i) (hu : ∀ i, i < t → R i = -1 → ∃ k, k < aA α ∧ zv (α 101 (16 + k)) = zv (T i)) :
    ∀ n m x β, n ≤ t → zoff [112] α β → (∀ v, 1 ≤ v → v ≤ 30 → (kt x v = true ↔ ¬ β 112 v = 0)) → (a_coL n (m, β)).1 = (k_coL κ n (m, x)).1
  | 0, m, x, β, _, _, _ => rfl
  | n + 1, m, x, β, hn, ho, hx => by
    have hW := hs.1.2.1
    have hA := hT.2.1 n (by omega)
    have hK := hk.2.1 n (by omega)
    obtain ⟨u, u1, u2, eu, -⟩ := lok_two (hw.2.1 n (by omega))
    show (a_coL n (a_coStep n (m, β))).1 = (k_coL κ n (k_coF κ n (m, x))).1
    rw [a_coStep_is, k_coF_is]
    rw [show β 109 n = T n from (ho.at (by decide) n).trans hA.1, hK.1]
    rw [hK.2.1, hK.2.2, ho.at (p := 107) (by decide), ho.at (p := 106) (by decide), hA.2.1, hA.2.2.1]
    by_cases e0 : β 112 (zv (T n)) = 0
    · rw [if_pos e0, if_pos ((kt_iff _ (by omega) (by omega)).mpr (by
        cases z : kt x (zv (T n)) with
        | false => rfl
        | true => exact absurd e0 ((hx _ (by omega) (by omega)).mp z)))]
      exact co_loop hs hT hk hw hr hu n m x β (by omega) ho hx
    · rw [if_neg e0, if_neg ((kt_niff _ (by omega) (by omega)).mpr ((hx _ (by omega) (by omega)).mpr e0))]
      by_cases e1 : R n = -1
      · rw [if_pos e1, if_pos e1]
        have ep : nI 1 <<< (zon (a_placeAssumed β (zv (T n))) &&& 31) = k_abit κ (zv (T n)) := by
          obtain ⟨k, k1, k2⟩ := hu n (by omega) e1
          have ef : zfind (fun i => Nat.beq (zv (κ 20 i)) (zv (T n))) 0 (kA κ) = a_placeAssumed β (zv (T n)) := by
            unfold a_placeAssumed
            rw [aA_off ho (by decide), show kA κ = aA α from by unfold kA aA; rw [hs.2.1.2.2.1]]
            refine zfind_congr (fun j _ hj => ?_)
            unfold a_placeB
            rw [ho.at (p := 101) (by decide), hs.2.1.2.2.2 j (by omega)]
          have hsome : (a_placeAssumed β (zv (T n))).isSome = true := by
            unfold a_placeAssumed
            rw [aA_off ho (by decide)]
            refine zfind_isSome.mpr ⟨k, Nat.zero_le _, by omega, ?_⟩
            unfold a_placeB
            rw [ho.at (p := 101) (by decide), k2]; exact Nat.beq_refl _
          unfold k_abit
          rw [ef]
          generalize a_placeAssumed β (zv (T n)) = o at hsome
          cases o with
          | none => exact absurd hsome (by decide)
          | some k => rfl
        rw [ep]
        by_cases e2 : 0 < nI (L n)
        · rw [if_pos e2, if_pos e2]; exact co_loop hs hT hk hw hr hu n _ x β (by omega) ho hx
        · rw [if_neg e2, if_neg e2]; exact co_loop hs hT hk hw hr hu n m x β (by omega) ho hx
      · rw [if_neg e1, if_neg e1]
        rcases hr n (by omega) with y | ⟨r, r1, r2, -⟩
        · exact absurd y.1 e1
        · have r1 : r < aN α := r1
          have hr4 := hW.2.1.2
          rw [r2, nI_clamp (show r < 2 ^ 31 by omega)]
          have eSr : aS β r = aS α r := zo_S ho (by decide) r
          rw [eSr]
          refine co_loop hs hT hk hw hr hu n m _ _ (by omega) (a_th_is r α 1 (aS α r) 0 β ho).1 (fun v v1 v2 => ?_)
          rw [(a_th_is r α v (aS α r) 0 β ho).2, kt_or, Bool.or_eq_true, hx v v1 v2]
          unfold kM
          rw [(hs.1.1.2 r r1).1.has (fun k hk => hW.lok30 r1 hk) v1 v2]
          refine ⟨fun z => z.imp id (fun ⟨k, a, b⟩ => ⟨k, by omega, by omega, b⟩), fun z => z.imp id (fun ⟨k, a, b, c⟩ => ⟨k, by omega, c⟩)⟩
theorem a_clr_at (α : Nat → Nat → Int32) : ∀ m k a v, k ≤ v → v < k + m → zit (fun v a => zup a 112 v (nI 0)) k m a 112 v = nI 0
  | 0, k, a, v, h1, h2 => by omega
  | m + 1, k, a, v, h1, h2 => by
    show zit (fun v a => zup a 112 v (nI 0)) (k + 1) m (zup a 112 k (nI 0)) 112 v = nI 0
    by_cases e : v = k
    · subst e
      have : ∀ m k a, v < k → zit (fun v (a : Nat → Nat → Int32) => zup a 112 v (nI 0)) k m a 112 v = a 112 v := by
        intro m
        induction m with
        | zero => intro k a _; rfl
        | succ m ih => intro k a hk; exact (ih (k + 1) _ (by omega)).trans (zup_i (by omega))
      rw [this m (v + 1) _ (by omega), zup_same]
    · exact a_clr_at α m (k + 1) _ v (by omega) (by omega)
theorem core_eq (hs : sN κ α τ) (hT : aT α T L R t w) (hk : kT κ T L R t w) (hI : tI (aV α) (aCl α) (aAs α) T L R t w) {k : Nat} (hk1 : k < aA α) (hf : ∃ i, i < t ∧ T i = -(α 101 (16 + k))) : (a_core α k).1 = k_core κ k := by
  have hw : tW 30 T t := hI.1.to30 hs.1.2.1.1.2
  have hWA := hs.2.1.2.1
  have hA8 := hWA.2.1
  unfold a_core k_core
  rw [hT.1.1, hk.1.1, nI_clamp (show t < 2 ^ 31 by have := hw.1; omega), hs.2.1.2.2.2 k hk1]
  have hl := (hWA.2.2 k hk1).mono hs.1.2.1.1.2
  obtain ⟨u, u1, u2, eu, -⟩ := lok_two hl
  have ekb : kb (α 101 (16 + k)) = kb (nI u) := by have := kb_lok hl (Nat.le_refl _); rwa [eu] at this
  refine co_loop hs hT hk hw hI.2.2.1 (fun i hi e => ?_) t _ _ _ (Nat.le_refl _) ((a_clr_off α).up (by decide)) (fun v v1 v2 => ?_)
  · rcases hI.2.2.2.2 i hi e with ⟨j, j1, j2⟩ | H
    · have j1 : j < aA α := j1
      have j2 : zv (if j < 8 then α 101 (16 + j) else 0) = zv (T i) := j2
      rw [if_pos (by omega)] at j2
      exact ⟨j, j1, j2⟩
    · obtain ⟨j, j1, j2⟩ := H k hk1
      obtain ⟨i', i1, i2⟩ := hf
      have j2 : T j = (if k < 8 then α 101 (16 + k) else 0) := j2
      rw [if_pos (by omega)] at j2
      exfalso
      have ej := hw.ne (i := j) (j := i') (by omega) i1 (by rw [j2, i2, (a_tr_neg hl).2.1])
      subst ej
      have N := zv_tab (v := u) (by omega) u1
      rcases lok_two hl with ⟨u', -, -, eu', d⟩
      have : u' = u := eu'.symm.trans eu
      subst this
      rw [j2] at i2
      rcases d with d | d
      · rw [d] at i2; exact N.2.2.2.2.1 i2
      · rw [d] at i2
        have T1 := (zv_tab1 u' (by omega)).2.2.2
        rw [T1] at i2; exact N.2.2.2.2.1 i2.symm
  · rw [ekb, kt_kb u1 u2 v1 v2, eu, decide_eq_true_eq]
    by_cases e : v = u
    · subst e; rw [zup_same]; exact ⟨fun _ => by decide, fun _ => rfl⟩
    · rw [zup_i e, show a_clr α 112 v = nI 0 from a_clr_at α 31 0 α v (by omega) (by omega)]
      exact ⟨fun x => absurd x.symm e, fun x => absurd rfl x⟩
end CE
