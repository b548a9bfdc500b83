/-! the learnt clause: trimmed and put in order, alike -/
section OD
variable {κ α : Nat → Nat → Int32} {T : Nat → Int32} {L : Nat → Nat} {R : Nat → Int32} {t w n : Nat} {x : Int32 × Int32} {ε : Nat → Nat → Int32}
/-- the class knows the marked variables -/
def zMk (κ : Nat → Nat → Int32) (T : Nat → Int32) (L : Nat → Nat) (t : Nat) (x : Int32) : Prop := κ 3 15 = x ∧ kz (κ 3 14) ∧ ∀ v, 1 ≤ v → v ≤ 30 → (kt (κ 3 14) v = true ↔ ∃ i, i < t ∧ zv (T i) = v ∧ 1 ≤ L i)
theorem zZ.drop (h : zAn κ α T L R t w) (hz : zZ α T L t w n x ε) (hk : zMk κ T L t x.1) {i : Nat} (hi : i < t) : a_dropped (zit a_wlF 0 31 ε) (zv (T i)) = (decide (¬ L i = w) && k_imp κ (zv (T i))) := by
  have hW := h.2.2.2.2.2.2.1
  have hw30 := h.w30
  have l := h.lv hi
  obtain ⟨o1, o2⟩ := a_wl_is 31 0 ε
  generalize hζ : zit a_wlF 0 31 ε = ζ at o1 o2
  have at1 : ∀ p j, p ∉ [112, 113, 114] → ζ p j = α p j := fun p j hp => by
    rw [o1.at (fun c => hp (by revert c; simp; omega)), hz.1.at (fun c => hp (by revert c; simp; omega))]
  have eA := h.1.2.1 i hi
  have eK := h.2.1.2.1 i hi
  unfold a_dropped k_imp
  rw [at1 106 _ (by decide), at1 100 _ (by decide), at1 107 _ (by decide), eA.2.1, eA.2.2.1, eK.2.2, h.1.1.2]
  have e1 : decide (nI (L i) = nI w) = decide (L i = w) := decide_eq_decide.mpr (nI_eq (by omega) (by omega))
  rw [e1]
  rcases h.2.2.2.2.1 i hi with ⟨y1, -, -⟩ | ⟨r, r1, r2, -, r5⟩
  · rw [y1]; simp
  have r1 : r < aN α := r1
  have hr400 : r < 400 := Nat.lt_of_lt_of_le r1 hW.2.1.2
  have erc : (nI r).toNatClampNeg = r := nI_clamp (by omega)
  have hne : ¬ nI r = -1 := (show ∀ r < 400, ¬ nI r = -1 by decide +kernel) r hr400
  rw [r2, if_neg hne, decide_eq_false hne, Bool.or_false, erc, decide_not]
  refine congrArg (fun z => !decide (L i = w) && z) ?_
  have hm := (h.2.2.2.2.2.1.2 r r1).1
  have hf : ∀ k, k < aS α r → lok 30 (aL α r k) := fun k hk => hW.lok30 r1 hk
  have eaS : aS ζ r = aS α r := by unfold aS; rw [at1 101 _ (by decide)]
  have low : ∀ k, k < aS α r → ¬ zv (aL α r k) = zv (T i) → ∃ j, j < i ∧ zv (T j) = zv (aL α r k) := fun k hk hne => by
    obtain ⟨j, hj, ej⟩ := r5 k hk (fun e => hne (by rw [show aL α r k = T i from e]))
    have ej : T j = -(aL α r k) := ej
    exact ⟨j, hj, by rw [ej, (a_tr_neg (hf k hk)).2.1]⟩
  have drB : ∀ k, k < aS α r → (a_drB ζ (zv (T i)) k = true ↔ ¬ zv (aL α r k) = zv (T i) ∧ ¬ α 106 (zv (aL α r k)) = 0 ∧ ε 112 (zv (aL α r k)) = 0) := fun k hk => by
    have lk := (hf k hk).is (Nat.le_refl _)
    unfold a_drB
    have eaL : aL ζ (ζ 107 (zv (T i))).toNatClampNeg k = aL α r k := by
      rw [at1 107 _ (by decide), eA.2.2.1, r2, erc]; unfold aL; rw [at1 101 _ (by decide)]
    rw [eaL, at1 106 _ (by decide), o2 _ (Nat.zero_le _) (by omega), Bool.and_eq_true, Bool.and_eq_true, decide_eq_true_eq, decide_eq_true_eq, decide_eq_true_eq]
    constructor
    · rintro ⟨⟨a, b⟩, d⟩
      exact ⟨a, fun e => by rw [e] at b; exact absurd b (by decide), d⟩
    · rintro ⟨a, b, d⟩
      refine ⟨⟨a, ?_⟩, d⟩
      obtain ⟨j, j1, j2⟩ := low k hk a
      rw [← j2, (h.1.2.1 j (by omega)).2.1] at b ⊢
      have lj := h.lv (i := j) (by omega)
      rcases Nat.eq_zero_or_pos (L j) with y | y
      · rw [y] at b; exact absurd rfl b
      · exact nI_lt (a := 0) y (by omega)
  rw [Bool.eq_iff_iff, decide_eq_true_eq, kz_zero (kz_and (kz_and (kz_and (show kz (kM κ r) from kz_or hm.1 hm.2.1) _) _) _), eaS]
  rw [hk.1]
  have bit : ∀ v, 1 ≤ v → v ≤ 30 → (kt (kM κ r &&& (kb (nI (zv (T i))) ^^^ (-1)) &&& κ 3 14 &&& (x.1 ^^^ (-1))) v = true ↔ (∃ k, k < aS α r ∧ zv (aL α r k) = v) ∧ ¬ zv (T i) = v ∧ (∃ j, j < t ∧ zv (T j) = v ∧ 1 ≤ L j) ∧ ε 112 v = 0) := fun v v1 v2 => by
    rw [kt_and, kt_and, kt_and, kt_xn _ (by omega) v1, kt_xn _ (by omega) v1, kt_kb l.1 l.2.1 v1 v2, Bool.and_eq_true, Bool.and_eq_true, Bool.and_eq_true, hk.2.2 v v1 v2, Bool.not_eq_true', Bool.not_eq_true', decide_eq_false_iff_not, show kt (kM κ r) v = true ↔ ∃ k, k < aS α r ∧ zv (aL α r k) = v from hm.has hf v1 v2]
    have : kt x.1 v = false ↔ ε 112 v = 0 := by
      have := hz.2.1.2 v v1 v2
      constructor
      · intro e; rcases Classical.em (ε 112 v = 0) with y | y
        · exact y
        · rw [this.mpr y] at e; cases e
      · intro e; cases e2 : kt x.1 v with
        | false => rfl
        | true => exact absurd e (this.mp e2)
    rw [this]
    exact ⟨fun a => ⟨a.1.1.1, a.1.1.2, a.1.2, a.2⟩, fun a => ⟨⟨⟨a.1, a.2.1⟩, a.2.2.1⟩, a.2.2.2⟩⟩
  constructor
  · intro hN v v1 v2
    cases e : kt (kM κ r &&& (kb (nI (zv (T i))) ^^^ (-1)) &&& κ 3 14 &&& (x.1 ^^^ (-1))) v with
    | false => rfl
    | true =>
      exfalso
      obtain ⟨⟨k, k1, k2⟩, k3, ⟨j, j1, j2, j3⟩, k5⟩ := (bit v v1 v2).mp e
      have hnone : zfind (a_drB ζ (zv (T i))) 0 (aS α r) = none := Option.isNone_iff_eq_none.mp hN
      have := zfind_none hnone k (Nat.zero_le _) (by omega)
      rw [(drB k k1).mpr ⟨fun e => k3 (by rw [← e, k2]), ?_, by rw [k2]; exact k5⟩] at this
      · cases this
      · rw [k2, ← j2, (h.1.2.1 j j1).2.1]
        exact nI_ne0 j3 (by have := (h.lv j1).2.2.2.2.2; omega)
  · intro H
    refine Option.isNone_iff_eq_none.mpr (zfind_isn (fun k _ hk => ?_))
    cases e : a_drB ζ (zv (T i)) k with
    | false => rfl
    | true =>
      exfalso
      obtain ⟨d1, d2, d3⟩ := (drB k (by omega)).mp e
      have lk := (hf k (by omega)).is (Nat.le_refl _)
      obtain ⟨j, j1, j2⟩ := low k (by omega) d1
      have := H _ lk.1 lk.2.1
      rw [(bit _ lk.1 lk.2.1).mpr ⟨⟨k, by omega, rfl⟩, fun e => d1 e.symm, ⟨j, by omega, j2, ?_⟩, d3⟩] at this
      · cases this
      · rw [← j2, (h.1.2.1 j (by omega)).2.1] at d2
        rcases Nat.eq_zero_or_pos (L j) with y | y
        · rw [y] at d2; exact absurd rfl d2
        · exact y
/-- the trimmed set -/
def zTm (ε : Nat → Nat → Int32) (V : Nat) : Nat → Nat → Int32 := zit a_trF 1 V (zit a_wlF 0 31 ε)
theorem zTm_off (ε : Nat → Nat → Int32) (V : Nat) : zoff [112, 114] ε (zTm ε V) := (a_wl_is 31 0 ε).1.mono (by simp) |>.tr ((a_tr_is _ V).1.mono (by simp))
theorem zZ.tm (h : zAn κ α T L R t w) (hz : zZ α T L t w n x ε) (hk : zMk κ T L t x.1) {v : Nat} (h1 : 1 ≤ v) (h2 : v ≤ aV α) {l : Nat} (hl : l ≤ 60) : k_otB κ (nI l) v = (decide (¬ zTm ε (aV α) 112 v = 0) && decide (zTm ε (aV α) 106 v = nI l)) := by
  have hV := h.2.2.2.2.2.2.1.1.2
  have e106 : zTm ε (aV α) 106 v = α 106 v := by rw [(zTm_off ε _).at (p := 106) (by decide), hz.1.at (p := 106) (by decide)]
  have e112 := (a_tr_is (zit a_wlF 0 31 ε) (aV α)).2.1 v h1 h2
  have e112 : zTm ε (aV α) 112 v = if ε 112 v = 0 then nI 0 else if a_dropped (zit a_wlF 0 31 ε) v = true then nI 0 else nI 1 := by
    rw [show zTm ε (aV α) 112 v = _ from e112, (a_wl_is 31 0 ε).1.at (p := 112) (by decide)]
  unfold k_otB
  rw [hk.1, e106, e112, h.2.1.1.2]
  cases e : kt x.1 v with
  | false =>
    have : ε 112 v = 0 := by
      rcases Classical.em (ε 112 v = 0) with y | y
      · exact y
      · rw [(hz.2.1.2 v h1 (by omega)).mpr y] at e; cases e
    rw [if_pos this, decide_eq_false (show ¬ ¬ x.1 &&& kb (nI v) = 0 from fun c => c ((kt_iff _ h1 (by omega)).mpr e))]
    rfl
  | true =>
    have hne := (hz.2.1.2 v h1 (by omega)).mp e
    obtain ⟨i, hi, ei, -⟩ := hz.2.2.2.2.1 v h1 (by omega) e
    have li := h.lv hi
    rw [if_neg hne, decide_eq_true ((kt_niff _ h1 (by omega)).mpr e), Bool.true_and]
    subst ei
    rw [hz.drop h hk hi, (h.2.1.2.1 i hi).2.1, (h.1.2.1 i hi).2.1]
    have d1 : decide (nI (L i) = nI l) = decide (L i = l) := decide_eq_decide.mpr (nI_eq (by omega) (by omega))
    have d2 : decide (nI l = nI w) = decide (l = w) := decide_eq_decide.mpr (nI_eq (by omega) (by omega))
    rw [d1, d2]
    by_cases el : L i = l
    · subst el
      by_cases ew : L i = w
      · simp [ew]; decide
      · cases k_imp κ (zv (T i)) <;> simp [ew] <;> decide
    · simp [el]
end OD
