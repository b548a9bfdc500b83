/-! the trail, in the class and in the reference -/
def zpt {β : Type} (f : Nat → β) (i : Nat) (x : β) : Nat → β := fun j => if j = i then x else f j
theorem zpt_s {β : Type} (f : Nat → β) (i : Nat) (x : β) : zpt f i x i = x := if_pos rfl
theorem zpt_n {β : Type} (f : Nat → β) {i j : Nat} (x : β) (h : ¬ j = i) : zpt f i x j = f j := if_neg h
def zsg (l : Int32) : Int32 := if 0 < l then nI 1 else -1
def aT (α : Nat → Nat → Int32) (T : Nat → Int32) (L : Nat → Nat) (R : Nat → Int32) (t w : Nat) : Prop :=
  (α 100 10 = nI t ∧ α 100 11 = nI w) ∧ (∀ i, i < t → α 109 i = T i ∧ α 106 (zv (T i)) = nI (L i) ∧ α 107 (zv (T i)) = R i ∧ α 108 (zv (T i)) = nI i ∧ α 105 (zv (T i)) = zsg (T i)) ∧ ∀ v, 1 ≤ v → v ≤ 30 → (∀ i, i < t → ¬ zv (T i) = v) → α 105 v = 0
def kT (κ : Nat → Nat → Int32) (T : Nat → Int32) (L : Nat → Nat) (R : Nat → Int32) (t w : Nat) : Prop :=
  (κ 3 2 = nI t ∧ κ 3 8 = nI w) ∧ (∀ i, i < t → κ 70 i = T i ∧ κ 71 (zv (T i)) = nI (L i) ∧ κ 72 (zv (T i)) = R i) ∧ ∀ v, 1 ≤ v → v ≤ 30 → (kt (κ 3 6) v = true ↔ ∃ i, i < t ∧ T i = nI v) ∧ (kt (κ 3 7) v = true ↔ ∃ i, i < t ∧ T i = -(nI v))
def tW (V : Nat) (T : Nat → Int32) (t : Nat) : Prop := t ≤ 30 ∧ (∀ i, i < t → lok V (T i)) ∧ ∀ i j, i < j → j < t → ¬ zv (T i) = zv (T j)
def phR (κ α : Nat → Nat → Int32) : Prop := ∀ v, 1 ≤ v → v ≤ 30 → (kt (κ 10 5) v = true ∧ α 101 (32 + v) = nI 1) ∨ (kt (κ 10 5) v = false ∧ α 101 (32 + v) = nI 0)
theorem zvn {v : Nat} (h : v ≤ 30) : zv (nI v) = v := by
  have T := zv_tab1 v (by omega); unfold zv; rw [T.1, T.2.2.1]
theorem zvm {v : Nat} (h : v ≤ 30) : zv (-(nI v)) = v := by
  have T := zv_tab1 v (by omega); unfold zv; rw [T.2.1, T.2.2.1]
theorem zsg_p {v : Nat} (h1 : 1 ≤ v) (h2 : v ≤ 30) : zsg (nI v) = nI 1 := if_pos (zv_tab (by omega) h1).1
theorem zsg_m {v : Nat} (h1 : 1 ≤ v) (h2 : v ≤ 30) : zsg (-(nI v)) = -1 := if_neg (zv_tab (by omega) h1).2.1
theorem lok_two {l : Int32} (h : lok 30 l) : ∃ v, 1 ≤ v ∧ v ≤ 30 ∧ zv l = v ∧ (l = nI v ∨ l = -(nI v)) := by
  obtain ⟨v, a, b, c⟩ := h
  refine ⟨v, a, b, ?_, c⟩
  rcases c with rfl | rfl
  · exact zvn b
  · exact zvm b
theorem tW.pre {V : Nat} {T : Nat → Int32} {t s : Nat} (h : tW V T t) (hs : s ≤ t) : tW V T s := ⟨Nat.le_trans hs h.1, fun i hi => h.2.1 i (by omega), fun i j a b => h.2.2 i j a (by omega)⟩
theorem tW.ne {V : Nat} {T : Nat → Int32} {t i j : Nat} (h : tW V T t) (hi : i < t) (hj : j < t) (e : zv (T i) = zv (T j)) : i = j := by
  rcases Nat.lt_trichotomy i j with x | x | x
  · exact absurd e (h.2.2 i j x hj)
  · exact x
  · exact absurd e.symm (h.2.2 j i x hi)
theorem tW.put {V : Nat} {T : Nat → Int32} {t : Nat} {l : Int32} (h : tW V T t) (hl : lok V l) (hn : ∀ i, i < t → ¬ zv (T i) = zv l) (ht : t < 30) : tW V (zpt T t l) (t + 1) := by
  refine ⟨ht, fun i hi => ?_, fun i j a b => ?_⟩
  · by_cases e : i = t
    · rw [e, zpt_s]; exact hl
    · rw [zpt_n _ _ e]; exact h.2.1 i (by omega)
  · rw [zpt_n T _ (show ¬ i = t by omega)]
    by_cases e : j = t
    · rw [e, zpt_s]; exact hn i (by omega)
    · rw [zpt_n _ _ e]; exact h.2.2 i j a (by omega)
theorem zT_asR {κ α : Nat → Nat → Int32} {T : Nat → Int32} {L : Nat → Nat} {R : Nat → Int32} {t w : Nat} (hw : tW 30 T t) (ha : aT α T L R t w) (hk : kT κ T L R t w) : asR (κ 3 6) (κ 3 7) (α 105) := by
  intro v h1 h2
  have N := zv_tab (v := v) (by omega) h1
  by_cases h : ∃ i, i < t ∧ zv (T i) = v
  · obtain ⟨i, hi, e⟩ := h
    obtain ⟨u, a, b, e1, e2⟩ := lok_two (hw.2.1 i hi)
    have : u = v := e1.symm.trans e
    subst this
    have hA := (ha.2.1 i hi).2.2.2.2
    rw [e] at hA
    rcases e2 with e2 | e2
    · refine .inl ⟨by rw [hA, e2, zsg_p h1 h2], (hk.2.2 u h1 h2).1.mpr ⟨i, hi, e2⟩, ?_⟩
      cases x : kt (κ 3 7) u with
      | false => rfl
      | true =>
        obtain ⟨j, hj, e3⟩ := (hk.2.2 u h1 h2).2.mp x
        have := hw.ne hi hj (by rw [e, e3, zvm h2])
        subst this; exact absurd (e2.symm.trans e3) N.2.2.2.2.1
    · refine .inr (.inl ⟨by rw [hA, e2, zsg_m h1 h2], ?_, (hk.2.2 u h1 h2).2.mpr ⟨i, hi, e2⟩⟩)
      cases x : kt (κ 3 6) u with
      | false => rfl
      | true =>
        obtain ⟨j, hj, e3⟩ := (hk.2.2 u h1 h2).1.mp x
        have := hw.ne hi hj (by rw [e, e3, zvn h2])
        subst this; exact absurd (e3.symm.trans e2) N.2.2.2.2.1
  · have hn : ∀ i, i < t → ¬ zv (T i) = v := fun i hi e => h ⟨i, hi, e⟩
    refine .inr (.inr ⟨ha.2.2 v h1 h2 hn, ?_, ?_⟩)
    · cases x : kt (κ 3 6) v with
      | false => rfl
      | true =>
        obtain ⟨j, hj, e3⟩ := (hk.2.2 v h1 h2).1.mp x
        exact absurd (by rw [e3, zvn h2]) (hn j hj)
    · cases x : kt (κ 3 7) v with
      | false => rfl
      | true =>
        obtain ⟨j, hj, e3⟩ := (hk.2.2 v h1 h2).2.mp x
        exact absurd (by rw [e3, zvm h2]) (hn j hj)
theorem aT.isO {α : Nat → Nat → Int32} {T : Nat → Int32} {L : Nat → Nat} {R : Nat → Int32} {t w v : Nat} (ha : aT α T L R t w) (h0 : α 105 v = 0) : ∀ i, i < t → ¬ zv (T i) = v := fun i hi e => by
  have := (ha.2.1 i hi).2.2.2.2
  rw [e, h0] at this
  unfold zsg at this
  split at this <;> exact absurd this (by decide)
theorem aT.of {α β : Nat → Nat → Int32} {T : Nat → Int32} {L : Nat → Nat} {R : Nat → Int32} {t w w' : Nat} (ha : aT α T L R t w) (e : ∀ p, 105 ≤ p → p ≤ 109 → β p = α p) (e10 : β 100 10 = α 100 10) (e11 : β 100 11 = nI w') : aT β T L R t w' := by
  unfold aT
  rw [e 105 (by decide) (by decide), e 106 (by decide) (by decide), e 107 (by decide) (by decide), e 108 (by decide) (by decide), e 109 (by decide) (by decide), e10, e11]
  exact ⟨⟨ha.1.1, rfl⟩, ha.2⟩
theorem kT.of {κ β : Nat → Nat → Int32} {T : Nat → Int32} {L : Nat → Nat} {R : Nat → Int32} {t w w' : Nat} (ha : kT κ T L R t w) (e : ∀ p, 70 ≤ p → p ≤ 72 → β p = κ p) (e2 : β 3 2 = κ 3 2) (e6 : β 3 6 = κ 3 6) (e7 : β 3 7 = κ 3 7) (e8 : β 3 8 = nI w') : kT β T L R t w' := by
  unfold kT
  rw [e 70 (by decide) (by decide), e 71 (by decide) (by decide), e 72 (by decide) (by decide), e2, e6, e7, e8]
  exact ⟨⟨ha.1.1, rfl⟩, ha.2⟩
theorem aT.put {α : Nat → Nat → Int32} {T : Nat → Int32} {L : Nat → Nat} {R : Nat → Int32} {t w : Nat} {l r : Int32} (ha : aT α T L R t w) (hw : tW 30 T t) (hl : lok 30 l) (hn : ∀ i, i < t → ¬ zv (T i) = zv l) (ht : t < 30) : aT (a_comes α l r) (zpt T t l) (zpt L t w) (zpt R t r) (t + 1) w := by
  have e10 : (α 100 10).toNatClampNeg = t := by rw [ha.1.1]; exact (zv_tab1 t (by omega)).2.2.1
  refine ⟨⟨?_, ?_⟩, fun i hi => ?_, fun v h1 h2 h3 => ?_⟩
  · show zup _ 100 10 _ 100 10 = _
    rw [zup_same, ha.1.1, nI_add]
  · exact (a_comes_at (by decide)).trans ha.1.2
  · unfold a_comes
    rw [e10]
    by_cases e : i = t
    · subst e
      simp only [zpt_s]
      simp [zup, ha.1.2, ha.1.1, zsg]
    · have hi' : i < t := by omega
      have hne := hn i hi'
      simp only [zpt_n _ _ e]
      simp [zup, e, hne]
      exact ha.2.1 i hi'
  · have h4 : ¬ zv l = v := by have := h3 t (by omega); rwa [zpt_s] at this
    rw [a_comes_105, if_neg (fun e => h4 e.symm)]
    exact ha.2.2 v h1 h2 (fun i hi => by have := h3 i (by omega); rwa [zpt_n _ _ (show ¬ i = t by omega)] at this)
theorem kT.put {κ : Nat → Nat → Int32} {T : Nat → Int32} {L : Nat → Nat} {R : Nat → Int32} {t w : Nat} {l r : Int32} (ha : kT κ T L R t w) (hw : tW 30 T t) (hl : lok 30 l) (hn : ∀ i, i < t → ¬ zv (T i) = zv l) (ht : t < 30) : kT (k_sput κ l r) (zpt T t l) (zpt L t w) (zpt R t r) (t + 1) w := by
  have e2 : (κ 3 2).toNatClampNeg = t := by rw [ha.1.1]; exact (zv_tab1 t (by omega)).2.2.1
  obtain ⟨u, h1, h2, e, e'⟩ := lok_two hl
  have N := zv_tab (v := u) (by omega) h1
  have S : ∀ v, (∃ i, i < t + 1 ∧ zpt T t l i = v) ↔ (v = l ∨ ∃ i, i < t ∧ T i = v) := fun v => by
    constructor
    · rintro ⟨i, hi, e⟩
      by_cases h : i = t
      · rw [h, zpt_s] at e; exact .inl e.symm
      · rw [zpt_n _ _ h] at e; exact .inr ⟨i, by omega, e⟩
    · rintro (rfl | ⟨i, hi, e⟩)
      · exact ⟨t, by omega, zpt_s _ _ _⟩
      · exact ⟨i, by omega, by rw [zpt_n _ _ (show ¬ i = t by omega)]; exact e⟩
  have A : ∀ i, i < t + 1 → k_sput0 κ l r 70 i = zpt T t l i ∧ k_sput0 κ l r 71 (zv (zpt T t l i)) = nI (zpt L t w i) ∧ k_sput0 κ l r 72 (zv (zpt T t l i)) = zpt R t r i := fun i hi => by
    unfold k_sput0
    rw [e2]
    by_cases e : i = t
    · subst e
      simp only [zpt_s]
      simp [zup, ha.1.2]
    · have hi' : i < t := by omega
      have hne := hn i hi'
      simp only [zpt_n _ _ e]
      simp [zup, e, hne]
      exact ha.2.1 i hi'
  have B2 : k_sput0 κ l r 3 2 = nI (t + 1) := by
    unfold k_sput0; simp [zup, ha.1.1]; rw [← nI_add]
  have B8 : k_sput0 κ l r 3 8 = nI w := by unfold k_sput0; simp [zup, ha.1.2]
  have B6 : k_sput0 κ l r 3 6 = κ 3 6 := by unfold k_sput0; simp [zup]
  have B7 : k_sput0 κ l r 3 7 = κ 3 7 := by unfold k_sput0; simp [zup]
  unfold k_sput
  rcases e' with rfl | rfl
  · rw [if_pos N.1]
    refine ⟨⟨?_, ?_⟩, fun i hi => ?_, fun v a b => ?_⟩
    · rw [zup_i (by decide)]; exact B2
    · rw [zup_i (by decide)]; exact B8
    · rw [zup_p (by decide), zup_p (by decide), zup_p (by decide)]; exact A i hi
    · rw [zup_same, zup_i (by decide), B7, kt_or, kt_kb h1 h2 a b, S, S, Bool.or_eq_true, decide_eq_true_eq, (ha.2.2 v a b).1, (ha.2.2 v a b).2]
      refine ⟨⟨fun h => h.elim .inr (fun h => .inl (by rw [h])), fun h => h.elim (fun h => .inr ?_) .inl⟩, ⟨.inr, fun h => h.elim (fun h => ?_) id⟩⟩
      · have := congrArg zv h; rwa [zvn b, zvn h2, eq_comm] at this
      · exfalso
        have := congrArg zv h; rw [zvm b, zvn h2] at this
        subst this; exact N.2.2.2.2.1 h.symm
  · rw [if_neg N.2.1]
    refine ⟨⟨?_, ?_⟩, fun i hi => ?_, fun v a b => ?_⟩
    · rw [zup_i (by decide)]; exact B2
    · rw [zup_i (by decide)]; exact B8
    · rw [zup_p (by decide), zup_p (by decide), zup_p (by decide)]; exact A i hi
    · rw [zup_same, zup_i (by decide), B6, (kb_tab u (by omega)).1 h1, kt_or, kt_kb h1 h2 a b, S, S, Bool.or_eq_true, decide_eq_true_eq, (ha.2.2 v a b).1, (ha.2.2 v a b).2]
      refine ⟨⟨.inr, fun h => h.elim (fun h => ?_) id⟩, ⟨fun h => h.elim .inr (fun h => .inl (by rw [h])), fun h => h.elim (fun h => .inr ?_) .inl⟩⟩
      · exfalso
        have := congrArg zv h; rw [zvn b, zvm h2] at this
        subst this; exact N.2.2.2.2.1 h
      · have := congrArg zv h; rwa [zvm b, zvm h2, eq_comm] at this
