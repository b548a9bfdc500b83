/-! the search's invariant -/
def tL (L : Nat → Nat) (t w : Nat) : Prop := (∀ i j, i ≤ j → j < t → L i ≤ L j) ∧ (∀ i, i < t → L i ≤ w) ∧ ∀ l, 1 ≤ l → l ≤ w → ∃ i, i < t ∧ L i = l
/-- the clauses: how many, gone, sizes, literals -/
abbrev zCl : Type := Nat × (Nat → Bool) × (Nat → Nat) × (Nat → Nat → Int32)
def rI (C : zCl) (T : Nat → Int32) (L : Nat → Nat) (R : Nat → Int32) (i : Nat) : Prop :=
  (R i = -1 ∧ 1 ≤ L i ∧ ∀ j, j < i → L j < L i) ∨ ∃ c, c < C.1 ∧ R i = nI c ∧ (∃ k, k < C.2.2.1 c ∧ C.2.2.2 c k = T i) ∧ ∀ k, k < C.2.2.1 c → ¬ C.2.2.2 c k = T i → ∃ j, j < i ∧ T j = -(C.2.2.2 c k)
def cI (C : zCl) (T : Nat → Int32) (L : Nat → Nat) (t w : Nat) : Prop := ∀ l, l < w → ∀ c, c < C.1 → C.2.1 c = false → ¬ ∀ k, k < C.2.2.1 c → ∃ i, i < t ∧ T i = -(C.2.2.2 c k) ∧ L i ≤ l
def uI (A : Nat × (Nat → Int32)) (T R : Nat → Int32) (t : Nat) : Prop := ∀ i, i < t → R i = -1 → (∃ k, k < A.1 ∧ zv (A.2 k) = zv (T i)) ∨ ∀ k, k < A.1 → ∃ j, j < i ∧ T j = A.2 k
def tI (V : Nat) (C : zCl) (A : Nat × (Nat → Int32)) (T : Nat → Int32) (L : Nat → Nat) (R : Nat → Int32) (t w : Nat) : Prop :=
  tW V T t ∧ tL L t w ∧ (∀ i, i < t → rI C T L R i) ∧ cI C T L t w ∧ uI A T R t
theorem tL.le {L : Nat → Nat} {t w : Nat} (h : tL L t w) : w ≤ t := by
  have H : ∀ l, l < w → ∃ i, i < t ∧ L i = l + 1 ∧ l ≤ i := by
    intro l
    induction l with
    | zero => intro hl; obtain ⟨i, a, b⟩ := h.2.2 1 (by omega) (by omega); exact ⟨i, a, b, Nat.zero_le _⟩
    | succ l ih =>
      intro hl
      obtain ⟨i, a, b, c⟩ := ih (by omega)
      obtain ⟨j, d, e⟩ := h.2.2 (l + 2) (by omega) (by omega)
      refine ⟨j, d, e, ?_⟩
      rcases Nat.lt_or_ge i j with x | x
      · omega
      · have := h.1 j i x a; omega
  rcases Nat.eq_zero_or_pos w with e | e
  · omega
  · obtain ⟨i, a, -, c⟩ := H (w - 1) (by omega); omega
theorem rI.eq {C : zCl} {T T' : Nat → Int32} {L L' : Nat → Nat} {R R' : Nat → Int32} {i : Nat} (h : rI C T L R i) (eT : ∀ j, j ≤ i → T' j = T j) (eL : ∀ j, j ≤ i → L' j = L j) (eR : R' i = R i) : rI C T' L' R' i := by
  rcases h with ⟨a, b, c⟩ | ⟨c, h1, h2, ⟨k, h3, h4⟩, h5⟩
  · exact .inl ⟨eR.trans a, by rw [eL i (Nat.le_refl _)]; exact b, fun j hj => by rw [eL i (Nat.le_refl _), eL j (by omega)]; exact c j hj⟩
  · refine .inr ⟨c, h1, eR.trans h2, ⟨k, h3, by rw [eT i (Nat.le_refl _)]; exact h4⟩, fun k hk e => ?_⟩
    rw [eT i (Nat.le_refl _)] at e
    obtain ⟨j, hj, ej⟩ := h5 k hk e
    exact ⟨j, hj, by rw [eT j (by omega)]; exact ej⟩
section PU
variable {V : Nat} {C : zCl} {A : Nat × (Nat → Int32)} {T : Nat → Int32} {L : Nat → Nat} {R : Nat → Int32} {t w : Nat} {l r : Int32}
theorem zpt_lt {β : Type} (f : Nat → β) {i j : Nat} (x : β) (h : j < i) : zpt f i x j = f j := zpt_n f x (by omega)
theorem rI.put (h : ∀ i, i < t → rI C T L R i) {x : Nat} (hn : rI C (zpt T t l) (zpt L t x) (zpt R t r) t) : ∀ i, i < t + 1 → rI C (zpt T t l) (zpt L t x) (zpt R t r) i := fun i hi => by
  rcases Nat.eq_or_lt_of_le (Nat.le_of_lt_succ hi) with rfl | h'
  · exact hn
  · exact (h i h').eq (fun j hj => zpt_lt _ _ (by omega)) (fun j hj => zpt_lt _ _ (by omega)) (zpt_lt _ _ h')
theorem uI.put (h : uI A T R t) (hn : r = -1 → (∃ k, k < A.1 ∧ zv (A.2 k) = zv l) ∨ ∀ k, k < A.1 → ∃ j, j < t ∧ T j = A.2 k) : uI A (zpt T t l) (zpt R t r) (t + 1) := fun i hi e => by
  rcases Nat.eq_or_lt_of_le (Nat.le_of_lt_succ hi) with rfl | h'
  · rw [zpt_s] at e
    rw [zpt_s]
    exact (hn e).imp id (fun H k hk => by obtain ⟨j, a, b⟩ := H k hk; exact ⟨j, a, by rw [zpt_lt _ _ a]; exact b⟩)
  · rw [zpt_lt _ _ h'] at e
    rw [zpt_lt _ _ h']
    exact (h i h' e).imp id (fun H k hk => by obtain ⟨j, a, b⟩ := H k hk; exact ⟨j, a, by rw [zpt_lt _ _ (by omega)]; exact b⟩)
theorem cI.put (h : cI C T L t w) {x : Nat} (hx : w ≤ x) : cI C (zpt T t l) (zpt L t x) (t + 1) w := fun m hm c hc hg H => by
  refine h m hm c hc hg (fun k hk => ?_)
  obtain ⟨i, a, b, e⟩ := H k hk
  have hne : ¬ i = t := fun ei => by rw [ei, zpt_s] at e; omega
  rw [zpt_n _ _ hne] at b e
  exact ⟨i, by omega, b, e⟩
/-- a literal comes, by a clause -/
theorem tI.drawn (h : tI V C A T L R t w) (hl : lok V l) (hn : ∀ i, i < t → ¬ zv (T i) = zv l) (ht : t < 30) {c : Nat} (hc : c < C.1) (hr : r = nI c) (hr1 : ¬ r = -1) (h1 : ∃ k, k < C.2.2.1 c ∧ C.2.2.2 c k = l) (h2 : ∀ k, k < C.2.2.1 c → ¬ C.2.2.2 c k = l → ∃ j, j < t ∧ T j = -(C.2.2.2 c k)) : tI V C A (zpt T t l) (zpt L t w) (zpt R t r) (t + 1) w := by
  obtain ⟨a, b, e, f, g⟩ := h
  refine ⟨a.put hl hn ht, ⟨fun i j x y => ?_, fun i hi => ?_, fun m x y => ?_⟩, rI.put e ?_, f.put (Nat.le_refl _), g.put (fun x => absurd x hr1)⟩
  · by_cases ej : j = t
    · subst ej
      rw [zpt_s]
      by_cases ei : i = j
      · rw [ei, zpt_s]; exact Nat.le_refl _
      · rw [zpt_n _ _ ei]; exact b.2.1 i (by omega)
    · rw [zpt_n _ _ ej, zpt_n _ _ (show ¬ i = t by omega)]; exact b.1 i j x (by omega)
  · by_cases ei : i = t
    · rw [ei, zpt_s]; exact Nat.le_refl _
    · rw [zpt_n _ _ ei]; exact b.2.1 i (by omega)
  · obtain ⟨i, hi, ei⟩ := b.2.2 m x y
    exact ⟨i, by omega, by rw [zpt_lt _ _ hi]; exact ei⟩
  · refine .inr ⟨c, hc, by rw [zpt_s]; exact hr, ?_, fun k hk ek => ?_⟩
    · rw [zpt_s]; exact h1
    · rw [zpt_s] at ek
      obtain ⟨j, hj, ej⟩ := h2 k hk ek
      exact ⟨j, hj, by rw [zpt_lt _ _ hj]; exact ej⟩
/-- a literal comes, at a level of its own -/
theorem tI.taken (h : tI V C A T L R t w) (hl : lok V l) (hn : ∀ i, i < t → ¬ zv (T i) = zv l) (ht : t < 30) (h1 : ∀ c, c < C.1 → C.2.1 c = false → ¬ ∀ k, k < C.2.2.1 c → ∃ i, i < t ∧ T i = -(C.2.2.2 c k)) (h2 : (∃ k, k < A.1 ∧ zv (A.2 k) = zv l) ∨ ∀ k, k < A.1 → ∃ j, j < t ∧ T j = A.2 k) : tI V C A (zpt T t l) (zpt L t (w + 1)) (zpt R t (-1)) (t + 1) (w + 1) := by
  obtain ⟨a, b, e, f, g⟩ := h
  refine ⟨a.put hl hn ht, ⟨fun i j x y => ?_, fun i hi => ?_, fun m x y => ?_⟩, rI.put e ?_, fun m hm => ?_, g.put (fun _ => h2)⟩
  · by_cases ej : j = t
    · subst ej
      rw [zpt_s]
      by_cases ei : i = j
      · rw [ei, zpt_s]; exact Nat.le_refl _
      · rw [zpt_n _ _ ei]; exact Nat.le_succ_of_le (b.2.1 i (by omega))
    · rw [zpt_n _ _ ej, zpt_n _ _ (show ¬ i = t by omega)]; exact b.1 i j x (by omega)
  · by_cases ei : i = t
    · rw [ei, zpt_s]; exact Nat.le_refl _
    · rw [zpt_n _ _ ei]; exact Nat.le_succ_of_le (b.2.1 i (by omega))
  · rcases Nat.eq_or_lt_of_le y with e1 | e1
    · exact ⟨t, by omega, by rw [zpt_s]; exact e1.symm⟩
    · obtain ⟨i, hi, ei⟩ := b.2.2 m x (by omega)
      exact ⟨i, by omega, by rw [zpt_lt _ _ hi]; exact ei⟩
  · refine .inl ⟨zpt_s _ _ _, by rw [zpt_s]; omega, fun j hj => ?_⟩
    rw [zpt_s, zpt_lt _ _ hj]; have := b.2.1 j hj; omega
  · intro c hc hg H
    refine h1 c hc hg (fun k hk => ?_)
    obtain ⟨i, x, y, z⟩ := H k hk
    have hne : ¬ i = t := fun ei => by rw [ei, zpt_s] at z; omega
    rw [zpt_n _ _ hne] at y
    exact ⟨i, by omega, y⟩
theorem tC_iff {b : Nat} (hb : b ≤ 60) : ∀ t, (∀ i j, i ≤ j → j < t → L i ≤ L j) → (∀ i, i < t → L i ≤ 60) → ∀ i, i < tC L (nI b) t ↔ i < t ∧ L i ≤ b
  | 0, h, hL, i => by show i < 0 ↔ _; omega
  | n + 1, h, hL, i => by
    unfold tC
    have hln := hL n (by omega)
    by_cases hlt : b < L n
    · rw [if_pos ((nI_ltI (by omega) (by omega)).mpr hlt), tC_iff hb n (fun i j x y => h i j x (by omega)) (fun i hi => hL i (by omega)) i]
      constructor
      · exact fun x => ⟨by omega, x.2⟩
      · rintro ⟨x, y⟩
        refine ⟨?_, y⟩
        rcases Nat.lt_or_ge i n with z | z
        · exact z
        · have : i = n := by omega
          subst this; omega
    · rw [if_neg (fun c => hlt ((nI_ltI (by omega) (by omega)).mp c))]
      constructor
      · exact fun x => ⟨x, Nat.le_trans (h i n (by omega) (by omega)) (by omega)⟩
      · exact fun x => x.1
theorem tC_m1 : ∀ t, (∀ i, i < t → L i ≤ 60) → tC L (-1) t = 0
  | 0, _ => rfl
  | n + 1, h => by
    unfold tC
    rw [if_pos ((show ∀ k < 61, (-1 : Int32) < nI k by decide +kernel) _ (by have := h n (by omega); omega))]
    exact tC_m1 n (fun i hi => h i (by omega))
theorem tI.cut (h : tI V C A T L R t w) {b : Nat} (hb : b ≤ w) : tI V C A T L R (tC L (nI b) t) b := by
  obtain ⟨a, q, e, f, g⟩ := h
  have hw := q.le
  have ht := a.1
  have J := tC_iff (L := L) (b := b) (by omega) t q.1 (fun i hi => by have := q.2.1 i hi; omega)
  have hle := tC_le L (nI b) t
  refine ⟨a.pre hle, ⟨fun i j x y => q.1 i j x (by omega), fun i hi => ((J i).mp hi).2, fun m x y => ?_⟩, fun i hi => e i (by omega), fun m hm c hc hg H => ?_, fun i hi => g i (by omega)⟩
  · obtain ⟨i, hi, ei⟩ := q.2.2 m x (by omega)
    exact ⟨i, (J i).mpr ⟨hi, by omega⟩, ei⟩
  · refine f m (by omega) c hc hg (fun k hk => ?_)
    obtain ⟨i, x, y, z⟩ := H k hk
    exact ⟨i, by omega, y, z⟩
theorem tI.more (h : tI V C A T L R t w) {C' : zCl} (hN : C'.1 = C.1 + 1) (hG : ∀ c, c < C.1 → C'.2.1 c = C.2.1 c) (hS : ∀ c, c < C.1 → C'.2.2.1 c = C.2.2.1 c) (hF : ∀ c, c < C.1 → ∀ k, k < C.2.2.1 c → C'.2.2.2 c k = C.2.2.2 c k) (hn : ∃ k, k < C'.2.2.1 C.1 ∧ ∀ i, i < t → ¬ T i = -(C'.2.2.2 C.1 k)) : tI V C' A T L R t w := by
  obtain ⟨a, q, e, f, g⟩ := h
  refine ⟨a, q, fun i hi => ?_, fun m hm c hc hg H => ?_, g⟩
  · rcases e i hi with x | ⟨c, h1, h2, ⟨k, h3, h4⟩, h5⟩
    · exact .inl x
    · refine .inr ⟨c, by omega, h2, ⟨k, by rw [hS c h1]; exact h3, by rw [hF c h1 k h3]; exact h4⟩, fun k hk ek => ?_⟩
      rw [hS c h1] at hk
      rw [hF c h1 k hk] at ek
      rw [hF c h1 k hk]
      exact h5 k hk ek
  · rcases Nat.lt_or_ge c C.1 with x | x
    · refine f m hm c x (by rw [← hG c x]; exact hg) (fun k hk => ?_)
      have := H k (by rw [hS c x]; exact hk)
      rwa [hF c x k hk] at this
    · have : c = C.1 := by omega
      subst this
      obtain ⟨k, hk, hu⟩ := hn
      obtain ⟨i, hi, ei, -⟩ := H k hk
      exact hu i hi ei
theorem tI.none : tI V C A T L R 0 0 := ⟨⟨by decide, fun i hi => by omega, fun i j _ hj => by omega⟩, ⟨fun i j _ hj => by omega, fun i hi => by omega, fun l a b => by omega⟩, fun i hi => by omega, fun m hm => by omega, fun i hi => by omega⟩
end PU
