/-! proof: both alike -/
section PF
variable {κ α α' a : Nat → Nat → Int32} {τ : (Nat → Nat → Int64) × (Nat → Nat)} {p q : Int32}
theorem take_is {n : Nat} (hn : a 4 2 = nI n) (h : n < 481) {x y : Int32} : k_take a x y 75 n = x ∧ k_take a x y 76 n = y ∧ k_take a x y 4 2 = nI (n + 1) ∧ (∀ i, ¬ i = n → k_take a x y 75 i = a 75 i ∧ k_take a x y 76 i = a 76 i) ∧ ∀ p, ¬ p = 4 → ¬ p = 75 → ¬ p = 76 → k_take a x y p = a p := by
  have e : k_rn a = n := by unfold k_rn; rw [hn]; exact nI_clamp (by omega)
  unfold k_take
  rw [e, if_pos h]
  refine ⟨?_, ?_, ?_, fun i hi => ⟨?_, ?_⟩, fun p p1 p2 p3 => funext fun j => ?_⟩
  · rw [zup_p (by decide), zup_p (by decide), zup_same]
  · rw [zup_p (by decide), zup_same]
  · rw [zup_same]
  · rw [zup_p (by decide), zup_p (by decide), zup_i hi]
  · rw [zup_p (by decide), zup_i hi, zup_p (by decide)]
  · rw [zup_p p1, zup_p p3, zup_p p2]
theorem told_rows (h : stR κ α τ) : ∀ m, m ≤ aN α → zit (k_tdF κ) 0 m (zup κ 4 2 (nI 0)) 4 2 = nI (zcnt (zNl α) 0 m) ∧ (∀ c, c < m → a_learnt α c = false → zit (k_tdF κ) 0 m (zup κ 4 2 (nI 0)) 75 (zcnt (zNl α) 0 c) = κ 12 c ∧ zit (k_tdF κ) 0 m (zup κ 4 2 (nI 0)) 76 (zcnt (zNl α) 0 c) = κ 13 c) ∧ ∀ p, ¬ p = 4 → ¬ p = 75 → ¬ p = 76 → zit (k_tdF κ) 0 m (zup κ 4 2 (nI 0)) p = κ p
  | 0, _ => ⟨zup_same _ _ _ _, fun c hc => by omega, fun p p1 _ _ => funext fun j => zup_p p1⟩
  | m + 1, hm => by
    have h4 := h.1.1.2.1.2.1.2
    obtain ⟨i1, i2, i3⟩ := told_rows h m (by omega)
    have zs := zcnt_succ (zNl α) 0 m
    rw [Nat.zero_add] at zs
    have lp := h.lp (c := m) (by omega)
    rw [zit_succ, Nat.zero_add]
    generalize zit (k_tdF κ) 0 m (zup κ 4 2 (nI 0)) = b at i1 i2 i3
    unfold k_tdF
    by_cases e : κ 14 m = 0
    · have el : a_learnt α m = false := by rw [← lp]; exact decide_eq_false (fun x => x e)
      have zle := zcnt_le (zNl α) m 0
      obtain ⟨t1, t2, t3, t4, t5⟩ := take_is (x := κ 12 m) (y := κ 13 m) i1 (by omega)
      rw [if_pos e]
      have ez : zcnt (zNl α) 0 (m + 1) = zcnt (zNl α) 0 m + 1 := by rw [zs]; unfold zNl; rw [el]; rfl
      refine ⟨by rw [ez]; exact t3, fun c hc hl => ?_, fun p p1 p2 p3 => (t5 p p1 p2 p3).trans (i3 p p1 p2 p3)⟩
      by_cases ec : c = m
      · subst ec; exact ⟨t1, t2⟩
      · have hne : ¬ zcnt (zNl α) 0 c = zcnt (zNl α) 0 m := by
          have := zcnt_add (zNl α) (c + 1) 0 (m - (c + 1))
          rw [show c + 1 + (m - (c + 1)) = m from by omega, zcnt_succ, Nat.zero_add] at this
          have h1 : (bif zNl α c then 1 else 0) = 1 := by unfold zNl; rw [hl]; rfl
          omega
        obtain ⟨x, y⟩ := t4 _ hne
        rw [x, y]; exact i2 c (by omega) hl
    · have el : a_learnt α m = true := by rw [← lp]; exact decide_eq_true e
      rw [if_neg e]
      have ez : zcnt (zNl α) 0 (m + 1) = zcnt (zNl α) 0 m := by rw [zs]; unfold zNl; rw [el]; rfl
      refine ⟨by rw [ez]; exact i1, fun c hc hl => ?_, i3⟩
      refine i2 c ?_ hl
      rcases Nat.lt_or_ge c m with x | x
      · exact x
      · have : c = m := by omega
        subst this; rw [el] at hl; exact absurd hl (by decide)
theorem asR_0 {g : Nat → Int32} (h : ∀ v, 1 ≤ v → v ≤ 30 → g v = 0) : asR (nI 0) (nI 0) g := fun v v1 v2 => .inr (.inr ⟨h v v1 v2, kt_n0 v, kt_n0 v⟩)
theorem asR_ng (h : stR κ α τ) {c : Nat} (hc : c < aN α) {β : Nat → Nat → Int32} (h0 : ∀ v, 1 ≤ v → v ≤ 30 → β 105 v = 0) : asR (κ 13 c) (κ 12 c) (zit (a_ngF (aL α c)) 0 (aS α c) β 105) := by
  have hW := h.1.1.2.1
  have m := (h.1.1.1.2 c hc).1
  have hd := h.1.1.2.2.1 c hc
  have lk : ∀ i, i < aS α c → lok 30 (aL α c i) := fun i hi => hW.lok30 hc hi
  obtain ⟨n1, n2, -⟩ := ng_is (f := aL α c) (aS α c) β lk
  intro v v1 v2
  have N := zv_tab (v := v) (by omega) v1
  have T1 := zv_tab1 v (by omega)
  have M := m.2.2 v v1 v2
  by_cases e : ∃ i, i < aS α c ∧ zv (aL α c i) = v
  · obtain ⟨i, i1, i2⟩ := e
    have g := n2 i i1 (fun j a b => hd i j a b)
    rw [i2] at g
    have un : ∀ j, j < aS α c → zv (aL α c j) = v → j = i := fun j j1 j2 => by
      rcases Nat.lt_trichotomy j i with x | x | x
      · exact absurd (j2.trans i2.symm) (hd j i x i1)
      · exact x
      · exact absurd (i2.trans j2.symm) (hd i j x j1)
    obtain ⟨u, u1, u2, eu, d⟩ := lok_two (lk i i1)
    have : u = v := eu.symm.trans i2
    subst this
    rw [g]
    rcases d with d | d
    · right; left
      rw [d, if_neg N.2.1]
      refine ⟨rfl, ?_, M.1.mpr ⟨i, i1, d⟩⟩
      cases x : kt (κ 13 c) u with
      | false => rfl
      | true =>
        obtain ⟨j, j1, j2⟩ := M.2.mp x
        have := un j j1 (by rw [j2]; exact zvm v2)
        subst this; exact absurd (d.symm.trans j2) N.2.2.2.2.1
    · left
      rw [d, T1.2.2.2, if_pos N.1]
      refine ⟨rfl, M.2.mpr ⟨i, i1, d⟩, ?_⟩
      cases x : kt (κ 12 c) u with
      | false => rfl
      | true =>
        obtain ⟨j, j1, j2⟩ := M.1.mp x
        have := un j j1 (by rw [j2]; exact zvn v2)
        subst this; exact absurd (j2.symm.trans d) N.2.2.2.2.1
  · have hn : ∀ i, i < aS α c → ¬ zv (aL α c i) = v := fun i hi x => e ⟨i, hi, x⟩
    right; right
    rw [n1 v v1 v2 hn]
    refine ⟨h0 v v1 v2, ?_, ?_⟩
    · cases x : kt (κ 13 c) v with
      | false => rfl
      | true => obtain ⟨j, j1, j2⟩ := M.2.mp x; exact absurd (by rw [j2]; exact zvm v2) (hn j j1)
    · cases x : kt (κ 12 c) v with
      | false => rfl
      | true => obtain ⟨j, j1, j2⟩ := M.1.mp x; exact absurd (by rw [j2]; exact zvn v2) (hn j j1)
end PF
