/-! leaving levels: both cut the trail alike and keep the same phases -/
def tC (L : Nat → Nat) (b : Int32) : Nat → Nat
  | 0 => 0
  | n + 1 => if b < nI (L n) then tC L b n else n + 1
theorem tC_le (L : Nat → Nat) (b : Int32) : ∀ t, tC L b t ≤ t
  | 0 => Nat.le_refl _
  | n + 1 => by
    unfold tC
    split
    · exact Nat.le_trans (tC_le L b n) (Nat.le_succ n)
    · exact Nat.le_refl _
/-- what leaving may change -/
def aLv (α β : Nat → Nat → Int32) : Prop := ∀ p i, ¬ (p = 100 ∧ i = 10) → ¬ (p = 101 ∧ 33 ≤ i ∧ i ≤ 62) → ¬ p = 105 → β p i = α p i
def kLv (κ β : Nat → Nat → Int32) : Prop := ∀ p i, ¬ (p = 10 ∧ i = 5) → ¬ (p = 3 ∧ (i = 2 ∨ i = 6 ∨ i = 7)) → β p i = κ p i
theorem k_setPhase_at {κ : Nat → Nat → Int32} {l : Int32} {p i : Nat} (h : ¬ (p = 10 ∧ i = 5)) : k_setPhase κ l p i = κ p i := if_neg h
theorem lv_both {T : Nat → Int32} {L : Nat → Nat} {R : Nat → Int32} {w : Nat} (b : Int32) : ∀ t (κ α : Nat → Nat → Int32), tW 30 T t → aT α T L R t w → kT κ T L R t w → phR κ α →
    aT (a_leaveL b t α) T L R (tC L b t) w ∧ kT (k_lvL b t κ) T L R (tC L b t) w ∧ phR (k_lvL b t κ) (a_leaveL b t α) ∧ aLv α (a_leaveL b t α) ∧ kLv κ (k_lvL b t κ)
  | 0, κ, α, hw, ha, hk, hp => ⟨ha, hk, hp, fun _ _ _ _ _ => rfl, fun _ _ _ _ => rfl⟩
  | n + 1, κ, α, hw, ha, hk, hp => by
    unfold tC a_leaveL k_lvL
    have hA := ha.2.1 n (by omega)
    have hK := hk.2.1 n (by omega)
    rw [hA.1, hA.2.1, hK.1, hK.2.1]
    by_cases hb : b < nI (L n)
    · rw [if_pos hb, if_pos hb, if_pos hb]
      obtain ⟨u, h1, h2, e, e'⟩ := lok_two (hw.2.1 n (by omega))
      have N := zv_tab (v := u) (by omega) h1
      have hw' := hw.pre (s := n) (by omega)
      have hne : ∀ i, i < n → ¬ zv (T i) = u := fun i hi e1 => hw.2.2 i n hi (by omega) (e1.trans e.symm)
      rw [e]
      let α' := zup (zup (zup α 100 10 (nI n)) 101 (32 + u) (if 0 < T n then nI 1 else nI 0)) 105 u (nI 0)
      have ha' : aT α' T L R n w := by
        refine ⟨⟨?_, ?_⟩, fun i hi => ?_, fun v a1 a2 a3 => ?_⟩
        · simp [α', zup]
        · have : α' 100 11 = α 100 11 := by simp [α', zup]
          rw [this]; exact ha.1.2
        · have hi' := ha.2.1 i (by omega)
          simp [α', zup, hne i hi]
          exact hi'
        · by_cases ev : v = u
          · simp [α', zup, ev]; rfl
          · have : α' 105 v = α 105 v := by simp [α', zup, ev]
            rw [this]
            exact ha.2.2 v a1 a2 (fun i hi ei => by
              by_cases ein : i = n
              · subst ein; exact ev (ei.symm.trans e)
              · exact a3 i (by omega) ei)
      have K6 : k_lv1 n κ 3 6 = κ 3 6 &&& (kb (κ 70 n) ^^^ (-1)) := by unfold k_lv1; simp [zup]
      have K7 : k_lv1 n κ 3 7 = κ 3 7 &&& (kb (κ 70 n) ^^^ (-1)) := by unfold k_lv1; simp [zup]
      have KF : ∀ p i, ¬ (p = 10 ∧ i = 5) → ¬ (p = 3 ∧ (i = 2 ∨ i = 6 ∨ i = 7)) → k_lv1 n κ p i = κ p i := fun p i c1 c2 => by
        unfold k_lv1
        rw [show zup (zup (zup (k_setPhase κ (κ 70 n)) 3 6 (κ 3 6 &&& (kb (κ 70 n) ^^^ (-1)))) 3 7 (κ 3 7 &&& (kb (κ 70 n) ^^^ (-1)))) 3 2 (nI n) p i = k_setPhase κ (κ 70 n) p i from by
          unfold zup
          rw [if_neg (fun x => c2 ⟨x.1, .inl x.2⟩), if_neg (fun x => c2 ⟨x.1, .inr (.inr x.2)⟩), if_neg (fun x => c2 ⟨x.1, .inr (.inl x.2)⟩)]]
        exact k_setPhase_at c1
      have ekb : kb (κ 70 n) = kb (nI u) := by
        rw [hK.1]; have := kb_lok (hw.2.1 n (by omega)) (Nat.le_refl _); rwa [e] at this
      have S : ∀ v x, (zv x = v) → 1 ≤ v → v ≤ 30 → ((∃ i, i < n ∧ T i = x) ↔ (¬ u = v ∧ ∃ i, i < n + 1 ∧ T i = x)) := fun v x ex a1 a2 => by
        constructor
        · rintro ⟨i, hi, ei⟩
          exact ⟨fun c => hne i hi (by rw [ei, ex, c]), i, by omega, ei⟩
        · rintro ⟨c, i, hi, ei⟩
          refine ⟨i, ?_, ei⟩
          rcases Nat.lt_or_ge i n with y | y
          · exact y
          · have : i = n := by omega
            subst this; exact absurd (e.symm.trans ((congrArg zv ei).trans ex)) c
      have hk' : kT (k_lv1 n κ) T L R n w := by
        refine ⟨⟨?_, ?_⟩, fun i hi => ?_, fun v a1 a2 => ?_⟩
        · unfold k_lv1; simp [zup]
        · rw [KF 3 8 (by decide) (by decide)]; exact hk.1.2
        · rw [KF 70 _ (fun c => absurd c.1 (by decide)) (fun c => absurd c.1 (by decide)), KF 71 _ (fun c => absurd c.1 (by decide)) (fun c => absurd c.1 (by decide)), KF 72 _ (fun c => absurd c.1 (by decide)) (fun c => absurd c.1 (by decide))]
          exact hk.2.1 i (by omega)
        · rw [K6, K7, ekb, kt_and, kt_and, kt_xn _ (by omega) a1, kt_kb h1 h2 a1 a2, S v (nI v) (zvn a2) a1 a2, S v (-(nI v)) (zvm a2) a1 a2, Bool.and_eq_true, Bool.and_eq_true, (hk.2.2 v a1 a2).1, (hk.2.2 v a1 a2).2, Bool.not_eq_true', decide_eq_false_iff_not]
          exact ⟨And.comm, And.comm⟩
      have hp' : phR (k_lv1 n κ) α' := by
        intro v a1 a2
        have eA : α' 101 (32 + v) = if v = u then (if 0 < T n then nI 1 else nI 0) else α 101 (32 + v) := by
          by_cases c : v = u <;> simp [α', zup, c]
        have eK : k_lv1 n κ 10 5 = k_setPhase κ (T n) 10 5 := by unfold k_lv1; rw [hK.1]; simp [zup]
        have eP : k_setPhase κ (T n) 10 5 = if 0 < T n then κ 10 5 ||| kb (T n) else κ 10 5 &&& (kb (T n) ^^^ (-1)) := zup_same _ _ _ _
        rw [eA, eK, eP, show kb (T n) = kb (nI u) from by rw [← hK.1]; exact ekb]
        by_cases c : v = u
        · subst c
          rw [if_pos rfl]
          split
          · exact .inl ⟨by rw [kt_or, kt_kb h1 h2 h1 h2, decide_eq_true rfl, Bool.or_true], rfl⟩
          · exact .inr ⟨by rw [kt_and, kt_xn _ (by omega) h1, kt_kb h1 h2 h1 h2, decide_eq_true rfl]; exact Bool.and_false _, rfl⟩
        · rw [if_neg c]
          have cu : decide (u = v) = false := decide_eq_false (fun x => c x.symm)
          have : kt (if 0 < T n then κ 10 5 ||| kb (nI u) else κ 10 5 &&& (kb (nI u) ^^^ (-1))) v = kt (κ 10 5) v := by
            split
            · rw [kt_or, kt_kb h1 h2 a1 a2, cu, Bool.or_false]
            · rw [kt_and, kt_xn _ (by omega) a1, kt_kb h1 h2 a1 a2, cu]; exact Bool.and_true _
          rw [this]; exact hp v a1 a2
      obtain ⟨r1, r2, r3, r4, r5⟩ := lv_both b n (k_lv1 n κ) α' hw' ha' hk' hp'
      refine ⟨r1, r2, r3, fun p i c1 c2 c3 => (r4 p i c1 c2 c3).trans ?_, fun p i c1 c2 => (r5 p i c1 c2).trans (KF p i c1 c2)⟩
      show zup _ 105 u (nI 0) p i = _
      rw [zup_p c3]
      show zup (zup α 100 10 (nI n)) 101 (32 + u) _ p i = _
      unfold zup
      rw [if_neg (fun x => c2 ⟨x.1, by omega, by omega⟩), if_neg c1]
    · rw [if_neg hb, if_neg hb, if_neg hb]
      exact ⟨ha, hk, hp, fun _ _ _ _ _ => rfl, fun _ _ _ _ => rfl⟩
theorem k_max0 {b : Int32} : k_max b (nI 0) = if 0 ≤ b then b else nI 0 := by
  unfold k_max
  have e : (nI 0 : Int32) = 0 := rfl
  rw [e]
  by_cases h : b < 0
  · rw [if_pos h, if_neg (fun c => absurd h (Int32.not_lt.mpr c))]
  · rw [if_neg h, if_pos (Int32.not_lt.mp h)]
theorem leave_both {T : Nat → Int32} {L : Nat → Nat} {R : Nat → Int32} {w w' t : Nat} {b : Int32} {κ α : Nat → Nat → Int32} (hb : (if 0 ≤ b then b else nI 0) = nI w') (hw : tW 30 T t) (ha : aT α T L R t w) (hk : kT κ T L R t w) (hp : phR κ α) :
    aT (a_leaves α b) T L R (tC L b t) w' ∧ kT (k_leave κ b) T L R (tC L b t) w' ∧ phR (k_leave κ b) (a_leaves α b) ∧
    (∀ p i, ¬ (p = 100 ∧ (i = 10 ∨ i = 11)) → ¬ (p = 101 ∧ 33 ≤ i ∧ i ≤ 62) → ¬ p = 105 → a_leaves α b p i = α p i) ∧ (∀ p i, ¬ (p = 10 ∧ i = 5) → ¬ (p = 3 ∧ (i = 2 ∨ i = 6 ∨ i = 7 ∨ i = 8)) → k_leave κ b p i = κ p i) := by
  obtain ⟨r1, r2, r3, r4, r5⟩ := lv_both b t κ α hw ha hk hp
  have e10 : (α 100 10).toNatClampNeg = t := by rw [ha.1.1]; exact nI_clamp (by have := hw.1; omega)
  have e2 : (κ 3 2).toNatClampNeg = t := by rw [hk.1.1]; exact nI_clamp (by have := hw.1; omega)
  unfold a_leaves k_leave
  rw [e10, e2, k_max0, hb]
  refine ⟨r1.of (fun p a b => funext fun i => zup_p (by omega)) (zup_i (by decide)) (zup_same _ _ _ _), r2.of (fun p a b => funext fun i => zup_p (by omega)) (zup_i (by decide)) (zup_i (by decide)) (zup_i (by decide)) (zup_same _ _ _ _), fun v a1 a2 => ?_, fun p i c1 c2 c3 => ?_, fun p i c1 c2 => ?_⟩
  · rw [zup_p (by decide), zup_p (by decide)]; exact r3 v a1 a2
  · refine Eq.trans ?_ (r4 p i (fun x => c1 ⟨x.1, .inl x.2⟩) c2 c3)
    exact if_neg (fun x => c1 ⟨x.1, .inr x.2⟩)
  · refine Eq.trans ?_ (r5 p i c1 (fun x => c2 ⟨x.1, by rcases x.2 with y | y | y <;> simp [y]⟩))
    exact if_neg (fun x => c2 ⟨x.1, by simp [x.2]⟩)
