/-! how many are assigned; whether one is left -/
theorem zcnt_all {p : Nat → Bool} : ∀ {m k : Nat}, (∀ j, k ≤ j → j < k + m → p j = true) → zcnt p k m = m
  | 0, k, _ => rfl
  | m + 1, k, h => by
    rw [zcnt_succ, zcnt_all (fun j a b => h j a (by omega)), h (k + m) (by omega) (by omega)]; rfl
def pT (T : Nat → Int32) (t v : Nat) : Bool := (zfind (fun i => Nat.beq (zv (T i)) v) 0 t).isSome
theorem pT_iff {T : Nat → Int32} {t v : Nat} : pT T t v = true ↔ ∃ i, i < t ∧ zv (T i) = v := by
  unfold pT
  rw [zfind_isSome]
  exact ⟨fun ⟨j, _, b, c⟩ => ⟨j, by omega, Nat.eq_of_beq_eq_true c⟩, fun ⟨i, a, b⟩ => ⟨i, by omega, by omega, by rw [b]; exact Nat.beq_refl _⟩⟩
theorem cntT {V : Nat} {T : Nat → Int32} (hV : V ≤ 30) : ∀ t, tW V T t → zcnt (pT T t) 1 V = t
  | 0, _ => zcnt_zero.mpr (fun j _ _ => by
    cases e : pT T 0 j with
    | false => rfl
    | true => obtain ⟨i, a, _⟩ := pT_iff.mp e; omega)
  | t + 1, h => by
    obtain ⟨u, u1, u2, e, -⟩ := lok_two ((h.2.1 t (by omega)).mono hV)
    have hu := (h.2.1 t (by omega)).is hV
    rw [zcnt_upd (p := pT T t) (j := zv (T t)) (by omega) (by omega) ?_ ?_ (fun i hi => ?_), cntT hV t (h.pre (by omega))]
    · cases x : pT T t (zv (T t)) with
      | false => rfl
      | true => obtain ⟨i, a, b⟩ := pT_iff.mp x; exact absurd b (h.2.2 i t a (by omega))
    · exact pT_iff.mpr ⟨t, by omega, rfl⟩
    · rw [Bool.eq_iff_iff, pT_iff, pT_iff]
      constructor
      · rintro ⟨j, a, b⟩
        refine ⟨j, ?_, b⟩
        rcases Nat.lt_or_ge j t with x | x
        · exact x
        · have : j = t := by omega
          subst this; exact absurd b.symm hi
      · rintro ⟨j, a, b⟩; exact ⟨j, by omega, b⟩
theorem ch_is (α : Nat → Nat → Int32) : ∀ m, (zit (a_chF α) 1 m 0 = 0 ∧ ∀ v, 1 ≤ v → v ≤ m → ¬ α 105 v = 0) ∨ (1 ≤ zit (a_chF α) 1 m 0 ∧ zit (a_chF α) 1 m 0 ≤ m ∧ α 105 (zit (a_chF α) 1 m 0) = 0)
  | 0 => .inl ⟨rfl, fun v a b => by omega⟩
  | m + 1 => by
    have ih := ch_is α m
    rw [zit_succ]
    generalize zit (a_chF α) 1 m 0 = r at ih
    unfold a_chF
    by_cases e : α 105 (1 + m) = 0 ∧ (r = 0 ∨ α 101 (63 + r) < α 101 (63 + (1 + m)))
    · rw [if_pos e]; exact .inr ⟨by omega, by omega, e.1⟩
    · rw [if_neg e]
      rcases ih with ⟨a, b⟩ | ⟨a, b, c⟩
      · refine .inl ⟨a, fun v v1 v2 => ?_⟩
        by_cases ev : v = 1 + m
        · subst ev; exact fun x => e ⟨x, .inl a⟩
        · exact b v v1 (by omega)
      · exact .inr ⟨a, by omega, c⟩
theorem choice_iff {α : Nat → Nat → Int32} {T : Nat → Int32} {L : Nat → Nat} {R : Nat → Int32} {t w : Nat} (hV : aV α ≤ 30) (hT : aT α T L R t w) (hw : tW (aV α) T t) : (t < aV α ∧ 1 ≤ a_choice α ∧ a_choice α ≤ aV α ∧ α 105 (a_choice α) = 0) ∨ (¬ t < aV α ∧ a_choice α = 0) := by
  have hc := cntT hV t hw
  unfold a_choice
  rcases ch_is α (aV α) with ⟨a, b⟩ | ⟨a, b, c⟩
  · refine .inr ⟨?_, a⟩
    have : zcnt (pT T t) 1 (aV α) = aV α := zcnt_all (fun v v1 v2 => by
      cases x : pT T t v with
      | true => rfl
      | false =>
        exfalso
        refine b v v1 (by omega) (hT.2.2 v v1 (by omega) (fun i hi e => ?_))
        rw [pT_iff.mpr ⟨i, hi, e⟩] at x; exact absurd x (by decide))
    omega
  · refine .inl ⟨?_, a, b, c⟩
    have := zcnt_lt (p := pT T t) (m := aV α) (k := 1) a (by omega) (by
      cases x : pT T t (zit (a_chF α) 1 (aV α) 0) with
      | false => rfl
      | true => obtain ⟨i, i1, i2⟩ := pT_iff.mp x; exact absurd i2 (hT.isO c i i1))
    omega
