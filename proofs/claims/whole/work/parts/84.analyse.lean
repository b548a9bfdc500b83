/-! taking a conflict apart: both resolve alike -/
def sR (x : Int32) (h : Nat → Int32) : Prop := kz x ∧ ∀ v, 1 ≤ v → v ≤ 30 → (kt x v = true ↔ ¬ h v = 0)
def zAn (κ α : Nat → Nat → Int32) (T : Nat → Int32) (L : Nat → Nat) (R : Nat → Int32) (t w : Nat) : Prop :=
  aT α T L R t w ∧ kT κ T L R t w ∧ tW (aV α) T t ∧ tL L t w ∧ (∀ i, i < t → rI (aCl α) T L R i) ∧ cR κ α ∧ aW α ∧ 1 ≤ w
theorem tW.to30 {V : Nat} {T : Nat → Int32} {t : Nat} (h : tW V T t) (hV : V ≤ 30) : tW 30 T t := ⟨h.1, fun i hi => (h.2.1 i hi).mono hV, h.2.2⟩
theorem zcnt_two {p : Nat → Bool} {k m : Nat} (h : 1 < zcnt p k m) (c : Nat) : ∃ j, k ≤ j ∧ j < k + m ∧ p j = true ∧ ¬ j = c := by
  rcases Classical.em (∃ j, k ≤ j ∧ j < k + m ∧ p j = true ∧ ¬ j = c) with x | x
  · exact x
  · exfalso
    have hu : ∀ j, k ≤ j → j < k + m → p j = true → j = c := fun j a b d => Classical.byContradiction fun e => x ⟨j, a, b, d, e⟩
    rcases Classical.em (∃ j, k ≤ j ∧ j < k + m ∧ p j = true) with ⟨j, a, b, d⟩ | y
    · have := hu j a b d
      subst this
      rw [zcnt_is1 a b d hu] at h; omega
    · have : zcnt p k m = 0 := zcnt_zero.mpr (fun j a b => by
        cases e : p j with
        | false => rfl
        | true => exact absurd ⟨j, a, b, e⟩ y)
      omega
theorem zcnt_V {p : Nat → Bool} {V : Nat} (hV : V ≤ 30) (h : ∀ v, V < v → v ≤ 30 → p v = false) : zcnt p 1 30 = zcnt p 1 V := by
  obtain ⟨d, e⟩ : ∃ d, 30 = V + d := ⟨30 - V, by omega⟩
  have e2 : zcnt p (1 + V) d = 0 := zcnt_zero.mpr (fun j a b => h j (by omega) (by omega))
  have e3 : zcnt p 1 30 = zcnt p 1 (V + d) := by rw [← e]
  rw [e3, zcnt_add, e2, Nat.add_zero]
/-- what a clause brings -/
theorem a_brings_of2 (β : Nat → Nat → Int32) (c but : Nat) : ∀ m k a, zoff [112, 113] a (zit (a_brF β c but) k m a)
  | 0, k, a => zoff.rf
  | m + 1, k, a => by
    unfold zit
    refine zoff.tr ?_ (a_brings_of2 β c but m (k + 1) _)
    unfold a_brF
    split
    · exact zoff.rf
    · exact (zoff.rf.up (by simp)).up (by simp)
def zBr (β : Nat → Nat → Int32) (c but v k m : Nat) : Prop := ∃ j, k ≤ j ∧ j < k + m ∧ zv (aL β c j) = v ∧ ¬ v = but ∧ ¬ β 106 v = 0
theorem a_brings_in (β : Nat → Nat → Int32) (c but : Nat) {p : Nat} (hp : p = 112 ∨ p = 113) (v : Nat) : ∀ m k a, (zBr β c but v k m → zit (a_brF β c but) k m a p v = nI 1) ∧ (¬ zBr β c but v k m → zit (a_brF β c but) k m a p v = a p v)
  | 0, k, a => ⟨fun ⟨j, a, b, _⟩ => by omega, fun _ => rfl⟩
  | m + 1, k, a => by
    unfold zit
    obtain ⟨i1, i2⟩ := a_brings_in β c but hp v m (k + 1) (a_brF β c but k a)
    by_cases h : zBr β c but v (k + 1) m
    · refine ⟨fun _ => i1 h, fun x => absurd ?_ x⟩
      obtain ⟨j, a1, a2, a3⟩ := h
      exact ⟨j, by omega, by omega, a3⟩
    · rw [i2 h]
      unfold a_brF
      by_cases hk : zv (aL β c k) = v ∧ ¬ v = but ∧ ¬ β 106 v = 0
      · refine ⟨fun _ => ?_, fun x => absurd ⟨k, Nat.le_refl _, by omega, hk⟩ x⟩
        obtain ⟨h1, h2, h3⟩ := hk
        rw [h1, if_neg (fun x => x.elim h2 h3)]
        rcases hp with rfl | rfl
        · rw [zup_p (by decide), zup_same]
        · rw [zup_same]
      · refine ⟨fun ⟨j, a1, a2, a3⟩ => ?_, fun _ => ?_⟩
        · exfalso
          rcases Nat.eq_or_lt_of_le a1 with e | e
          · subst e; exact hk a3
          · exact h ⟨j, e, by omega, a3⟩
        · by_cases hv : zv (aL β c k) = v
          · rw [if_pos (by
              rw [hv]
              rcases Classical.em (v = but) with x | x
              · exact .inl x
              · rcases Classical.em (β 106 v = 0) with y | y
                · exact .inr y
                · exact absurd ⟨hv, x, y⟩ hk)]
          · split
            · rfl
            · have hv' : ¬ v = zv (aL β c k) := fun e => hv e.symm
              rw [zup_i hv', zup_i hv']
theorem k_vf_z (κ : Nat → Nat → Int32) (b : Int32) {T : Nat → Int32} {t : Nat} (hw : tW 30 T t) (hT : ∀ i, i < t → κ 70 i = T i) : ∀ n, n ≤ t → kz (zit (k_vfF κ b) 0 n (nI 0)) ∧ ∀ v, 1 ≤ v → v ≤ 30 → (kt (zit (k_vfF κ b) 0 n (nI 0)) v = true ↔ ∃ i, i < n ∧ zv (T i) = v ∧ b ≤ κ 71 v)
  | 0, h => ⟨kz_n0, fun v _ _ => by
      show kt (nI 0) v = true ↔ _
      rw [kt_n0]; exact ⟨fun x => absurd x (by decide), fun ⟨i, a, _⟩ => absurd a (by omega)⟩⟩
  | n + 1, h => by
    obtain ⟨h1, h2⟩ := k_vf_z κ b hw hT n (by omega)
    rw [zit_succ, Nat.zero_add]
    generalize hx : zit (k_vfF κ b) 0 n (nI 0) = x at h1 h2
    unfold k_vfF
    rw [hT n (by omega)]
    obtain ⟨a1, a2, -⟩ := (hw.2.1 n (by omega)).is (Nat.le_refl _)
    by_cases hb : b ≤ κ 71 (zv (T n))
    · rw [if_pos hb]
      refine ⟨kz_or h1 (kz_kb a1 a2), fun v b1 b2 => ?_⟩
      rw [kt_or, kt_kb a1 a2 b1 b2, Bool.or_eq_true, decide_eq_true_eq, h2 v b1 b2]
      constructor
      · rintro (⟨i, c1, c2⟩ | e)
        · exact ⟨i, by omega, c2⟩
        · exact ⟨n, by omega, e, by rw [← e]; exact hb⟩
      · rintro ⟨i, c1, c2, c3⟩
        by_cases e : i = n
        · subst e; exact .inr c2
        · exact .inl ⟨i, by omega, c2, c3⟩
    · rw [if_neg hb]
      refine ⟨h1, fun v b1 b2 => ?_⟩
      rw [h2 v b1 b2]
      constructor
      · rintro ⟨i, c1, c2⟩; exact ⟨i, by omega, c2⟩
      · rintro ⟨i, c1, c2, c3⟩
        by_cases e : i = n
        · subst e; exact absurd (by rw [c2]; exact c3) hb
        · exact ⟨i, by omega, c2, c3⟩
section AN
variable {κ α : Nat → Nat → Int32} {T : Nat → Int32} {L : Nat → Nat} {R : Nat → Int32} {t w : Nat}
theorem zAn.w30 (h : zAn κ α T L R t w) : tW 30 T t := h.2.2.1.to30 h.2.2.2.2.2.2.1.1.2
theorem zAn.vf (h : zAn κ α T L R t w) {m : Nat} (hm : m ≤ 60) : kz (k_vf κ (nI m)) ∧ ∀ v, 1 ≤ v → v ≤ 30 → (kt (k_vf κ (nI m)) v = true ↔ ∃ i, i < t ∧ zv (T i) = v ∧ m ≤ L i) := by
  have hw := h.w30
  have h30 := hw.1
  have e2 : (κ 3 2).toNatClampNeg = t := by rw [h.2.1.1.1]; exact nI_clamp (by omega)
  obtain ⟨a, b⟩ := k_vf_z κ (nI m) hw (fun i hi => (h.2.1.2.1 i hi).1) t (Nat.le_refl _)
  unfold k_vf
  rw [e2]
  refine ⟨a, fun v b1 b2 => (b v b1 b2).trans ?_⟩
  constructor
  · rintro ⟨i, c1, c2, c3⟩
    refine ⟨i, c1, c2, ?_⟩
    rw [← c2, (h.2.1.2.1 i c1).2.1] at c3
    have := h.2.2.2.1.2.1 i c1
    have := h.2.2.2.1.le
    exact (nI_leI (by omega) (by omega)).mp c3
  · rintro ⟨i, c1, c2, c3⟩
    refine ⟨i, c1, c2, ?_⟩
    rw [← c2, (h.2.1.2.1 i c1).2.1]
    have := h.2.2.2.1.2.1 i c1
    have := h.2.2.2.1.le
    exact nI_le c3 (by omega)
/-- where the loop stands -/
def zZ (α : Nat → Nat → Int32) (T : Nat → Int32) (L : Nat → Nat) (t w n : Nat) (x : Int32 × Int32) (β : Nat → Nat → Int32) : Prop :=
  zoff [112, 113] α β ∧ sR x.1 (β 112) ∧ sR x.2 (β 113) ∧ (∀ v, v < 31 → β 112 v = 0 ∨ β 112 v = nI 1) ∧
  (∀ v, 1 ≤ v → v ≤ 30 → kt x.1 v = true → ∃ i, i < t ∧ zv (T i) = v ∧ 1 ≤ L i) ∧ (∀ i, n ≤ i → i < t → L i = w → kt x.1 (zv (T i)) = false) ∧ ∃ i, i < t ∧ L i = w ∧ kt x.1 (zv (T i)) = true
theorem zAn.lv (h : zAn κ α T L R t w) {i : Nat} (hi : i < t) : 1 ≤ zv (T i) ∧ zv (T i) ≤ 30 ∧ zv (T i) ≤ aV α ∧ L i ≤ w ∧ w ≤ 30 ∧ L i ≤ 30 := by
  obtain ⟨a, b, -⟩ := (h.2.2.1.2.1 i hi).is h.2.2.2.2.2.2.1.1.2
  have := h.2.2.2.2.2.2.1.1.2
  have := h.2.2.2.1.2.1 i hi
  have := h.2.2.2.1.le
  have := h.w30.1
  omega
theorem zZ.now (h : zAn κ α T L R t w) {n : Nat} {x : Int32 × Int32} {β : Nat → Nat → Int32} (hz : zZ α T L t w n x β) {v : Nat} (h1 : 1 ≤ v) (h2 : v ≤ 30) : a_now β v = true ↔ ∃ i, i < t ∧ zv (T i) = v ∧ L i = w ∧ kt x.1 v = true := by
  unfold a_now
  rw [hz.1.at (p := 106) (by decide), hz.1.at (p := 100) (by decide), h.1.1.2, Bool.and_eq_true, decide_eq_true_eq, decide_eq_true_eq, ← hz.2.1.2 v h1 h2]
  constructor
  · rintro ⟨a, b⟩
    obtain ⟨i, hi, e, -⟩ := hz.2.2.2.2.1 v h1 h2 a
    have l := h.lv hi
    rw [← e, (h.1.2.1 i hi).2.1, nI_eq (by omega) (by omega)] at b
    exact ⟨i, hi, e, b, a⟩
  · rintro ⟨i, hi, e, b, a⟩
    refine ⟨a, ?_⟩
    rw [← e, (h.1.2.1 i hi).2.1, b]
theorem zZ.cnt (h : zAn κ α T L R t w) {n : Nat} {x : Int32 × Int32} {β : Nat → Nat → Int32} (hz : zZ α T L t w n x β) : kbc (x.1 &&& k_vf κ (nI w)) = nI (a_levelNow β) ∧ a_levelNow β ≤ 30 := by
  have hV := h.2.2.2.2.2.2.1.1.2
  have ht := h.w30.1
  have hle := h.2.2.2.1.le
  obtain ⟨z1, z2⟩ := h.vf (m := w) (by omega)
  have eV : aV β = aV α := by unfold aV; rw [hz.1.at (p := 101) (by decide)]
  have K : ∀ v, 1 ≤ v → v ≤ 30 → kt (x.1 &&& k_vf κ (nI w)) v = a_now β v := fun v a b => by
    rw [Bool.eq_iff_iff, kt_and, Bool.and_eq_true, z2 v a b, hz.now h a b]
    constructor
    · rintro ⟨c, i, hi, e, l⟩
      exact ⟨i, hi, e, Nat.le_antisymm (h.lv hi).2.2.2.1 l, c⟩
    · rintro ⟨i, hi, e, l, c⟩
      exact ⟨c, i, hi, e, by omega⟩
  refine ⟨?_, by unfold a_levelNow; rw [eV]; exact Nat.le_trans (zcnt_le _ _ _) hV⟩
  rw [kbc_kt (kz_and hz.2.1.1 _)]
  refine congrArg nI ?_
  rw [zcnt_congr (q := a_now β) (fun j a b => K j a (by omega))]
  unfold a_levelNow
  rw [eV]
  refine zcnt_V hV (fun v a b => ?_)
  cases e : a_now β v with
  | false => rfl
  | true =>
    obtain ⟨i, hi, e1, -⟩ := (hz.now h (by omega) b).mp e
    have := (h.lv hi).2.2.1
    omega
theorem a_latest_is {β : Nat → Nat → Int32} {v0 : Nat} : ∀ m, (1 ≤ v0) → a_now β v0 = true → (∀ v, 1 ≤ v → v ≤ m → a_now β v = true → ¬ v = v0 → β 108 v < β 108 v0) → (v0 ≤ m → zit (a_latF β) 1 m 0 = v0) ∧ (¬ zit (a_latF β) 1 m 0 = 0 → 1 ≤ zit (a_latF β) 1 m 0 ∧ zit (a_latF β) 1 m 0 ≤ m ∧ a_now β (zit (a_latF β) 1 m 0) = true)
  | 0, h1, h2, h3 => ⟨fun x => by omega, fun x => absurd rfl x⟩
  | m + 1, h1, h2, h3 => by
    obtain ⟨i1, i2⟩ := a_latest_is m h1 h2 (fun v a b => h3 v a (by omega))
    rw [zit_succ]
    generalize zit (a_latF β) 1 m 0 = b at i1 i2
    unfold a_latF
    rw [Nat.add_comm 1 m]
    by_cases hc : a_now β (m + 1) = true ∧ (b = 0 ∨ β 108 b < β 108 (m + 1))
    · rw [if_pos hc]
      refine ⟨fun hv => ?_, fun _ => ⟨by omega, Nat.le_refl _, hc.1⟩⟩
      rcases Nat.eq_or_lt_of_le hv with e | e
      · exact e.symm
      · exfalso
        have := i1 (by omega)
        subst this
        rcases hc.2 with x | x
        · omega
        · exact Int32.lt_irrefl (Int32.lt_trans x (h3 (m + 1) (by omega) (Nat.le_refl _) hc.1 (by omega)))
    · rw [if_neg hc]
      refine ⟨fun hv => ?_, fun hb => ⟨(i2 hb).1, by have := (i2 hb).2.1; omega, (i2 hb).2.2⟩⟩
      rcases Nat.eq_or_lt_of_le hv with e | e
      · exfalso
        subst e
        refine hc ⟨h2, ?_⟩
        rcases Classical.em (b = 0) with x | x
        · exact .inl x
        · exact .inr (h3 b (i2 x).1 (by have := (i2 x).2.1; omega) (i2 x).2.2 (by have := (i2 x).2.1; omega))
      · exact i1 (by omega)
end AN
