/-! a conflict: its first set, and what is left of it -/
theorem a_rs_off : ∀ m k (a : Nat → Nat → Int32), zoff [112, 113] a (zit a_rsF k m a)
  | 0, k, a => zoff.rf
  | m + 1, k, a => by
    unfold zit
    exact zoff.tr ((zoff.rf.up (by simp)).up (by simp)) (a_rs_off m (k + 1) _)
theorem a_rs_at {p : Nat} (hp : p = 112 ∨ p = 113) : ∀ m k (a : Nat → Nat → Int32) v, k ≤ v → v < k + m → zit a_rsF k m a p v = nI 0
  | 0, k, a, v, h1, h2 => by omega
  | m + 1, k, a, v, h1, h2 => by
    rw [zit_succ]
    unfold a_rsF
    by_cases e : v = k + m
    · rw [e]
      rcases hp with rfl | rfl
      · rw [zup_p (by decide), zup_same]
      · rw [zup_same]
    · rw [zup_i e, zup_i e]
      exact a_rs_at hp m k a v h1 (by omega)
section CF
variable {κ α : Nat → Nat → Int32} {T : Nat → Int32} {L : Nat → Nat} {R : Nat → Int32} {t w c : Nat}
theorem zAn.start (h : zAn κ α T L R t w) (hc : c < aN α) (hf : ∀ k, k < aS α c → ∃ i, i < t ∧ T i = -(aL α c k)) (h1 : ∃ k, k < aS α c ∧ ∃ i, i < t ∧ T i = -(aL α c k) ∧ L i = w) : zZ α T L t w t (kM κ c &&& k_vf κ (nI 1), kM κ c &&& k_vf κ (nI 1)) (a_l2 α c) := by
  have hW := h.2.2.2.2.2.2.1
  have hm := (h.2.2.2.2.2.1.2 c hc).1
  have hlk : ∀ k, k < aS α c → lok 30 (aL α c k) := fun k hk => hW.lok30 hc hk
  obtain ⟨ab1, ab2⟩ := h.vf (m := 1) (by decide)
  let δ := zit a_rsF 0 31 α
  have oδ : zoff [112, 113] α δ := a_rs_off _ _ _
  have eaS : aS δ c = aS α c := by unfold aS; rw [oδ.at (p := 101) (by decide)]
  have eaL : ∀ k, aL δ c k = aL α c k := fun k => by unfold aL; rw [oδ.at (p := 101) (by decide)]
  have fv : ∀ k, k < aS α c → ∃ i, i < t ∧ zv (T i) = zv (aL α c k) := fun k hk => by
    obtain ⟨i, a, b⟩ := hf k hk
    exact ⟨i, a, by rw [b, (a_tr_neg (hlk k hk)).2.1]⟩
  have bits : ∀ v, 1 ≤ v → v ≤ 30 → (kt (kM κ c &&& k_vf κ (nI 1)) v = true ↔ zBr δ c 0 v 0 (aS δ c)) := fun v v1 v2 => by
    rw [kt_and, Bool.and_eq_true, ab2 v v1 v2, show kt (kM κ c) v = true ↔ ∃ k, k < aS α c ∧ zv (aL α c k) = v from hm.has hlk v1 v2]
    unfold zBr
    rw [eaS, oδ.at (p := 106) (by decide)]
    constructor
    · rintro ⟨⟨k, c1, c2⟩, i, c3, c4, c5⟩
      refine ⟨k, Nat.zero_le _, by omega, by rw [eaL]; exact c2, by omega, ?_⟩
      rw [← c4, (h.1.2.1 i c3).2.1]
      exact nI_ne0 c5 (by have := (h.lv c3).2.2.2.2.2; omega)
    · rintro ⟨k, -, c1, c2, -, c4⟩
      rw [eaL] at c2
      obtain ⟨i, i1, i2⟩ := fv k (by omega)
      refine ⟨⟨k, by omega, c2⟩, i, i1, by rw [i2, c2], ?_⟩
      rw [← c2, ← i2, (h.1.2.1 i i1).2.1] at c4
      rcases Nat.eq_zero_or_pos (L i) with y | y
      · rw [y] at c4; exact absurd rfl c4
      · exact y
  have val : ∀ p, p = 112 ∨ p = 113 → ∀ v, v < 31 → (zBr δ c 0 v 0 (aS δ c) ∧ a_l2 α c p v = nI 1) ∨ (¬ zBr δ c 0 v 0 (aS δ c) ∧ a_l2 α c p v = 0) := fun p hp v hv => by
    obtain ⟨i1, i2⟩ := a_brings_in δ c 0 hp v (aS δ c) 0 δ
    by_cases hb : zBr δ c 0 v 0 (aS δ c)
    · exact .inl ⟨hb, i1 hb⟩
    · exact .inr ⟨hb, (i2 hb).trans (a_rs_at hp 31 0 α v (Nat.zero_le _) (by omega))⟩
  have sr : ∀ p, p = 112 ∨ p = 113 → sR (kM κ c &&& k_vf κ (nI 1)) (a_l2 α c p) := fun p hp => ⟨kz_and (kz_or hm.1 hm.2.1) _, fun v v1 v2 => by
    rw [bits v v1 v2]
    rcases val p hp v (by omega) with ⟨a, b⟩ | ⟨a, b⟩
    · rw [b]; exact ⟨fun _ => by decide, fun _ => a⟩
    · rw [b]; exact ⟨fun x => absurd x a, fun x => absurd rfl x⟩⟩
  refine ⟨oδ.tr (a_brings_of2 δ c 0 (aS δ c) 0 δ), sr 112 (.inl rfl), sr 113 (.inr rfl), fun v hv => ?_, fun v v1 v2 hv => ?_, fun i a b => by omega, ?_⟩
  · rcases val 112 (.inl rfl) v hv with ⟨-, b⟩ | ⟨-, b⟩
    · exact .inr b
    · exact .inl b
  · have hv : kt (kM κ c &&& k_vf κ (nI 1)) v = true := hv
    rw [kt_and, Bool.and_eq_true, ab2 v v1 v2] at hv
    exact hv.2
  · obtain ⟨k, hk, i, hi, e1, e2⟩ := h1
    have l := h.lv hi
    have ev : zv (T i) = zv (aL α c k) := by rw [e1, (a_tr_neg (hlk k hk)).2.1]
    refine ⟨i, hi, e2, ?_⟩
    show kt (kM κ c &&& k_vf κ (nI 1)) _ = true
    rw [kt_and, Bool.and_eq_true, ab2 _ l.1 l.2.1]
    exact ⟨(hm.has hlk l.1 l.2.1).mpr ⟨k, hk, ev.symm⟩, i, hi, rfl, by rw [e2]; exact h.2.2.2.2.2.2.2⟩
/-- what the reference trims away -/
theorem a_wl_is : ∀ m k (a : Nat → Nat → Int32), zoff [114] a (zit a_wlF k m a) ∧ ∀ v, k ≤ v → v < k + m → zit a_wlF k m a 114 v = a 112 v
  | 0, k, a => ⟨zoff.rf, fun v h1 h2 => by omega⟩
  | m + 1, k, a => by
    obtain ⟨i1, i2⟩ := a_wl_is m k a
    rw [zit_succ]
    generalize zit a_wlF k m a = b at i1 i2
    unfold a_wlF
    refine ⟨i1.up (by simp), fun v h1 h2 => ?_⟩
    by_cases e : v = k + m
    · rw [e, zup_same, i1.at (p := 112) (by decide)]
    · rw [zup_i e]; exact i2 v h1 (by omega)
theorem a_dropped_of {a b : Nat → Nat → Int32} (h : zoff [112] a b) (v : Nat) : a_dropped b v = a_dropped a v := by
  have e : ∀ c, aS b c = aS a c := fun c => by unfold aS; rw [h.at (p := 101) (by decide)]
  have f : ∀ c k, aL b c k = aL a c k := fun c k => by unfold aL; rw [h.at (p := 101) (by decide)]
  unfold a_dropped
  rw [h.at (p := 106) (by decide), h.at (p := 107) (by decide), h.at (p := 100) (by decide), e]
  refine congrArg (fun z => _ && Option.isNone z) (zfind_congr (fun j _ _ => ?_))
  unfold a_drB
  rw [h.at (p := 107) (by decide), f, h.at (p := 106) (by decide), h.at (p := 114) (by decide)]
theorem a_tr_is (a : Nat → Nat → Int32) : ∀ m, zoff [112] a (zit a_trF 1 m a) ∧ (∀ v, 1 ≤ v → v ≤ m → zit a_trF 1 m a 112 v = if a 112 v = 0 then nI 0 else if a_dropped a v = true then nI 0 else nI 1) ∧ ∀ v, m < v → zit a_trF 1 m a 112 v = a 112 v
  | 0 => ⟨zoff.rf, fun v h1 h2 => by omega, fun v _ => rfl⟩
  | m + 1 => by
    obtain ⟨i1, i2, i3⟩ := a_tr_is a m
    rw [zit_succ]
    generalize zit a_trF 1 m a = b at i1 i2 i3
    unfold a_trF
    refine ⟨i1.up (by simp), fun v h1 h2 => ?_, fun v hv => ?_⟩
    · by_cases e : v = 1 + m
      · rw [e, zup_same, i3 (1 + m) (by omega), a_dropped_of i1]
      · rw [zup_i e]; exact i2 v h1 (by omega)
    · rw [zup_i (by omega)]; exact i3 v (by omega)
end CF
