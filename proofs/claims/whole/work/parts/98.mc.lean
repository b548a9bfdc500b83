/-! a conflict: what is learnt, scores, and the level to which both leap -/
section MC
variable {κ α : Nat → Nat → Int32} {T : Nat → Int32} {L : Nat → Nat} {R : Nat → Int32} {t w c : Nat}
theorem mc_an (h : zAn κ α T L R t w) : zAn (k_mc1 κ) α T L R t w := h.of (fun p hp => k_mc1_p (by omega) (by omega)) (fun i hi => k_mc1_i (.inr (by decide)) (by omega) (by omega))
theorem mc_V (hV : kV κ = aV α) : kV (k_mc1 κ) = aV α := by unfold kV; rw [k_mc1_i (.inl (by decide)) (by decide) (by decide)]; exact hV
theorem mc_9 (h9 : κ 3 9 = nI c) : k_mc1 κ 3 9 = nI c := (k_mc1_i (.inl (by decide)) (by decide) (by decide)).trans h9
theorem mc3_all (h : zAn κ α T L R t w) (hV : kV κ = aV α) (h9 : κ 3 9 = nI c) (hc : zCf α T L t w c) (hs : ∀ v, 1 ≤ v → v ≤ 30 → κ 21 v = α 101 (63 + v)) :
    rowL (k_mc3 κ) 73 (a_lst α c) ∧ (∀ u, 1 ≤ u → u ≤ 30 → k_mc3 κ 21 u = a_l9 α c 101 (63 + u)) ∧ kRv (k_resolve (k_mc1 κ)) ∧ resOK 31 (a_l2 α c) ∧ (∀ v, v < 31 → vp_nar .boolean (a_l3 α c 112 v) = a_l3 α c 112 v) ∧
    (∀ v, 1 ≤ v → v ≤ aV α → ¬ a_l3 α c 112 v = 0 → ¬ α 107 v = -1 → ∃ r, r < aN α ∧ α 107 v = nI r) ∧ a_cnt (a_l5 α c) = (a_lst α c).length ∧ zXL T L t w (a_lst α c) := by
  have h1 := mc_an h
  have hW := h.2.2.2.2.2.2.1
  obtain ⟨q1, q2, q3, -, ⟨n', q4⟩, q5, -, -, -⟩ := h1.learnt (mc_V hV) (mc_9 h9) hc
  have sh := h1.shape (mc_V hV) (mc_9 h9) hc
  have rs : ∀ v, 1 ≤ v → v ≤ 30 → kt (k_rs (k_mc1 κ)).1 v = true → (∃ i, i < t ∧ zv (T i) = v) := fun v a b e => by
    obtain ⟨i, i1, i2, -⟩ := q4.2.2.2.2.1 v a b e
    exact ⟨i, i1, i2⟩
  have e3 : k_mc2 κ 3 = k_resolve (k_mc1 κ) 3 := q2 3 (by decide) (by decide)
  have e15 : k_resolve (k_mc1 κ) 3 15 = (k_rs (k_mc1 κ)).1 := by
    unfold k_resolve k_ls
    rw [zup_i (by decide), zup_same]
  have e16 : k_mc2 κ 3 16 = (k_rs (k_mc1 κ)).2 := by
    rw [e3]; unfold k_resolve k_ls; rw [zup_same]
  have eV : kV (k_mc2 κ) = aV α := by
    unfold kV
    rw [show k_mc2 κ 10 = k_resolve (k_mc1 κ) 10 from q2 10 (by decide) (by decide), k_resolve_p (by decide)]
    exact mc_V hV
  have S := sc_all (κ := k_mc2 κ) (aV α) 1 (k_mc2 κ) (a_l8 α c) (Nat.le_refl _) (by have := hW.1.2; omega) (fun v a b => by
    rw [e16, a_l8_113]; exact q4.2.2.1.2 v a b) (fun u a b => by
    rw [show k_mc2 κ 21 = k_resolve (k_mc1 κ) 21 from q2 21 (by decide) (by decide), k_resolve_p (by decide), k_mc1_p (by decide) (by decide), a_l8_at (.inr ⟨rfl, by omega, by omega⟩)]
    exact hs u a b)
  have e : k_mc3 κ = zit (k_scF (k_mc2 κ)) 1 (aV α) (k_mc2 κ) := by unfold k_mc3 k_raise; rw [eV]
  refine ⟨?_, fun u a b => ?_, fun v a b e1 e2 => ?_, q3, fun v hv => ?_, fun v a b e1 e2 => ?_, q5, sh⟩
  · unfold rowL at q1 ⊢
    have q1 : k_mc2 κ 73 1 = nI (a_lst α c).length ∧ ∀ i, i < (a_lst α c).length → k_mc2 κ (73 + 1) i = (a_lst α c).getD i 0 := q1
    rw [e, S.2.1 73 (by decide), S.2.1 (73 + 1) (by decide)]; exact q1
  · rw [e]; exact S.1 u a b
  · have hb : v ≤ 30 := by
      have : kV (k_resolve (k_mc1 κ)) = aV α := by unfold kV; rw [k_resolve_p (by decide)]; exact mc_V hV
      rw [this] at b; have := hW.1.2; omega
    rw [e15] at e1
    obtain ⟨i, i1, i2⟩ := rs v a hb ((kt_niff _ a hb).mp e1)
    rw [k_resolve_p (by decide), k_mc1_p (by decide) (by decide)] at e2 ⊢
    rw [← i2, (h.2.1.2.1 i i1).2.2] at e2 ⊢
    rcases h.2.2.2.2.1 i i1 with x | ⟨r, r1, r2, -⟩
    · exact absurd x.1 e2
    · exact ⟨r, Nat.lt_of_lt_of_le r1 hW.2.1.2, r2⟩
  · rcases q4.2.2.2.1 v hv with x | x <;> rw [x] <;> decide
  · have hb : v ≤ 30 := by have := hW.1.2; omega
    obtain ⟨i, i1, i2⟩ := rs v a hb ((q4.2.1.2 v a hb).mpr e1)
    rw [← i2, (h.1.2.1 i i1).2.2.1] at e2 ⊢
    rcases h.2.2.2.2.1 i i1 with x | ⟨r, r1, r2, -⟩
    · exact absurd x.1 e2
    · exact ⟨r, r1, r2⟩
/-- the level of the leap -/
theorem leap_lv (h : zAn κ α T L R t w) (hV : kV κ = aV α) (h9 : κ 3 9 = nI c) (hc : zCf α T L t w c) (hs : ∀ v, 1 ≤ v → v ≤ 30 → κ 21 v = α 101 (63 + v)) (hN : aN α < 400) (hL : aLn α ≤ 400) :
    ∃ b, b < w ∧ k_leapT (k_mc3 κ) = nI b ∧ (if 1 < a_cnt (a_l5 α c) then a_l9 α c 106 (zv (a_l9 α c 101 (1326 + 30 * aN α + 1))) else nI 0) = nI b ∧ ∀ k, 0 < k → k < (a_lst α c).length → ∃ i, i < t ∧ (a_lst α c).getD k 0 = -(T i) ∧ L i ≤ b := by
  obtain ⟨q1, -, -, -, -, -, q5, ⟨⟨s1, s2⟩, s3, s4⟩⟩ := mc3_all h hV h9 hc hs
  have hW := h.2.2.2.2.2.2.1
  have h1w := h.2.2.2.2.2.2.2
  have hw30 := h.w30
  unfold k_leapT
  rw [q5, q1.1]
  by_cases e : 1 < (a_lst α c).length
  · obtain ⟨i, i1, i2, i3, -, i5⟩ := s3 1 e
    have lv := h.lv i1
    rw [if_pos e, if_neg (fun x => by have := (nI_leI (by omega) (by omega)).mp x; omega)]
    refine ⟨L i, i5 (by decide), ?_, ?_, fun k k0 k1 => ?_⟩
    · rw [show k_mc3 κ 74 1 = _ from q1.2 1 e, i2, (a_tr_neg (hw30.2.1 i i1)).2.1, k_mc3_p (by decide) (by decide) (by decide) (by decide) (by decide)]
      exact (h.2.1.2.1 i i1).2.1
    · rw [a_l9_lit hW.1.2 hL 1 e, i2, (a_tr_neg (hw30.2.1 i i1)).2.1, a_l9_fr hW.1.2 (by unfold l9W; omega)]
      exact (h.1.2.1 i i1).2.1
    · by_cases e1 : k = 1
      · subst e1; exact ⟨i, i1, i2, Nat.le_refl _⟩
      · obtain ⟨j, j1, j2, -⟩ := s3 k k1
        exact ⟨j, j1, j2, (s4 1 k i j (by omega) k1 i1 j1 i2 j2).2⟩
  · rw [if_neg e, if_pos (nI_le (by omega) (by omega))]
    exact ⟨0, by omega, rfl, rfl, fun k k0 k1 => by omega⟩
end MC
