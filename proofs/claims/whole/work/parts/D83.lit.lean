/-! reading goes on, both alike -/
section LI
variable {b κ κ' α α' : Nat → Nat → Int32} {m j : Nat}
theorem hp_idem (h : aWT α) : a_hp (a_here α) = a_hp α := by
  have r := zspan_rng (a_blank α) (aLen α - aPl α) (aPl α)
  have eB : a_blank (a_here α) = a_blank α := funext fun i => by unfold a_blank; rw [a_here_at (.inl (by decide))]
  show zspan (a_blank (a_here α)) (aLen (a_here α) - aPl (a_here α)) (aPl (a_here α)) = a_hp α
  rw [eB, aLen_here, aPl_here h]
  have eh : a_hp α = zspan (a_blank α) (aLen α - aPl α) (aPl α) := rfl
  rw [← eh] at r
  by_cases lt : a_hp α < aLen α
  · rw [show aLen α - a_hp α = (aLen α - a_hp α - 1) + 1 from by omega]
    show (bif a_blank α (a_hp α) then _ else a_hp α) = a_hp α
    rw [r.2.2.2 (by omega)]; rfl
  · rw [show aLen α - a_hp α = 0 from by omega]; rfl
theorem txE.of (h : txE b α) (e : α' 100 23 = α 100 23) (e1 : ∀ i, α' 121 i = α 121 i) : txE b α' := by
  obtain ⟨x, y, z⟩ := h
  refine ⟨x, ?_, fun i hi => by rw [e1]; exact z i hi⟩
  unfold aLen at *; rw [e]; exact y
/-- both stand at token j of a text -/
def rdR (b κ α : Nat → Nat → Int32) (m j : Nat) : Prop := tkN b κ m j ∧ txE b α ∧ aWR α ∧ a_hp α = tkP b j
theorem rdR.here (h : rdR b κ α m j) : rdR b κ (a_here α) m j :=
  ⟨h.1, h.2.1.of (a_here_at (.inr (by decide))) (fun i => a_here_at (.inl (by decide))), h.2.2.1.here, (hp_idem h.2.2.1.1).trans h.2.2.2⟩
theorem rdR.of (h : rdR b κ α m j) (k5 : ∀ i, i = 3 ∨ i = 4 ∨ i = 7 → κ' 5 i = κ 5 i) (k7 : ∀ p i, p = 78 ∨ p = 79 → κ' p i = κ p i) (a1 : α' 100 23 = α 100 23) (a2 : α' 100 24 = α 100 24) (a3 : ∀ i, α' 121 i = α 121 i) (a4 : α' 101 0 = nI (aV α') ∧ aV α' ≤ 30) : rdR b κ' α' m j := by
  obtain ⟨⟨s, s1, s2, s3⟩, t, ⟨w, w1, -⟩, hp⟩ := h
  have eP : aPl α' = aPl α := by unfold aPl; rw [a2]
  have eL : aLen α' = aLen α := by unfold aLen; rw [a1]
  have eB : a_blank α' = a_blank α := funext fun i => by unfold a_blank; rw [a3]
  refine ⟨⟨s.of (k5 3 (by omega)) (funext fun i => k7 78 i (by omega)) (funext fun i => k7 79 i (by omega)), s1, (k5 4 (by omega)).trans s2, ?_⟩, t.of a1 a3, ⟨?_, by rw [eP]; exact w1, a4⟩, ?_⟩
  · rw [k5 7 (by omega), k7 78 j (by omega)]; exact s3
  · unfold aWT; rw [eP, eL, a1, a2]; exact w
  · unfold a_hp; rw [eB, eL, eP]; exact hp
theorem rdR.adv (h : rdR b κ α m j) (hj : j < m) : rdR b (k_adv κ) (zup α 100 24 (nI (k_eot b (tkP b j)))) m (j + 1) := by
  obtain ⟨h1, h2, h3, h4⟩ := h
  obtain ⟨lt, -⟩ := h1.tok.1 hj
  have er := eot_rng lt
  have hL := h2.1
  have t2 : txE b (zup α 100 24 (nI (k_eot b (tkP b j)))) := h2.of (zup_i (by decide)) (fun i => zup_p (by decide))
  have eV : aV (zup α 100 24 (nI (k_eot b (tkP b j)))) = aV α := by unfold aV; rw [zup_p (by decide)]
  refine ⟨(h1.adv hj).2, t2, ⟨h3.1.to (by omega), by rw [aPl_at (by omega)]; omega, ?_, by rw [eV]; exact h3.2.2.2⟩, t2.next lt (aPl_at (by omega))⟩
  rw [eV, zup_p (by decide)]; exact h3.2.2.1
/-- what stands at a token -/
theorem rdR.chr (h : rdR b κ α m j) : (a_chr α = nI 45 ↔ κ 5 7 = -1) ∧ (a_chr α = nI 59 ↔ κ 5 7 = -2) ∧ (a_chr α = -1 ↔ κ 5 7 = -7) ∧ (a_dig (a_chr α) = false → κ 5 7 < 0) := by
  obtain ⟨h1, h2, h3, h4⟩ := h
  rcases Nat.lt_or_ge j m with hj | hj
  · obtain ⟨lt, e⟩ := h1.tok.1 hj
    have C := h2.chr h4 lt
    have T := tok_kind lt
    rw [e]
    exact ⟨(C.1 45 (by decide)).trans T.1.symm, (C.1 59 (by decide)).trans T.2.1.symm, ⟨fun x => absurd x C.2.2, fun x => absurd x T.2.2.1⟩, fun x => T.2.2.2.mpr (fun y => by rw [C.2.1, y.1] at x; exact absurd x (by decide))⟩
  · have e : j = m := by have := h1.2.1; omega
    obtain ⟨lt, e7⟩ := h1.tok.2 e
    rw [e7, h2.end (h4.trans lt)]
    exact ⟨⟨fun x => absurd x (by decide), fun x => absurd x (by decide)⟩, ⟨fun x => absurd x (by decide), fun x => absurd x (by decide)⟩, ⟨fun _ => rfl, fun _ => rfl⟩, fun _ => by decide⟩
theorem rdR.lt (h : rdR b κ α m j) (hn : ¬ κ 5 7 = -7) : j < m := by
  rcases Nat.lt_or_ge j m with hj | hj
  · exact hj
  · exact absurd (h.1.tok.2 (by have := h.1.2.1; omega)).2 hn
theorem flt_tab : ∀ p < 401, ¬ nI 1 + nI 8 * nI p = 0 ∧ ¬ nI 2 + nI 8 * nI p = 0 ∧ ¬ nI 3 + nI 8 * nI p = 0 := by decide +kernel
theorem rdR.pl (h : rdR b κ α m j) : tkP b j < 401 := by
  have hL := h.2.1.1
  rcases Nat.lt_or_ge j m with hj | hj
  · have := (h.1.tok.1 hj).1; omega
  · have := (h.1.tok.2 (by have := h.1.2.1; omega)).1; omega
theorem rdR.ref (h : rdR b κ α m j) (k : Int32) : k_ref κ k 5 6 = k + nI 8 * nI (tkP b j) := by
  unfold k_ref; rw [zup_same, h.1.pl]
/-- a number -/
theorem rdR.num (h : rdR b κ α m j) (h0 : α 100 25 = 0) : (κ 5 7 < 0 ∧ a_number α 100 25 = nI 1 + nI 8 * nI (tkP b j)) ∨ (¬ κ 5 7 < 0 ∧ j < m ∧ κ 5 7 = nI (a_nv α) ∧ a_nv α ≤ 99 ∧ a_number α = zup α 100 24 (nI (k_eot b (tkP b j)))) := by
  obtain ⟨h1, h2, h3, h4⟩ := h
  rcases Nat.lt_or_ge j m with hj | hj
  · obtain ⟨lt, e⟩ := h1.tok.1 hj
    have T := (tok_kind lt).2.2.2
    rw [e]
    by_cases x : k_dg b (tkP b j) = true ∧ k_eot b (tkP b j) - tkP b j ≤ 2
    · right
      have nv := h2.nv h4 lt x.1 x.2
      exact ⟨fun y => (T.mp y) x, hj, nv, a_nv_99 α, h2.num h4 lt x.1 x.2⟩
    · left
      exact ⟨T.mpr x, h2.numF h4 (by omega) h0 (fun y => x y.2)⟩
  · have e : j = m := by have := h1.2.1; omega
    obtain ⟨lt, e7⟩ := h1.tok.2 e
    left
    exact ⟨by rw [e7]; decide, h2.numF h4 (by omega) h0 (fun y => by omega)⟩
end LI
