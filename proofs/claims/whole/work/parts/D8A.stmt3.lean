/-! statements, both alike: a clause; any -/
section SV
variable {b κ κ' α α' : Nat → Nat → Int32} {τ τ' : (Nat → Nat → Int64) × (Nat → Nat)} {m j : Nat} {d : Bool}
theorem full_eq (h5 : κ 6 5 = α 101 2) (h6 : κ 6 6 = α 101 1) : k_full κ = a_full α := by
  unfold k_full a_full
  rw [h5, h6, Bool.not_and]
  congr 1
  · by_cases e : α 101 2 < nI 80
    · rw [decide_eq_true e, decide_eq_false (Int32.not_le.mpr e)]; rfl
    · rw [decide_eq_false e, decide_eq_true (Int32.not_lt.mp e)]; rfl
  · by_cases e : α 101 1 < nI 400
    · rw [decide_eq_true e, decide_eq_false (Int32.not_le.mpr e)]; rfl
    · rw [decide_eq_false e, decide_eq_true (Int32.not_lt.mp e)]; rfl
theorem clause_sim (h : rdR b κ α m j) (hs : rdS d κ α τ) (n2 : ¬ κ 5 7 = -2) : stE b d m j (k_cls κ τ) (a_clT α) := by
  have h30 := h.2.2.1.2.2
  have fe : k_full κ = a_full α := full_eq hs.2.2.1 hs.2.2.2.1
  unfold a_clT k_cls k_rR
  rw [if_neg n2, fe]
  have ke : ∀ p i, ¬ p = 80 → k_emp κ 80 p i = κ p i := fun p i x => by unfold k_emp; rw [zup_p x, zup_p x]
  have R0 : rdR b (k_emp κ 80) (a_clTold α) m j := h.of (fun i _ => ke 5 i (by decide)) (fun p i x => ke p i (by omega)) (clTold_p (by decide)) (clTold_p (by decide)) (fun i => clTold_p (by decide)) (by rw [clTold_p (by decide), show aV (a_clTold α) = aV α from by unfold aV; rw [clTold_p (by decide)]]; exact h30)
  have S := row_sim (must := true) (full := a_full α) 9 0 (k_emp κ 80) (a_clTold α) j rfl R0 ((clTold_p (by decide)).trans hs.2.2.2.2.2.1) (by rw [ke 6 4 (by decide), clTold_p (by decide)]; exact hs.2.1) rowR.start (fun _ _ => by rw [ke 5 7 (by decide)]; exact n2)
  rw [show (9 + 1 : Nat) = 10 from rfl] at S
  generalize k_rrL (a_full α) 9 (k_emp κ 80) = X at S
  generalize a_roL true (a_full α) 10 0 (a_clTold α) = Y at S
  obtain ⟨x, κ2⟩ := X
  obtain ⟨D, β⟩ := Y
  rcases S with ⟨f1, f2, f3⟩ | ⟨s1, s2, ⟨j1, jj, s3⟩, s4, s5, -, sD, sf, s6, s7⟩
  · left
    have f1 : x = false := f1
    subst f1
    rw [if_neg f3, if_neg (show ¬ (false = true) by decide)]
    exact ⟨rfl, f2, f3⟩
  · have s1 : x = true := s1
    subst s1
    have s2 : κ2 5 7 = -2 := s2
    have s3 : rdR b κ2 β m j1 := s3
    have s4 : β 100 25 = 0 := s4
    have s5 : rowR κ2 β D := s5
    have sD : 1 ≤ D := sD rfl
    have sf : a_full α = false := sf sD
    have s6 : ∀ p i, ¬ (p = 5 ∧ (i = 4 ∨ i = 7)) → ¬ p = 80 → ¬ p = 81 → κ2 p i = κ p i := fun p i a c e => (s6 p i a c e).trans (ke p i c)
    have s7 : ∀ p i, ¬ (p = 100 ∧ i = 24) → ¬ p = 126 → ¬ p = 127 → β p i = α p i := fun p i a c e => (s7 p i a c e).trans (clTold_p c)
    obtain ⟨r1, r2, r3, r4, r5, r6⟩ := s5
    obtain ⟨h1, h2, h3, h4, h5, h6, h7, h8⟩ := hs
    have eV : aV β = aV α := by unfold aV; rw [s7 101 0 (by omega) (by omega) (by omega)]
    obtain ⟨n8, n81, n82⟩ := h7.2.2
    have h74 := h7.2.1
    have sf2 : n8 < 80 ∧ aN α < 400 := by
      unfold a_full at sf
      rw [Bool.not_eq_false', Bool.and_eq_true, decide_eq_true_eq, decide_eq_true_eq, h7.1, n82] at sf
      exact ⟨(nI_ltI (by omega) (by decide)).mp sf.1, (nI_ltI (by omega) (by decide)).mp sf.2⟩
    have hN : aN α < 400 := sf2.2
    have t81 : t8 (α 101 2 + nI 1) := ⟨n8 + 1, by omega, by rw [n82, nI_add]⟩
    rw [if_pos (show (true, κ2).1 = true from rfl)]
    show stE b d m j (true, if κ 6 3 = 0 then (k_cl1 κ2, τ) else k_cl2 (k_cl1 κ2) τ) (if a_endS β 100 25 = 0 then zit (a_cpF (1326 + 30 * aN α)) 0 D (a_begins (a_endS β) (nI 0) (nI D)) else a_endS β)
    have c1 : ∀ p i, ¬ p = 6 → k_cl1 κ2 p i = κ2 p i := fun p i x => by rw [k_cl1_p x]
    have c13 : k_cl1 κ2 6 3 = κ 6 3 := (k_cl1_i (by decide) (by decide)).trans (s6 6 3 (by omega) (by omega) (by omega))
    have c14 : k_cl1 κ2 6 4 = κ 6 4 := (k_cl1_i (by decide) (by decide)).trans (s6 6 4 (by omega) (by omega) (by omega))
    have c15 : k_cl1 κ2 6 5 = κ 6 5 + nI 1 := by unfold k_cl1; rw [zup_i (by decide), zup_same, s6 6 5 (by omega) (by omega) (by omega)]
    have c16 : k_cl1 κ2 6 6 = κ 6 6 + nI 1 := by unfold k_cl1; rw [zup_same, s6 6 6 (by omega) (by omega) (by omega)]
    have cT : k_rT (k_cl1 κ2) = D := by unfold k_rT; rw [c1 80 1 (by decide), r2]; exact nI_clamp (by omega)
    have c81 : ∀ i, k_cl1 κ2 81 i = κ2 81 i := fun i => c1 81 i (by decide)
    generalize k_cl1 κ2 = κ3 at c1 c13 c14 c15 c16 cT c81
    have c2 : ∀ p i, ¬ (p = 5 ∧ (i = 4 ∨ i = 7)) → ¬ p = 80 → ¬ p = 81 → ¬ p = 6 → κ3 p i = κ p i := fun p i a c e f => (c1 p i f).trans (s6 p i a c e)
    have P0 : rdR b κ3 β m j1 := s3.of (fun i _ => c1 5 i (by decide)) (fun p i x => c1 p i (by omega)) rfl rfl (fun _ => rfl) s3.2.2.1.2.2
    rcases P0.endS s4 with ⟨-, x2, x3, x4⟩ | ⟨x1, -⟩
    · rw [if_pos x3]
      -- the reference's store
      obtain ⟨q1, q2⟩ := cpF_is (B := 1326 + 30 * aN α) D (a_begins (a_endS β) (nI 0) (nI D))
      have eNb : aN (a_endS β) = aN α := by unfold aN; rw [a_endS_at (.inl (by decide)), s7 101 1 (by omega) (by omega) (by omega)]
      have bg : ∀ p i, ¬ (p = 101 ∧ (i = 1 ∨ i = 2 ∨ i = 125 + aN α ∨ i = 525 + aN α)) → a_begins (a_endS β) (nI 0) (nI D) p i = a_endS β p i := fun p i x => by
        unfold a_begins; rw [eNb]
        exact (((if_neg (by omega)).trans (if_neg (by omega))).trans (if_neg (by omega))).trans (if_neg (by omega))
      have w1 : a_begins (a_endS β) (nI 0) (nI D) 101 1 = nI (aN α + 1) := by unfold a_begins; rw [zup_i (by decide), zup_same, eNb]
      have w2 : a_begins (a_endS β) (nI 0) (nI D) 101 2 = α 101 2 + nI 1 := by unfold a_begins; rw [zup_same, if_pos (by decide), a_endS_at (.inl (by decide)), s7 101 2 (by omega) (by omega) (by omega)]
      have w3 : a_begins (a_endS β) (nI 0) (nI D) 101 (125 + aN α) = nI D := by unfold a_begins; rw [eNb, zup_i (by omega), zup_i (by omega), zup_same]
      have w4 : a_begins (a_endS β) (nI 0) (nI D) 101 (525 + aN α) = 0 := by unfold a_begins; rw [eNb, zup_i (by omega), zup_i (by omega), zup_i (by omega), zup_same]; rfl
      generalize a_begins (a_endS β) (nI 0) (nI D) = δ at *
      generalize zit (a_cpF (1326 + 30 * aN α)) 0 D δ = γ at q1 q2
      have v1 := (q2 101 1 (by omega)).trans w1
      have v2 := (q2 101 2 (by omega)).trans w2
      have v3 := (q2 101 (125 + aN α) (by omega)).trans w3
      have v4 := (q2 101 (525 + aN α) (by omega)).trans w4
      have vk : ∀ k, k < D → γ 101 (1326 + 30 * aN α + k) = β 127 k := fun k hk => by rw [q1 k hk, bg 127 k (by omega)]; exact a_endS_at (.inl (by decide))
      have ve : ∀ p i, ¬ (p = 101 ∧ (i = 1 ∨ i = 2 ∨ i = 125 + aN α ∨ i = 525 + aN α)) → ¬ (p = 101 ∧ 1326 + 30 * aN α ≤ i ∧ i < 1326 + 30 * aN α + D) → γ p i = a_endS β p i := fun p i x y => (q2 p i (by omega)).trans (bg p i x)
      have va : ∀ i, ¬ i = 1 → ¬ i = 2 → ¬ i = 125 + aN α → ¬ i = 525 + aN α → ¬ (1326 + 30 * aN α ≤ i ∧ i < 1326 + 30 * aN α + 30) → γ 101 i = α 101 i := fun i y1 y2 y3 y4 y5 => (ve 101 i (by omega) (by omega)).trans ((a_endS_at (.inl (by decide))).trans (s7 101 i (by omega) (by omega) (by omega)))
      have eVg : aV γ = aV α := by unfold aV; rw [va 0 (by omega) (by omega) (by omega) (by omega) (by omega)]
      have eNg : aN γ = aN α + 1 := by unfold aN at *; rw [v1]; exact nI_clamp (by omega)
      -- the class's store
      have K : ∃ κ4 τ4, (if κ 6 3 = 0 then (κ3, τ) else k_cl2 κ3 τ) = (κ4, τ4) ∧ (∀ p i, ¬ (11 ≤ p ∧ p ≤ 16) → κ4 p i = κ3 p i) ∧ (d = true → stR κ4 γ τ4) := by
        cases d with
        | false => exact ⟨κ3, τ, if_pos (by rw [h1]; rfl), fun _ _ _ => rfl, fun x => absurd x (by decide)⟩
        | true =>
          have s := (h8 rfl).of (κ' := κ3) (α' := α) (τ' := τ) (fun p a c => funext fun i => c2 p i (by omega) (by omega) (by omega) (by omega)) (fun _ _ => rfl) rfl
          have en : kN κ3 = aN α := s.1.1.1.n
          obtain ⟨t1, t2⟩ := s.told (p := 80) (m := D) (g := fun k => β 127 k) (α' := γ) (by decide) hN (by omega) (fun i hi => (c81 i).trans (r3 i hi).1) (fun i hi => by rw [← eV]; exact (r3 i hi).2) r6 v1 v2 v3 v4 vk va
          refine ⟨_, _, ?_, fun p i x => by rw [t2 p x], fun _ => t1⟩
          rw [if_neg (by rw [h1]; decide)]
          unfold k_cl2
          rw [en, cT, if_pos hN]
      obtain ⟨κ4, τ4, k1, k2, k3⟩ := K
      rw [k1]
      have P1 : rdR b κ4 β m j1 := P0.of (fun i _ => k2 5 i (by decide)) (fun p i x => k2 p i (by omega)) rfl rfl (fun _ => rfl) P0.2.2.1.2.2
      rcases P1.endS s4 with ⟨-, -, -, y4⟩ | ⟨x1, -⟩
      · refine .inr ⟨rfl, ⟨j1 + 1, by omega, y4.of (fun _ _ => rfl) (fun _ _ _ => rfl) (ve _ _ (by omega) (by omega)) (ve _ _ (by omega) (by omega)) (fun i => ve _ _ (by omega) (by omega)) ?_⟩, rdS.adv ?_ P1.1 x2⟩
        · rw [eVg, va 0 (by omega) (by omega) (by omega) (by omega) (by omega)]; exact h30
        · refine ⟨?_, ?_, ?_, ?_, ?_, (ve 100 25 (by omega) (by omega)).trans x3, ⟨by rw [eNg]; exact v1, by omega, by rw [v2]; exact t81⟩, k3⟩
          · show κ4 6 3 = _; rw [k2 6 3 (by omega), c13]; exact h1
          · show κ4 6 4 = _; rw [k2 6 4 (by omega), c14, va 0 (by omega) (by omega) (by omega) (by omega) (by omega)]; exact h2
          · show κ4 6 5 = _; rw [k2 6 5 (by omega), c15, v2, h3]
          · show κ4 6 6 = _; rw [k2 6 6 (by omega), c16, v1, h4, h7.1, nI_add]
          · show κ4 5 6 = _; rw [k2 5 6 (by omega), c2 5 6 (by omega) (by omega) (by omega) (by omega)]; exact h5
      · exact absurd ((k2 5 7 (by omega)).trans ((c1 5 7 (by decide)).trans s2)) x1
    · exact absurd ((c1 5 7 (by decide)).trans s2) x1
theorem isl_tok (h : rdR b κ α m j) (hi : a_isl α = true) : ¬ κ 5 7 = -2 ∧ ¬ κ 5 7 = -3 ∧ ¬ κ 5 7 = -4 ∧ ¬ κ 5 7 = -5 := by
  unfold a_isl at hi
  rw [Bool.or_eq_true, decide_eq_true_eq] at hi
  rcases hi with x | x
  · rw [h.chr.1.mp x]; decide
  · have n7 : ¬ κ 5 7 = -7 := fun y => by rw [h.chr.2.2.1.mpr y] at x; exact absurd x (by decide)
    obtain ⟨lt, e⟩ := h.1.tok.1 (h.lt n7)
    have hd : k_dg b (tkP b j) = true := by rw [← (h.2.1.chr h.2.2.2 lt).2.1]; exact x
    rw [e]
    by_cases h2 : k_eot b (tkP b j) - tkP b j ≤ 2
    · obtain ⟨n, n1, n2⟩ := tok_dig lt hd h2
      have T := (neg_tab n (by omega)).2.2.2
      rw [n2]
      exact ⟨fun y => T (by rw [y]; decide), fun y => T (by rw [y]; decide), fun y => T (by rw [y]; decide), fun y => T (by rw [y]; decide)⟩
    · have : k_tokOf b (tkP b j) (k_eot b (tkP b j)) = -6 := by unfold k_tokOf; rw [if_pos hd, if_neg (by omega), if_neg (by omega)]
      rw [this]; decide
theorem stm_sim (h : rdR b κ α m j) (hs : rdS d κ α τ) (h7 : ¬ κ 5 7 = -7) : stmtOK α ∧ stE b d m j (k_stm κ τ) (a_stmt α) := by
  have hj := h.lt h7
  have h0 := hs.2.2.2.2.2.1
  have hN := hs.2.2.2.2.2.2.1
  unfold k_stm a_stmt
  cases hi : a_isl α with
  | true =>
    obtain ⟨i2, i3, i4, i5⟩ := isl_tok h hi
    rw [if_neg i3, if_neg i4, if_neg i5, if_pos rfl]
    refine ⟨⟨h.2.2.1, hN.1, hN.2.1, fun x => absurd (hi.symm.trans x) (by decide)⟩, ?_⟩
    exact clause_sim h.here (hs.of (fun _ _ _ => rfl) (fun i => a_here_at (.inl (by decide))) (a_here_at (.inr (by decide)))) i2
  | false =>
    obtain ⟨w0, w1, w2, w3⟩ := h.word hj hi
    have sA : rdS d (k_adv κ) (a_wst α) τ := (hs.adv h.1 hj).of (fun _ _ _ => rfl) (fun i => (zup_p (by decide)).trans (a_here_at (.inl (by decide)))) ((zup_i (by decide)).trans (a_here_at (.inr (by decide))))
    have up : ∀ X γ, stE b d m (j + 1) X γ → stE b d m j X γ := fun X γ x => by
      rcases x with x | ⟨x1, ⟨j', x2, x3⟩, x4⟩
      · exact .inl x
      · exact .inr ⟨x1, ⟨j', by omega, x3⟩, x4⟩
    rw [if_neg (show ¬ (false = true) by decide)]
    have ok : (κ 5 7 = -5 → phOK 500 true (a_wst α)) → stmtOK α := fun x => ⟨h.2.2.1, hN.1, hN.2.1, fun _ y => x (w2.mp y)⟩
    by_cases e3 : κ 5 7 = -3
    · rw [if_pos e3, if_pos (w0.mpr e3)]
      exact ⟨ok (fun x => by rw [e3] at x; exact absurd x (by decide)), up _ _ (grow_sim (w3 (.inl e3)) sA)⟩
    · rw [if_neg e3, if_neg (fun x => e3 (w0.mp x))]
      by_cases e4 : κ 5 7 = -4
      · rw [if_pos e4, if_pos (w1.mpr e4)]
        exact ⟨ok (fun x => by rw [e4] at x; exact absurd x (by decide)), up _ _ (assume_sim (w3 (.inr (.inl e4))) sA (adv_at h.1 hj (by omega)))⟩
      · rw [if_neg e4, if_neg (fun x => e4 (w1.mp x))]
        by_cases e5 : κ 5 7 = -5
        · obtain ⟨p1, p2⟩ := phase_sim (w3 (.inr (.inr e5))) sA (by omega)
          rw [if_pos e5, if_pos (w2.mpr e5)]
          exact ⟨ok (fun _ => p1), up _ _ p2⟩
        · rw [if_neg e5, if_neg (fun x => e5 (w2.mp x))]
          refine ⟨ok (fun x => absurd x e5), .inl ?_⟩
          have z : a_wst α 100 25 = 0 := sA.2.2.2.2.2.1
          have ef : a_fails (a_wst α) (nI 1) (nI (a_hp α)) 100 25 = nI 1 + nI 8 * nI (tkP b j) := by unfold a_fails; rw [if_pos z, zup_same, h.2.2.2]
          have ek : (k_cls κ τ).1 = false ∧ (k_cls κ τ).2.1 5 6 = nI 1 + nI 8 * nI (tkP b j) := by
            unfold k_cls
            by_cases e2 : κ 5 7 = -2
            · rw [if_pos e2]; exact ⟨rfl, h.ref _⟩
            · have ke : ∀ p i, ¬ p = 80 → k_emp κ 80 p i = κ p i := fun p i x => by unfold k_emp; rw [zup_p x, zup_p x]
              have R0 : rdR b (k_emp κ 80) α m j := h.of (fun i _ => ke 5 i (by decide)) (fun p i x => ke p i (by omega)) rfl rfl (fun _ => rfl) h.2.2.1.2.2
              have er : k_rR κ (k_full κ) = (false, k_ref (k_emp κ 80) (nI 1)) := by
                unfold k_rR
                show (if k_emp κ 80 5 7 = -2 then _ else _) = _
                rw [if_neg (by rw [ke 5 7 (by decide)]; exact e2), rl_wrong R0 hi]; exact if_pos rfl
              rw [if_neg e2, er, if_neg (show ¬ (false = true) by decide)]
              exact ⟨rfl, R0.ref _⟩
          rw [ef]
          exact ⟨ek.1, ek.2, (flt_tab _ h.pl).1⟩
end SV
