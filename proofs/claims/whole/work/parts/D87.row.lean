/-! a row of literals, both alike -/
section RW
variable {b κ κ' α α' : Nat → Nat → Int32} {m j : Nat}
/-- the row so far: n literals -/
def rowR (κ α : Nat → Nat → Int32) (n : Nat) : Prop := n ≤ 8 ∧ κ 80 1 = nI n ∧ (∀ k, k < n → κ 81 k = α 127 k ∧ lok (aV α) (α 127 k)) ∧ (∀ v, 1 ≤ v → v ≤ 30 → (¬ α 126 v = 0 ↔ kt (κ 80 2) v = true)) ∧ (∀ v, 1 ≤ v → v ≤ 30 → (¬ α 126 v = 0 ↔ ∃ k, k < n ∧ zv (α 127 k) = v)) ∧ ∀ x y, x < y → y < n → ¬ zv (α 127 x) = zv (α 127 y)
theorem rowR.of {n : Nat} (h : rowR κ α n) (k0 : ∀ p i, p = 80 ∨ p = 81 → κ' p i = κ p i) (a0 : ∀ p i, p = 126 ∨ p = 127 → α' p i = α p i) (eV : aV α' = aV α) : rowR κ' α' n := by
  obtain ⟨h1, h2, h3, h4, h5, h6⟩ := h
  refine ⟨h1, (k0 80 1 (by omega)).trans h2, fun k hk => ?_, fun v v1 v2 => ?_, fun v v1 v2 => ?_, fun x y hx hy => ?_⟩
  · rw [k0 81 k (by omega), a0 127 k (by omega), eV]; exact h3 k hk
  · rw [k0 80 2 (by omega), a0 126 v (by omega)]; exact h4 v v1 v2
  · rw [a0 126 v (by omega), h5 v v1 v2]
    exact ⟨fun ⟨k, x, y⟩ => ⟨k, x, by rw [a0 127 k (by omega)]; exact y⟩, fun ⟨k, x, y⟩ => ⟨k, x, by rw [a0 127 k (by omega)] at y; exact y⟩⟩
  · rw [a0 127 x (by omega), a0 127 y (by omega)]; exact h6 x y hx hy
theorem clT_is : ∀ m (β : Nat → Nat → Int32), (∀ v, v < m → zit (fun v a => zup a 126 v (nI 0)) 0 m β 126 v = nI 0) ∧ ∀ p i, ¬ p = 126 → zit (fun v a => zup a 126 v (nI 0)) 0 m β p i = β p i
  | 0, β => ⟨fun v hv => absurd hv (Nat.not_lt_zero _), fun _ _ _ => rfl⟩
  | m + 1, β => by
    obtain ⟨h1, h2⟩ := clT_is m β
    rw [zit_succ, Nat.zero_add]
    refine ⟨fun v hv => ?_, fun p i hp => (zup_p hp).trans (h2 p i hp)⟩
    by_cases e : v = m
    · subst e; exact zup_same _ _ _ _
    · exact (zup_i e).trans (h1 v (by omega))
theorem clTold_0 {v : Nat} (h : v < 31) : a_clTold α 126 v = nI 0 := (clT_is 31 α).1 v h
theorem clTold_p {p i : Nat} (h : ¬ p = 126) : a_clTold α p i = α p i := (clT_is 31 α).2 p i h
theorem rowR.start : rowR (k_emp κ 80) (a_clTold α) 0 := by
  refine ⟨by decide, ?_, fun k hk => absurd hk (Nat.not_lt_zero _), fun v v1 v2 => ?_, fun v v1 v2 => ?_, fun x y _ hy => absurd hy (Nat.not_lt_zero _)⟩
  · unfold k_emp; rw [zup_i (by decide), zup_same]
  · rw [clTold_0 (by omega)]
    unfold k_emp
    rw [zup_same, kt_n0]
    exact ⟨fun x => absurd rfl x, fun x => absurd x (by decide)⟩
  · rw [clTold_0 (by omega)]
    exact ⟨fun x => absurd rfl x, fun ⟨k, x, _⟩ => absurd x (Nat.not_lt_zero _)⟩
/-- one literal more -/
theorem rowR.more {n : Nat} {l : Int32} (h : rowR κ α n) (hn : n < 8) (hl : lok (aV α) l) (hV : aV α ≤ 30) (h0 : α 126 (zv l) = 0) (k0 : ∀ p i, p = 80 ∨ p = 81 → κ' p i = κ p i) (a0 : ∀ i, α' 126 i = if i = zv l then nI 1 else α 126 i) (a1 : ∀ i, α' 127 i = if i = n then l else α 127 i) (eV : aV α' = aV α) : rowR (k_put κ' 80 l) α' (n + 1) := by
  obtain ⟨h1, h2, h3, h4, h5, h6⟩ := h
  have l30 := hl.mono hV
  obtain ⟨u, u1, u2, eu, -⟩ := lok_two l30
  have ekb : kb l = kb (nI u) := by have := kb_lok l30 (Nat.le_refl _); rwa [eu] at this
  have c1 : (κ' 80 1).toNatClampNeg = n := by rw [k0 80 1 (by omega), h2]; exact nI_clamp (by omega)
  have p1 : k_put κ' 80 l 80 1 = nI (n + 1) := by unfold k_put; rw [zup_i (by decide), zup_same, k0 80 1 (by omega), h2, nI_add]
  have p2 : k_put κ' 80 l 80 2 = κ 80 2 ||| kb (nI u) := by unfold k_put; rw [zup_same, k0 80 2 (by omega), ekb]
  have p3 : ∀ i, k_put κ' 80 l 81 i = if i = n then l else κ 81 i := fun i => by
    unfold k_put
    rw [zup_p (by decide), zup_p (by decide), c1]
    by_cases e : i = n
    · subst e; rw [if_pos rfl]; exact zup_same _ _ _ _
    · rw [if_neg e]; exact (zup_i e).trans (k0 81 i (by omega))
  have fresh : ∀ k, k < n → ¬ zv (α 127 k) = zv l := fun k hk x => absurd h0 ((h5 (zv l) (by omega) (by omega)).mpr ⟨k, hk, x⟩)
  refine ⟨by omega, p1, fun k hk => ?_, fun v v1 v2 => ?_, fun v v1 v2 => ?_, fun x y hx hy => ?_⟩
  · rw [p3, a1, eV]
    by_cases e : k = n
    · rw [if_pos e, if_pos e]; exact ⟨rfl, hl⟩
    · rw [if_neg e, if_neg e]; exact h3 k (by omega)
  · rw [a0, p2, kt_or, kt_kb u1 u2 v1 v2, eu]
    by_cases e : v = u
    · subst e
      rw [if_pos rfl, decide_eq_true rfl, Bool.or_true]
      exact ⟨fun _ => rfl, fun _ => by decide⟩
    · rw [if_neg e, decide_eq_false (fun x => e x.symm), Bool.or_false]; exact h4 v v1 v2
  · rw [a0]
    by_cases e : v = zv l
    · rw [if_pos e]
      exact ⟨fun _ => ⟨n, by omega, by rw [a1, if_pos rfl]; exact e.symm⟩, fun _ => by decide⟩
    · rw [if_neg e, h5 v v1 v2]
      refine ⟨fun ⟨k, x, y⟩ => ⟨k, by omega, by rw [a1, if_neg (by omega)]; exact y⟩, fun ⟨k, x, y⟩ => ?_⟩
      rw [a1] at y
      by_cases e2 : k = n
      · rw [if_pos e2] at y; exact absurd y.symm e
      · rw [if_neg e2] at y; exact ⟨k, by omega, y⟩
  · rw [a1, a1, if_neg (show ¬ x = n by omega)]
    by_cases e : y = n
    · rw [if_pos e]; exact fresh x (by omega)
    · rw [if_neg e]; exact h6 x y hx (by omega)
theorem isl_t (h : rdR b κ α m j) : a_isl α = false → κ 5 7 < 0 ∧ ¬ κ 5 7 = -1 := fun x => by
  obtain ⟨i1, i2⟩ := isl_f x
  exact ⟨h.chr.2.2.2 i2, fun y => i1 (h.chr.1.mpr y)⟩
/-- a token that cannot stand -/
theorem rl_wrong (h : rdR b κ α m j) (hi : a_isl α = false) {V tk : Int32} {f : Bool} : k_rl κ V tk f = (nI 0, k_ref κ (nI 1)) := by
  obtain ⟨i1, i2⟩ := isl_t h hi
  have e1 : k_rl1 κ = κ := by unfold k_rl1; rw [if_neg i2]
  unfold k_rl
  rw [if_neg (fun x => i2 x.1), e1, if_pos i1]
theorem row_sim {must full : Bool} : ∀ c n κ α j, n + c = 9 → rdR b κ α m j → α 100 25 = 0 → κ 6 4 = α 101 0 → rowR κ α n → (must = true → n = 0 → ¬ κ 5 7 = -2) →
    ((k_rrL full c κ).1 = false ∧ (k_rrL full c κ).2 5 6 = a_endS (a_roL must full (c + 1) n α).2 100 25 ∧ ¬ a_endS (a_roL must full (c + 1) n α).2 100 25 = 0) ∨
    ((k_rrL full c κ).1 = true ∧ (k_rrL full c κ).2 5 7 = -2 ∧ (∃ j', j ≤ j' ∧ rdR b (k_rrL full c κ).2 (a_roL must full (c + 1) n α).2 m j') ∧ (a_roL must full (c + 1) n α).2 100 25 = 0 ∧ rowR (k_rrL full c κ).2 (a_roL must full (c + 1) n α).2 (a_roL must full (c + 1) n α).1 ∧ n ≤ (a_roL must full (c + 1) n α).1 ∧ (must = true → 1 ≤ (a_roL must full (c + 1) n α).1) ∧ (n < (a_roL must full (c + 1) n α).1 → full = false) ∧ (∀ p i, ¬ (p = 5 ∧ (i = 4 ∨ i = 7)) → ¬ p = 80 → ¬ p = 81 → (k_rrL full c κ).2 p i = κ p i) ∧ ∀ p i, ¬ (p = 100 ∧ i = 24) → ¬ p = 126 → ¬ p = 127 → (a_roL must full (c + 1) n α).2 p i = α p i)
  | 0, n, κ, α, j, hn, h, h0, hV, hr, hm => by have := hr.1; omega
  | c + 1, n, κ, α, j, hn, h, h0, hV, hr, hm => by
    have cn : (κ 80 1).toNatClampNeg = n := by rw [hr.2.1]; exact nI_clamp (by omega)
    have ef : (full || decide (8 ≤ (κ 80 1).toNatClampNeg)) = (full || Nat.beq n 8) := by
      rw [cn]
      refine congrArg _ ?_
      have := hr.1
      by_cases e : n = 8
      · subst e; rfl
      · rw [decide_eq_false (by omega)]
        cases x : Nat.beq n 8 with
        | false => rfl
        | true => exact absurd (Nat.eq_of_beq_eq_true x) e
    have V1 := h.2.2.1.2.2.1
    have V2 := h.2.2.1.2.2.2
    -- a literal is read
    have L : ∀ β, rdR b κ β m j → β 100 25 = 0 → (∀ p i, ¬ (p = 100 ∧ i = 24) → β p i = α p i) → ¬ κ 5 7 = -2 → a_roL must full (c + 1 + 1) n α = a_roL must full (c + 1) (n + 1) (a_ro1 β n (full || Nat.beq n 8)) →
        ((k_rrL full (c + 1) κ).1 = false ∧ (k_rrL full (c + 1) κ).2 5 6 = a_endS (a_roL must full (c + 1 + 1) n α).2 100 25 ∧ ¬ a_endS (a_roL must full (c + 1 + 1) n α).2 100 25 = 0) ∨
        ((k_rrL full (c + 1) κ).1 = true ∧ (k_rrL full (c + 1) κ).2 5 7 = -2 ∧ (∃ j', j ≤ j' ∧ rdR b (k_rrL full (c + 1) κ).2 (a_roL must full (c + 1 + 1) n α).2 m j') ∧ (a_roL must full (c + 1 + 1) n α).2 100 25 = 0 ∧ rowR (k_rrL full (c + 1) κ).2 (a_roL must full (c + 1 + 1) n α).2 (a_roL must full (c + 1 + 1) n α).1 ∧ n ≤ (a_roL must full (c + 1 + 1) n α).1 ∧ (must = true → 1 ≤ (a_roL must full (c + 1 + 1) n α).1) ∧ (n < (a_roL must full (c + 1 + 1) n α).1 → full = false) ∧ (∀ p i, ¬ (p = 5 ∧ (i = 4 ∨ i = 7)) → ¬ p = 80 → ¬ p = 81 → (k_rrL full (c + 1) κ).2 p i = κ p i) ∧ ∀ p i, ¬ (p = 100 ∧ i = 24) → ¬ p = 126 → ¬ p = 127 → (a_roL must full (c + 1 + 1) n α).2 p i = α p i) := by
      intro β hβ z eβ n2 er
      rw [er]
      have lit := hβ.lit z (u := true) (f := full || Nat.beq n 8) (tk := κ 80 2) (fun v v1 v2 => by rw [eβ 126 v (by omega)]; exact ⟨fun x => (hr.2.2.2.1 v v1 v2).mp x.2, fun x => ⟨rfl, (hr.2.2.2.1 v v1 v2).mpr x⟩⟩)
      have eVi : β 101 0 = κ 6 4 := (eβ 101 0 (by omega)).trans hV.symm
      rw [eVi] at lit
      have eV : aV β = aV α := by unfold aV; rw [eβ 101 0 (by omega)]
      have ek : k_rrL full (c + 1) κ = if (k_rl κ (κ 6 4) (κ 80 2) (full || Nat.beq n 8)).1 = 0 then (false, (k_rl κ (κ 6 4) (κ 80 2) (full || Nat.beq n 8)).2) else k_rrL full c (k_put (k_rl κ (κ 6 4) (κ 80 2) (full || Nat.beq n 8)).2 80 (k_rl κ (κ 6 4) (κ 80 2) (full || Nat.beq n 8)).1) := by
        rw [← ef]
        exact if_neg n2
      rw [ek]
      generalize k_rl κ (κ 6 4) (κ 80 2) (full || Nat.beq n 8) = R at lit
      rcases lit with ⟨f1, f2, f3⟩ | ⟨s1, s2, s3, s4, s5, s6, ⟨j1, jj, s7⟩, s8, s9⟩
      · left
        have e1 : a_ro1 β n (full || Nat.beq n 8) = a_lit β true (full || Nat.beq n 8) := by unfold a_ro1; rw [if_neg f3]
        rw [e1, if_pos f1]
        have e2 : a_roL must full (c + 1) (n + 1) (a_lit β true (full || Nat.beq n 8)) = (n + 1, a_lit β true (full || Nat.beq n 8)) := by
          show (if _ then _ else _) = _
          rw [if_neg f3]
        rw [e2, endS_st f3]
        exact ⟨rfl, f2, f3⟩
      · rw [if_neg s3]
        have e1 : a_ro1 β n (full || Nat.beq n 8) = zup (a_lit β true (full || Nat.beq n 8)) 127 n (a_litV β true (full || Nat.beq n 8)) := by unfold a_ro1; rw [if_pos s6]
        rw [e1, s2]
        rw [Bool.or_eq_false_iff] at s1
        have hn8 : ¬ n = 8 := fun x => by rw [x] at s1; exact absurd s1.2 (by decide)
        have n8 := hr.1
        generalize a_litV β true (full || Nat.beq n 8) = l at *
        generalize a_lit β true (full || Nat.beq n 8) = γ at *
        have g9 : ∀ p i, ¬ (p = 100 ∧ i = 24) → ¬ p = 127 → zup γ 127 n l p i = if p = 126 ∧ i = zv l then nI 1 else α p i := fun p i x y => by rw [zup_p y, s9 p i x, eβ p i x]
        have eV2 : aV (zup γ 127 n l) = aV α := by unfold aV; rw [g9 101 0 (by omega) (by omega), if_neg (by omega)]
        have pp : ∀ p i, ¬ p = 80 → ¬ p = 81 → k_put R.2 80 l p i = R.2 p i := fun p i x y => by unfold k_put; rw [zup_p x, zup_p x, zup_p y]
        have rr : rowR (k_put R.2 80 l) (zup γ 127 n l) (n + 1) := hr.more (by omega) (by rw [← eV]; exact s4) V2 (by rw [← eβ 126 _ (by omega)]; exact s5 rfl) (fun p i x => s8 p i (by omega)) (fun i => by
          rw [g9 126 i (by omega) (by omega)]
          by_cases e : i = zv l
          · rw [if_pos ⟨rfl, e⟩, if_pos e]
          · rw [if_neg (fun x => e x.2), if_neg e]) (fun i => by
          by_cases e : i = n
          · rw [e, zup_same, if_pos rfl]
          · rw [zup_i e, if_neg e, s9 127 i (by omega), if_neg (by omega), eβ 127 i (by omega)]) eV2
        have R2 : rdR b (k_put R.2 80 l) (zup γ 127 n l) m j1 := s7.of (fun i _ => pp 5 i (by decide) (by decide)) (fun p i x => pp p i (by omega) (by omega)) (zup_p (by decide)) (zup_p (by decide)) (fun i => zup_p (by decide)) (by rw [eV2, g9 101 0 (by omega) (by omega), if_neg (by omega)]; exact ⟨V1, V2⟩)
        have ih := row_sim (must := must) (full := full) c (n + 1) (k_put R.2 80 l) (zup γ 127 n l) j1 (by omega) R2 (by rw [zup_p (by decide)]; exact s6) (by rw [pp 6 4 (by decide) (by decide), s8 6 4 (by omega), g9 101 0 (by omega) (by omega), if_neg (by omega)]; exact hV) rr (fun _ x => absurd x (by omega))
        rcases ih with i | ⟨i1, i2, ⟨j2, jj2, i3⟩, i4, i5, i6, i7, i8, i9, i10⟩
        · exact .inl i
        · right
          refine ⟨i1, i2, ⟨j2, by omega, i3⟩, i4, i5, by omega, fun _ => by omega, fun _ => s1.1, fun p i x y w => ?_, fun p i x y w => ?_⟩
          · rw [i9 p i x y w, pp p i y w, s8 p i x]
          · rw [i10 p i x y w, g9 p i x w, if_neg (fun u => y u.1)]
    by_cases e2 : κ 5 7 = -2
    · right
      have ek : k_rrL full (c + 1) κ = (true, κ) := if_pos e2
      have nm : ¬ (must = true ∧ n = 0) := fun x => hm x.1 x.2 e2
      have ch : a_chr α = nI 59 := h.chr.2.1.mpr e2
      have isl : a_isl α = false := by unfold a_isl; rw [ch]; decide
      have ea : a_roL must full (c + 1 + 1) n α = (n, a_here α) := by
        show (if α 100 25 = 0 then (if must = true ∧ n = 0 then _ else (if a_isl α = true then _ else (n, a_here α))) else (n, α)) = _
        rw [if_pos h0, if_neg nm, if_neg (by rw [isl]; decide)]
      rw [ek, ea]
      refine ⟨rfl, e2, ⟨j, Nat.le_refl _, h.here⟩, (a_here_at (.inr (by decide))).trans h0, hr.of (fun _ _ _ => rfl) (fun p i x => a_here_at (.inl (by omega))) (by show aV (a_here α) = aV α; unfold aV; rw [a_here_at (.inl (by decide))]), Nat.le_refl _, fun x => ?_, fun x => absurd x (Nat.lt_irrefl _), fun _ _ _ _ _ => rfl, fun p i x _ _ => a_here_at (by omega)⟩
      show 1 ≤ n
      rcases Nat.eq_zero_or_pos n with y | y
      · exact absurd ⟨x, y⟩ nm
      · exact y
    · by_cases nm : must = true ∧ n = 0
      · refine L α h h0 (fun _ _ _ => rfl) e2 ?_
        show (if α 100 25 = 0 then (if must = true ∧ n = 0 then _ else (if a_isl α = true then _ else (n, a_here α))) else (n, α)) = _
        rw [if_pos h0, if_pos nm]
      · by_cases isl : a_isl α = true
        · refine L (a_here α) h.here (by rw [a_here_at (.inr (by decide))]; exact h0) (fun p i x => a_here_at (by omega)) e2 ?_
          show (if α 100 25 = 0 then (if must = true ∧ n = 0 then _ else (if a_isl α = true then _ else (n, a_here α))) else (n, α)) = _
          rw [if_pos h0, if_neg nm, if_pos isl]
        · left
          have isl : a_isl α = false := by cases x : a_isl α with | false => rfl | true => exact absurd x isl
          have ea : a_roL must full (c + 1 + 1) n α = (n, a_here α) := by
            show (if α 100 25 = 0 then (if must = true ∧ n = 0 then _ else (if a_isl α = true then _ else (n, a_here α))) else (n, α)) = _
            rw [if_pos h0, if_neg nm, if_neg (by rw [isl]; decide)]
          have ek : k_rrL full (c + 1) κ = (false, k_ref κ (nI 1)) := by
            show (if κ 5 7 = -2 then _ else _) = _
            rw [if_neg e2, rl_wrong h isl]; exact if_pos rfl
          rw [ek, ea]
          rcases h.here.endS (by rw [a_here_at (.inr (by decide))]; exact h0) with x | ⟨x1, x2, x3⟩
          · exact absurd x.1 e2
          · exact ⟨rfl, (h.ref _).trans x2.symm, x3⟩
end RW
