/-! statements, both alike: grow, assume -/
section ST
variable {b κ κ' α α' : Nat → Nat → Int32} {τ τ' : (Nat → Nat → Int64) × (Nat → Nat)} {m j : Nat} {d : Bool}
/-- between two statements; d: they are done in the class too -/
def rdS (d : Bool) (κ α : Nat → Nat → Int32) (τ : (Nat → Nat → Int64) × (Nat → Nat)) : Prop := κ 6 3 = zbo d ∧ κ 6 4 = α 101 0 ∧ κ 6 5 = α 101 2 ∧ κ 6 6 = α 101 1 ∧ κ 5 6 = 0 ∧ α 100 25 = 0 ∧ (α 101 1 = nI (aN α) ∧ aN α ≤ 400 ∧ t8 (α 101 2)) ∧ (d = true → stR κ α τ)
/-- how a statement ends -/
def stE (b : Nat → Nat → Int32) (d : Bool) (m j : Nat) (X : Bool × (Nat → Nat → Int32) × ((Nat → Nat → Int64) × (Nat → Nat))) (α' : Nat → Nat → Int32) : Prop :=
  (X.1 = false ∧ X.2.1 5 6 = α' 100 25 ∧ ¬ α' 100 25 = 0) ∨ (X.1 = true ∧ (∃ j', j < j' ∧ rdR b (k_adv X.2.1) α' m j') ∧ rdS d (k_adv X.2.1) α' X.2.2)
theorem rdS.of (h : rdS d κ α τ) (ek : ∀ p i, p = 6 ∨ (10 ≤ p ∧ p ≤ 21) ∨ (p = 5 ∧ i = 6) → κ' p i = κ p i) (ea : ∀ i, α' 101 i = α 101 i) (e5 : α' 100 25 = α 100 25) : rdS d κ' α' τ := by
  obtain ⟨h1, h2, h3, h4, h5, h6, h7, h8⟩ := h
  have eN : aN α' = aN α := by unfold aN; rw [ea]
  refine ⟨(ek 6 3 (by omega)).trans h1, ?_, ?_, ?_, (ek 5 6 (by omega)).trans h5, e5.trans h6, by rw [ea 1, ea 2, eN]; exact h7, fun x => (h8 x).of (fun p x y => funext fun i => ek p i (by omega)) (fun i _ => ea i) rfl⟩
  · rw [ek 6 4 (by omega), ea]; exact h2
  · rw [ek 6 5 (by omega), ea]; exact h3
  · rw [ek 6 6 (by omega), ea]; exact h4
theorem adv_at (h : tkN b κ m j) (hj : j < m) {p i : Nat} (x : ¬ (p = 5 ∧ (i = 4 ∨ i = 7))) : k_adv κ p i = κ p i := by rw [(h.adv hj).1]; exact tok0_at _ x
theorem rdS.adv (h : rdS d κ α τ) (ht : tkN b κ m j) (hj : j < m) : rdS d (k_adv κ) α τ := h.of (fun p i x => adv_at ht hj (by omega)) (fun _ => rfl) rfl
theorem zbo_0 : (zbo d = 0) ↔ d = false := by cases d <;> decide
theorem grow_sim (h : rdR b (k_adv κ) α m j) (hs : rdS d (k_adv κ) α τ) : stE b d m j ((k_grw κ).1, (k_grw κ).2, τ) (a_growT α) := by
  have z : a_here α 100 25 = 0 := (a_here_at (.inr (by decide))).trans hs.2.2.2.2.2.1
  have V1 := h.2.2.1.2.2.1
  have V2 := h.2.2.1.2.2.2
  have FT := flt_tab _ h.pl
  unfold a_growT k_grw
  generalize k_adv κ = κ1 at *
  rcases h.here.num z with ⟨t1, t2⟩ | ⟨t1, t2, t3, t4, t5⟩
  · left
    have n0 : ¬ a_number (a_here α) 100 25 = 0 := by rw [t2]; exact FT.1
    rw [if_pos t1, if_neg n0, endS_st n0]
    exact ⟨rfl, (h.ref _).trans t2.symm, n0⟩
  · have z2 : a_number (a_here α) 100 25 = 0 := by rw [t5, zup_i (by decide)]; exact z
    rw [if_neg t1, if_pos z2]
    have N0 : a_number (a_here α) 101 0 = nI (aV α) := by rw [a_number_at (.inl (by decide)), a_here_at (.inl (by decide))]; exact V1
    have k64 : κ1 6 4 = nI (aV α) := hs.2.1.trans V1
    have cond : (κ1 5 7 = 0 ∨ nI 30 < κ1 6 4 + κ1 5 7) ↔ ¬ (nI 1 ≤ nI (a_nv (a_here α)) ∧ nI (a_nv (a_here α)) ≤ nI 30 - a_number (a_here α) 101 0) := by
      rw [t3, k64, N0, nI_add, pk_sub V2, nI_ltI (by decide) (by omega), nI_leI (by decide) (by omega), nI_leI (by omega) (by omega)]
      constructor
      · rintro (x | x) y
        · have := w_nI (x := a_nv (a_here α)) (y := 0) (by omega) (by decide) x; omega
        · omega
      · intro x
        rcases Nat.eq_zero_or_pos (a_nv (a_here α)) with y | y
        · left; rw [y]; rfl
        · right; omega
    have P1 := h.here
    by_cases e : κ1 5 7 = 0 ∨ nI 30 < κ1 6 4 + κ1 5 7
    · left
      have eg : a_grows (a_number (a_here α)) (nI (a_nv (a_here α))) = (-1, a_number (a_here α)) := by unfold a_grows; rw [if_neg (cond.mp e)]
      have ef : a_fails (a_number (a_here α)) (nI 2) (nI (a_hp α)) 100 25 = nI 2 + nI 8 * nI (tkP b j) := by unfold a_fails; rw [if_pos z2, zup_same, h.2.2.2]
      have nf : ¬ a_fails (a_number (a_here α)) (nI 2) (nI (a_hp α)) 100 25 = 0 := by rw [ef]; exact FT.2.1
      rw [eg, if_pos rfl, if_pos e, endS_st nf]
      exact ⟨rfl, (h.ref _).trans ef.symm, nf⟩
    · have cg := Decidable.not_not.mp (fun x => e (cond.mpr x))
      have eg : a_grows (a_number (a_here α)) (nI (a_nv (a_here α))) = (nI (aV α + a_nv (a_here α)), zup (a_number (a_here α)) 101 0 (nI (aV α + a_nv (a_here α)))) := by unfold a_grows; rw [if_pos cg, N0, nI_add]
      have hb : aV α + a_nv (a_here α) ≤ 30 := by
        have := cg.2
        rw [N0, pk_sub V2, nI_leI (by omega) (by omega)] at this
        omega
      have nm : ¬ nI (aV α + a_nv (a_here α)) = -1 := nI_nem1 (by omega)
      rw [eg, if_neg nm, if_neg e]
      -- the class has the variables
      have k4 : κ1 6 4 + κ1 5 7 = nI (aV α + a_nv (a_here α)) := by rw [t3, k64, nI_add]
      have g2 : ∀ p i, ¬ (p = 6 ∧ i = 4) → ¬ (p = 10 ∧ i = 4) → k_gr2 κ1 p i = κ1 p i := fun p i x y => by
        unfold k_gr2 k_gr1
        split
        · exact if_neg x
        · exact (if_neg y).trans (if_neg x)
      have g64 : k_gr2 κ1 6 4 = nI (aV α + a_nv (a_here α)) := by
        unfold k_gr2 k_gr1
        split
        · rw [zup_same]; exact k4
        · rw [zup_p (by decide), zup_same]; exact k4
      have g104 : d = true → k_gr2 κ1 10 4 = nI (aV α + a_nv (a_here α)) := fun x => by
        unfold k_gr2
        rw [if_neg (by rw [hs.1, x]; decide), zup_same]; exact k4
      generalize k_gr2 κ1 = κ2 at g2 g64 g104
      have P2 : rdR b κ2 (a_here α) m j := P1.of (fun i x => g2 5 i (by omega) (by omega)) (fun p i x => g2 p i (by omega) (by omega)) rfl rfl (fun _ => rfl) ⟨P1.2.2.1.2.2.1, P1.2.2.1.2.2.2⟩
      have P3 := P2.adv t2
      rw [← t5] at P3
      have eV : aV (zup (a_number (a_here α)) 101 0 (nI (aV α + a_nv (a_here α)))) = aV α + a_nv (a_here α) := by unfold aV at *; rw [zup_same]; exact nI_clamp (by omega)
      have P4 : rdR b (k_adv κ2) (zup (a_number (a_here α)) 101 0 (nI (aV α + a_nv (a_here α)))) m (j + 1) := P3.of (fun _ _ => rfl) (fun _ _ _ => rfl) (zup_p (by decide)) (zup_p (by decide)) (fun _ => zup_p (by decide)) (by rw [eV, zup_same]; exact ⟨rfl, hb⟩)
      have na : ∀ p i, ¬ (p = 100 ∧ (i = 24 ∨ i = 25)) → ¬ (p = 101 ∧ i = 0) → zup (a_number (a_here α)) 101 0 (nI (aV α + a_nv (a_here α))) p i = α p i := fun p i x y => ((if_neg y).trans (a_number_at (by omega))).trans (a_here_at (by omega))
      have S2 : rdS d (k_adv κ2) (zup (a_number (a_here α)) 101 0 (nI (aV α + a_nv (a_here α)))) τ := by
        obtain ⟨h1, h2, h3, h4, h5, h6, h7, h8⟩ := hs
        refine rdS.adv (κ := κ2) ?_ P2.1 t2
        have eN : aN (zup (a_number (a_here α)) 101 0 (nI (aV α + a_nv (a_here α)))) = aN α := by unfold aN; rw [na 101 1 (by omega) (by omega)]
        refine ⟨(g2 6 3 (by omega) (by omega)).trans h1, by rw [g64, zup_same], ?_, ?_, (g2 5 6 (by omega) (by omega)).trans h5, by rw [zup_p (by decide)]; exact z2, by rw [na 101 1 (by omega) (by omega), na 101 2 (by omega) (by omega), eN]; exact h7, fun x => (h8 x).grow hb (fun p i y _ _ => g2 p i (by omega) (by omega)) (fun i y => na 101 i (by omega) (by omega)) (g104 x) (zup_same _ _ _ _)⟩
        · rw [g2 6 5 (by omega) (by omega), na 101 2 (by omega) (by omega)]; exact h3
        · rw [g2 6 6 (by omega) (by omega), na 101 1 (by omega) (by omega)]; exact h4
      generalize zup (a_number (a_here α)) 101 0 (nI (aV α + a_nv (a_here α))) = γ at P4 S2
      show stE b d m j (_, _, τ) (a_endS γ)
      rcases P4.endS S2.2.2.2.2.2.1 with ⟨x1, x2, x3, x4⟩ | ⟨x1, x2, x3⟩
      · right
        rw [if_pos x1]
        exact ⟨rfl, ⟨j + 1 + 1, by omega, x4⟩, (S2.adv P4.1 x2).of (fun _ _ _ => rfl) (fun i => a_endS_at (.inl (by decide))) (x3.trans S2.2.2.2.2.2.1.symm)⟩
      · left
        rw [if_neg x1]
        exact ⟨rfl, (P4.ref _).trans x2.symm, x3⟩
/-- a row is copied into the reference's numbers -/
theorem cpF_is {B : Nat} : ∀ D (β : Nat → Nat → Int32), (∀ k, k < D → zit (a_cpF B) 0 D β 101 (B + k) = β 127 k) ∧ ∀ p i, ¬ (p = 101 ∧ B ≤ i ∧ i < B + D) → zit (a_cpF B) 0 D β p i = β p i
  | 0, β => ⟨fun k hk => absurd hk (Nat.not_lt_zero _), fun _ _ _ => rfl⟩
  | D + 1, β => by
    obtain ⟨i1, i2⟩ := cpF_is (B := B) D β
    rw [zit_succ, Nat.zero_add]
    generalize zit (a_cpF B) 0 D β = a at i1 i2
    unfold a_cpF
    refine ⟨fun k hk => ?_, fun p i x => (if_neg (by omega)).trans (i2 p i (by omega))⟩
    by_cases e : k = D
    · subst e; rw [zup_same]; exact i2 127 _ (by omega)
    · rw [zup_i (by omega)]; exact i1 k (by omega)
theorem assume_sim (h : rdR b (k_adv κ) α m j) (hs : rdS d (k_adv κ) α τ) (e63 : k_adv κ 6 3 = κ 6 3) : stE b d m j ((k_asm κ).1, (k_asm κ).2, τ) (a_asT α) := by
  have h30 := h.2.2.1.2.2
  unfold a_asT k_asm k_rR
  rw [← e63]
  generalize k_adv κ = κ1 at *
  have ke : ∀ p i, ¬ p = 80 → k_emp κ1 80 p i = κ1 p i := fun p i x => by unfold k_emp; rw [zup_p x, zup_p x]
  have R0 : rdR b (k_emp κ1 80) (a_clTold α) m j := h.of (fun i _ => ke 5 i (by decide)) (fun p i x => ke p i (by omega)) (clTold_p (by decide)) (clTold_p (by decide)) (fun i => clTold_p (by decide)) (by rw [clTold_p (by decide), show aV (a_clTold α) = aV α from by unfold aV; rw [clTold_p (by decide)]]; exact h30)
  have S := row_sim (must := false) (full := false) 9 0 (k_emp κ1 80) (a_clTold α) j rfl R0 ((clTold_p (by decide)).trans hs.2.2.2.2.2.1) (by rw [ke 6 4 (by decide), clTold_p (by decide)]; exact hs.2.1) rowR.start (fun x => absurd x (by decide))
  rw [show (9 + 1 : Nat) = 10 from rfl] at S
  generalize k_rrL false 9 (k_emp κ1 80) = X at S
  generalize a_roL false false 10 0 (a_clTold α) = Y at S
  obtain ⟨x, κ2⟩ := X
  obtain ⟨D, β⟩ := Y
  rcases S with ⟨f1, f2, f3⟩ | ⟨s1, s2, ⟨j1, jj, s3⟩, s4, s5, -, -, -, s6, s7⟩
  · left
    have f1 : x = false := f1
    subst f1
    rw [if_neg f3, if_neg (show ¬ (false = true) by decide)]
    exact ⟨rfl, f2, f3⟩
  · have s1 : x = true := s1
    subst s1
    have s2 : κ2 5 7 = -2 := s2
    have s3 : rdR b κ2 β m j1 := s3
    have s4 : β 100 25 = 0 := s4
    have s5 : rowR κ2 β D := s5
    have s6 : ∀ p i, ¬ (p = 5 ∧ (i = 4 ∨ i = 7)) → ¬ p = 80 → ¬ p = 81 → κ2 p i = κ1 p i := fun p i a c e => (s6 p i a c e).trans (ke p i c)
    have s7 : ∀ p i, ¬ (p = 100 ∧ i = 24) → ¬ p = 126 → ¬ p = 127 → β p i = α p i := fun p i a c e => (s7 p i a c e).trans (clTold_p c)
    obtain ⟨r1, r2, r3, r4, r5, r6⟩ := s5
    have eV : aV β = aV α := by unfold aV; rw [s7 101 0 (by omega) (by omega) (by omega)]
    have rT : k_rT κ2 = D := by unfold k_rT; rw [r2]; exact nI_clamp (by omega)
    right
    rw [if_pos (show (true, κ2).1 = true from rfl)]
    show _ ∧ (∃ j', j < j' ∧ rdR b (k_adv (if κ1 6 3 = 0 then κ2 else k_cpR κ2 19 80 (k_rT κ2))) (if a_endS β 100 25 = 0 then zit (a_cpF 16) 0 D (zup (a_endS β) 101 3 (nI D)) else a_endS β) m j') ∧ rdS d (k_adv (if κ1 6 3 = 0 then κ2 else k_cpR κ2 19 80 (k_rT κ2))) (if a_endS β 100 25 = 0 then zit (a_cpF 16) 0 D (zup (a_endS β) 101 3 (nI D)) else a_endS β) τ
    obtain ⟨q1, q2, q3, q4⟩ := cpR_is (κ := κ2) (p := 19) (q := 80) (t := D) r1 (fun i hi => by rw [show κ2 (80 + 1) i = β 127 i from (r3 i hi).1]; exact (r3 i hi).2.mono (by omega))
    have F : ∀ p i, ¬ p = 19 → ¬ p = 20 → (if κ1 6 3 = 0 then κ2 else k_cpR κ2 19 80 (k_rT κ2)) p i = κ2 p i := fun p i x y => by
      rw [rT]; split
      · rfl
      · rw [q4 p x y]
    have G : d = true → (if κ1 6 3 = 0 then κ2 else k_cpR κ2 19 80 (k_rT κ2)) = k_cpR κ2 19 80 D := fun x => by rw [if_neg (by rw [hs.1, x]; decide), rT]
    generalize (if κ1 6 3 = 0 then κ2 else k_cpR κ2 19 80 (k_rT κ2)) = κ3 at F G
    have P1 : rdR b κ3 β m j1 := s3.of (fun i _ => F 5 i (by decide) (by decide)) (fun p i x => F p i (by omega) (by omega)) rfl rfl (fun _ => rfl) s3.2.2.1.2.2
    rcases P1.endS s4 with ⟨-, x2, x3, x4⟩ | ⟨x1, -⟩
    · rw [if_pos x3]
      obtain ⟨c1, c2⟩ := cpF_is (B := 16) D (zup (a_endS β) 101 3 (nI D))
      generalize zit (a_cpF 16) 0 D (zup (a_endS β) 101 3 (nI D)) = γ at c1 c2
      have e0 : ∀ p i, ¬ (p = 101 ∧ i = 3) → ¬ (p = 101 ∧ 16 ≤ i ∧ i < 16 + D) → γ p i = a_endS β p i := fun p i x y => (c2 p i y).trans (if_neg x)
      have e1 : ∀ p i, ¬ (p = 100 ∧ (i = 24 ∨ i = 25)) → ¬ p = 126 → ¬ p = 127 → ¬ (p = 101 ∧ i = 3) → ¬ (p = 101 ∧ 16 ≤ i ∧ i < 16 + D) → γ p i = α p i := fun p i x1 x2 x3 x4 x5 => (e0 p i x4 x5).trans ((a_endS_at (by omega)).trans (s7 p i (by omega) x2 x3))
      have g3 : γ 101 3 = nI D := (c2 101 3 (by omega)).trans (zup_same _ _ _ _)
      have gk : ∀ k, k < D → γ 101 (16 + k) = β 127 k := fun k hk => by rw [c1 k hk, zup_p (by decide)]; exact a_endS_at (.inl (by decide))
      have eVg : aV γ = aV α := by unfold aV; rw [e1 101 0 (by omega) (by omega) (by omega) (by omega) (by omega)]
      have eNg : aN γ = aN α := by unfold aN; rw [e1 101 1 (by omega) (by omega) (by omega) (by omega) (by omega)]
      refine ⟨rfl, ⟨j1 + 1, by omega, x4.of (fun _ _ => rfl) (fun _ _ _ => rfl) (e0 _ _ (by omega) (by omega)) (e0 _ _ (by omega) (by omega)) (fun i => e0 _ _ (by omega) (by omega)) ?_⟩, rdS.adv ?_ P1.1 x2⟩
      · rw [eVg, e1 101 0 (by omega) (by omega) (by omega) (by omega) (by omega)]; exact h30
      · obtain ⟨h1, h2, h3, h4, h5, h6, h7, h8⟩ := hs
        have F2 : ∀ p i, ¬ (p = 5 ∧ (i = 4 ∨ i = 7)) → ¬ p = 80 → ¬ p = 81 → ¬ p = 19 → ¬ p = 20 → κ3 p i = κ1 p i := fun p i a c e f g => (F p i f g).trans (s6 p i a c e)
        refine ⟨(F2 6 3 (by omega) (by omega) (by omega) (by omega) (by omega)).trans h1, ?_, ?_, ?_, (F2 5 6 (by omega) (by omega) (by omega) (by omega) (by omega)).trans h5, (e0 100 25 (by omega) (by omega)).trans x3, by rw [eNg, e1 101 1 (by omega) (by omega) (by omega) (by omega) (by omega), e1 101 2 (by omega) (by omega) (by omega) (by omega) (by omega)]; exact h7, fun x => ?_⟩
        · rw [F2 6 4 (by omega) (by omega) (by omega) (by omega) (by omega), e1 101 0 (by omega) (by omega) (by omega) (by omega) (by omega)]; exact h2
        · rw [F2 6 5 (by omega) (by omega) (by omega) (by omega) (by omega), e1 101 2 (by omega) (by omega) (by omega) (by omega) (by omega)]; exact h3
        · rw [F2 6 6 (by omega) (by omega) (by omega) (by omega) (by omega), e1 101 1 (by omega) (by omega) (by omega) (by omega) (by omega)]; exact h4
        · have s := h8 x
          refine s.small (fun p i a c _ _ => F2 p i (by omega) (by omega) (by omega) (by omega) (by omega)) (fun i a => e1 101 i (by omega) (by omega) (by omega) (by omega) (by omega)) (fun v v1 v2 => ?_) ?_ (s.2.2.2.2.1.eq (fun i => F2 17 i (by omega) (by omega) (by omega) (by omega) (by omega)) (fun i => F2 18 i (by omega) (by omega) (by omega) (by omega) (by omega)) (e1 101 4 (by omega) (by omega) (by omega) (by omega) (by omega)) (fun i hi => e1 101 _ (by omega) (by omega) (by omega) (by omega) (by omega)) (by rw [eVg]; exact Nat.le_refl _)) ?_
          · rw [F2 10 5 (by omega) (by omega) (by omega) (by omega) (by omega), e1 101 (32 + v) (by omega) (by omega) (by omega) (by omega) (by omega)]; exact s.1.2.2.1 v v1 v2
          · rw [F2 10 6 (by omega) (by omega) (by omega) (by omega) (by omega), e1 101 5 (by omega) (by omega) (by omega) (by omega) (by omega)]; exact s.1.2.2.2.2.1.1
          · rw [G x]
            refine ⟨D, r1, q1, g3, fun k hk => ?_, fun v v1 v2 => ?_, fun a c x y => ?_⟩
            · rw [gk k hk, eVg, ← eV]
              exact ⟨(q2 k hk).trans (r3 k hk).1, (r3 k hk).2⟩
            · rw [q3 v v1 v2]
              exact ⟨fun ⟨k, x, y⟩ => ⟨k, x, by rw [gk k x, ← (r3 k x).1]; exact y⟩, fun ⟨k, x, y⟩ => ⟨k, x, by rw [gk k x, ← (r3 k x).1] at y; exact y⟩⟩
            · rw [gk a (by omega), gk c y]; exact r6 a c x y
    · exact absurd ((F 5 7 (by decide) (by decide)).trans s2) x1
end ST
