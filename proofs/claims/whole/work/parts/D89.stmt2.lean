/-! statements, both alike: phases, clause -/
section SU
variable {b κ κ' α α' : Nat → Nat → Int32} {τ τ' : (Nat → Nat → Int64) × (Nat → Nat)} {m j : Nat} {d : Bool}
/-- one phase is told -/
theorem ph_one {l : Int32} (hs : rdS d κ α τ) (hV : aV α ≤ 30) (hl : lok (aV α) l) (ek : ∀ p i, ¬ (p = 5 ∧ (i = 4 ∨ i = 7)) → κ' p i = κ p i) (ea : ∀ p i, ¬ (p = 100 ∧ i = 24) → ¬ p = 126 → α' p i = α p i) : rdS d (k_ph1 κ' l) (zup α' 101 (32 + zv l) (if 0 < l then nI 1 else nI 0)) τ := by
  obtain ⟨h1, h2, h3, h4, h5, h6, h7, h8⟩ := hs
  have l30 := hl.mono hV
  obtain ⟨u, u1, u2, eu, -⟩ := lok_two l30
  have fk : ∀ p i, ¬ (p = 10 ∧ i = 5) → k_ph1 κ' l p i = κ' p i := fun p i x => by
    unfold k_ph1 k_setPhase
    split
    · rfl
    · exact if_neg x
  have fa : ∀ i, ¬ i = 32 + zv l → zup α' 101 (32 + zv l) (if 0 < l then nI 1 else nI 0) 101 i = α 101 i := fun i x => (zup_i x).trans (ea 101 i (by omega) (by omega))
  have eN : aN (zup α' 101 (32 + zv l) (if 0 < l then nI 1 else nI 0)) = aN α := by unfold aN; rw [fa 1 (by omega)]
  have eV : aV (zup α' 101 (32 + zv l) (if 0 < l then nI 1 else nI 0)) = aV α := by unfold aV; rw [fa 0 (by omega)]
  refine ⟨?_, ?_, ?_, ?_, ?_, ?_, ?_, fun x => ?_⟩
  · rw [fk 6 3 (by omega), ek 6 3 (by omega)]; exact h1
  · rw [fk 6 4 (by omega), ek 6 4 (by omega), fa 0 (by omega)]; exact h2
  · rw [fk 6 5 (by omega), ek 6 5 (by omega), fa 2 (by omega)]; exact h3
  · rw [fk 6 6 (by omega), ek 6 6 (by omega), fa 1 (by omega)]; exact h4
  · rw [fk 5 6 (by omega), ek 5 6 (by omega)]; exact h5
  · rw [zup_p (by decide), ea 100 25 (by omega) (by omega)]; exact h6
  · rw [eN, fa 1 (by omega), fa 2 (by omega)]; exact h7
  · have s := h8 x
    have e105 : k_ph1 κ' l 10 5 = k_setPhase κ l 10 5 := by
      unfold k_ph1
      rw [if_neg (by rw [ek 6 3 (by omega), h1, x]; decide)]
      unfold k_setPhase
      rw [zup_same, zup_same, ek 10 5 (by omega)]
    have fk2 : ∀ p i, ¬ (p = 10 ∧ i = 5) → ¬ p = 5 → k_ph1 κ' l p i = κ p i := fun p i a c => (fk p i a).trans (ek p i (by omega))
    refine s.small (fun p i a c _ _ => fk2 p i (by omega) (by omega)) (fun i a => fa i (by omega)) (setPh l30 s.1.2.2.1 e105 (fun i i1 i2 => ?_)) ?_ (s.2.2.2.2.1.eq (fun i => fk2 17 i (by omega) (by omega)) (fun i => fk2 18 i (by omega) (by omega)) (fa 4 (by omega)) (fun i hi => fa _ (by omega)) (by rw [eV]; exact Nat.le_refl _)) (s.2.2.2.2.2.eq (fun i => fk2 19 i (by omega) (by omega)) (fun i => fk2 20 i (by omega) (by omega)) (fa 3 (by omega)) (fun i hi => fa _ (by omega)) (by rw [eV]; exact Nat.le_refl _))
    · by_cases e : i = 32 + zv l
      · rw [if_pos e, e, zup_same]
      · rw [if_neg e]; exact fa i e
    · rw [fk2 10 6 (by omega) (by omega), fa 5 (by omega)]; exact s.1.2.2.2.2.1.1
theorem phOK_st {n : Nat} {f : Bool} (h : ¬ α 100 25 = 0) : phOK (n + 1) f α := fun x => absurd x h
theorem phL_st {n : Nat} {f : Bool} (h : ¬ α 100 25 = 0) : a_phL n f α = α := by
  cases n with
  | zero => rfl
  | succ n => exact if_neg h
theorem ph_sim : ∀ n c first κ α j, m + 2 ≤ n + j → m + 1 ≤ c + j → rdR b κ α m j → rdS d κ α τ → (first = true → ¬ κ 5 7 = -2) →
    phOK n first α ∧ (((k_phL c κ).1 = false ∧ (k_phL c κ).2 5 6 = a_endS (a_phL n first α) 100 25 ∧ ¬ a_endS (a_phL n first α) 100 25 = 0) ∨
    ((k_phL c κ).1 = true ∧ (k_phL c κ).2 5 7 = -2 ∧ (∃ j', j ≤ j' ∧ rdR b (k_phL c κ).2 (a_phL n first α) m j') ∧ rdS d (k_phL c κ).2 (a_phL n first α) τ))
  | 0, c, first, κ, α, j, hn, hc, h, hs, hf => by have := h.1.2.1; omega
  | n + 1, 0, first, κ, α, j, hn, hc, h, hs, hf => by have := h.1.2.1; omega
  | n + 1, c + 1, first, κ, α, j, hn, hc, h, hs, hf => by
    have hjm := h.1.2.1
    have h0 := hs.2.2.2.2.2.1
    have V2 := h.2.2.1.2.2.2
    have L : ∀ β, rdR b κ β m j → (∀ p i, ¬ (p = 100 ∧ i = 24) → β p i = α p i) → ¬ κ 5 7 = -2 →
        phOK n false (a_ph1 β) ∧ (((k_phL (c + 1) κ).1 = false ∧ (k_phL (c + 1) κ).2 5 6 = a_endS (a_phL n false (a_ph1 β)) 100 25 ∧ ¬ a_endS (a_phL n false (a_ph1 β)) 100 25 = 0) ∨
        ((k_phL (c + 1) κ).1 = true ∧ (k_phL (c + 1) κ).2 5 7 = -2 ∧ (∃ j', j ≤ j' ∧ rdR b (k_phL (c + 1) κ).2 (a_phL n false (a_ph1 β)) m j') ∧ rdS d (k_phL (c + 1) κ).2 (a_phL n false (a_ph1 β)) τ)) := by
      intro β hβ eβ n2
      have z : β 100 25 = 0 := (eβ 100 25 (by omega)).trans h0
      have lit := hβ.lit z (u := false) (f := false) (tk := nI 0) (fun v v1 v2 => by rw [kt_n0]; exact ⟨fun x => absurd x.1 (by decide), fun x => absurd x (by decide)⟩)
      have eVi : β 101 0 = κ 6 4 := (eβ 101 0 (by omega)).trans hs.2.1.symm
      rw [eVi] at lit
      have eV : aV β = aV α := by unfold aV; rw [eβ 101 0 (by omega)]
      have ek : k_phL (c + 1) κ = if (k_rl κ (κ 6 4) (nI 0) false).1 = 0 then (false, (k_rl κ (κ 6 4) (nI 0) false).2) else k_phL c (k_ph1 (k_rl κ (κ 6 4) (nI 0) false).2 (k_rl κ (κ 6 4) (nI 0) false).1) := if_neg n2
      rw [ek]
      generalize k_rl κ (κ 6 4) (nI 0) false = R at lit
      rcases lit with ⟨f1, f2, f3⟩ | ⟨-, s2, s3, s4, -, s6, ⟨j1, jj, s7⟩, s8, s9⟩
      · have e1 : a_ph1 β = a_lit β false false := by unfold a_ph1; rw [if_neg f3]
        rw [e1, if_pos f1, phL_st f3, endS_st f3]
        refine ⟨?_, .inl ⟨rfl, f2, f3⟩⟩
        rw [show n = n - 1 + 1 from by omega]
        exact phOK_st f3
      · have e1 : a_ph1 β = zup (a_lit β false false) 101 (32 + zv (a_litV β false false)) (if 0 < a_litV β false false then nI 1 else nI 0) := by unfold a_ph1; rw [if_pos s6]
        rw [e1, if_neg s3, s2]
        generalize a_litV β false false = l at *
        generalize a_lit β false false = γ at *
        have g9 : ∀ p i, ¬ (p = 100 ∧ i = 24) → ¬ p = 126 → γ p i = α p i := fun p i x y => by rw [s9 p i x, if_neg (fun w => y w.1), eβ p i x]
        have S := ph_one (κ' := R.2) (α' := γ) hs V2 (by rw [← eV]; exact s4) s8 g9
        have pk : ∀ p i, ¬ p = 10 → k_ph1 R.2 l p i = R.2 p i := fun p i x => by rw [k_ph1_p x]
        have fa : zup γ 101 (32 + zv l) (if 0 < l then nI 1 else nI 0) 101 0 = α 101 0 := (zup_i (by omega)).trans (g9 101 0 (by omega) (by omega))
        have eV2 : aV (zup γ 101 (32 + zv l) (if 0 < l then nI 1 else nI 0)) = aV α := by unfold aV; rw [fa]
        have R2 : rdR b (k_ph1 R.2 l) (zup γ 101 (32 + zv l) (if 0 < l then nI 1 else nI 0)) m j1 := s7.of (fun i _ => pk 5 i (by decide)) (fun p i x => pk p i (by omega)) (zup_p (by decide)) (zup_p (by decide)) (fun i => zup_p (by decide)) (by rw [eV2, fa]; exact h.2.2.1.2.2)
        obtain ⟨i0, i⟩ := ph_sim n c false (k_ph1 R.2 l) (zup γ 101 (32 + zv l) (if 0 < l then nI 1 else nI 0)) j1 (by omega) (by omega) R2 S (fun x => absurd x (by decide))
        refine ⟨i0, ?_⟩
        rcases i with i | ⟨i1, i2, ⟨j2, jj2, i3⟩, i4⟩
        · exact .inl i
        · exact .inr ⟨i1, i2, ⟨j2, by omega, i3⟩, i4⟩
    cases first with
    | true =>
      have ea : a_phL (n + 1) true α = a_phL n false (a_ph1 α) := by
        show (if α 100 25 = 0 then (if true = true then _ else _) else α) = _
        rw [if_pos h0, if_pos rfl]
      obtain ⟨l1, l2⟩ := L α h (fun _ _ _ => rfl) (hf rfl)
      rw [ea]
      exact ⟨fun _ => ⟨fun _ => l1, fun x => absurd x (by decide)⟩, l2⟩
    | false =>
      by_cases isl : a_isl α = true
      · have ea : a_phL (n + 1) false α = a_phL n false (a_ph1 (a_here α)) := by
          show (if α 100 25 = 0 then (if false = true then _ else (if a_isl α = true then _ else _)) else α) = _
          rw [if_pos h0, if_neg (by decide), if_pos isl]
        have n2 : ¬ κ 5 7 = -2 := fun x => by
          have ch : a_chr α = nI 59 := h.chr.2.1.mpr x
          unfold a_isl at isl
          rw [ch] at isl
          exact absurd isl (by decide)
        obtain ⟨l1, l2⟩ := L (a_here α) h.here (fun p i x => a_here_at (by omega)) n2
        rw [ea]
        exact ⟨fun _ => ⟨fun x => absurd x (by decide), fun _ _ => l1⟩, l2⟩
      · have islf : a_isl α = false := by cases x : a_isl α with | false => rfl | true => exact absurd x isl
        have ea : a_phL (n + 1) false α = a_here α := by
          show (if α 100 25 = 0 then (if false = true then _ else (if a_isl α = true then _ else a_here α)) else α) = _
          rw [if_pos h0, if_neg (by decide), if_neg isl]
        rw [ea]
        refine ⟨fun _ => ⟨fun x => absurd x (by decide), fun _ x => absurd x isl⟩, ?_⟩
        by_cases e2 : κ 5 7 = -2
        · right
          have ek : k_phL (c + 1) κ = (true, κ) := if_pos e2
          rw [ek]
          exact ⟨rfl, e2, ⟨j, Nat.le_refl _, h.here⟩, hs.of (fun _ _ _ => rfl) (fun i => a_here_at (.inl (by decide))) (a_here_at (.inr (by decide)))⟩
        · left
          have ek : k_phL (c + 1) κ = (false, k_ref κ (nI 1)) := by
            show (if κ 5 7 = -2 then _ else _) = _
            rw [if_neg e2, rl_wrong h islf]; exact if_pos rfl
          rw [ek]
          rcases h.here.endS (by rw [a_here_at (.inr (by decide))]; exact h0) with x | ⟨x1, x2, x3⟩
          · exact absurd x.1 e2
          · exact ⟨rfl, (h.ref _).trans x2.symm, x3⟩
theorem phase_sim (h : rdR b (k_adv κ) α m j) (hs : rdS d (k_adv κ) α τ) (hj : 1 ≤ j) : phOK 500 true α ∧ stE b d m j ((k_phs κ).1, (k_phs κ).2, τ) (a_endS (a_phL 500 true α)) := by
  have hm : m ≤ 400 := h.1.1.1
  unfold k_phs
  generalize k_adv κ = κ1 at *
  by_cases e2 : κ1 5 7 = -2
  · have h0 := hs.2.2.2.2.2.1
    have FT := flt_tab _ h.pl
    have ea : a_phL 500 true α = a_phL 499 false (a_ph1 α) := by
      show (if α 100 25 = 0 then (if true = true then _ else _) else α) = _
      rw [if_pos h0, if_pos rfl]
    have lit := h.lit h0 (u := false) (f := false) (tk := nI 0) (fun v v1 v2 => by rw [kt_n0]; exact ⟨fun x => absurd x.1 (by decide), fun x => absurd x (by decide)⟩)
    have isl : a_isl α = false := by unfold a_isl; rw [h.chr.2.1.mpr e2]; decide
    rw [rl_wrong h isl] at lit
    rcases lit with ⟨f1, f2, f3⟩ | ⟨-, -, s3, -⟩
    · have e1 : a_ph1 α = a_lit α false false := by unfold a_ph1; rw [if_neg f3]
      rw [if_pos e2, ea, e1, phL_st f3]
      refine ⟨fun _ => ⟨fun _ => ?_, fun x => absurd x (by decide)⟩, .inl ⟨rfl, ?_, ?_⟩⟩
      · show phOK (498 + 1) false (a_ph1 α)
        rw [e1]; exact phOK_st f3
      · rw [endS_st f3]; exact f2
      · rw [endS_st f3]; exact f3
    · exact absurd rfl s3
  · rw [if_neg e2]
    obtain ⟨i0, i⟩ := ph_sim (b := b) (m := m) (d := d) (τ := τ) 500 401 true κ1 α j (by omega) (by omega) h hs (fun _ => e2)
    refine ⟨i0, ?_⟩
    generalize k_phL 401 κ1 = X at i
    generalize a_phL 500 true α = β at i
    obtain ⟨x, κ2⟩ := X
    rcases i with i | ⟨i1, i2, ⟨j2, jj2, i3⟩, i4⟩
    · exact .inl i
    · right
      have i2 : κ2 5 7 = -2 := i2
      have i3 : rdR b κ2 β m j2 := i3
      have i4 : rdS d κ2 β τ := i4
      rcases i3.endS i4.2.2.2.2.2.1 with ⟨-, x2, x3, x4⟩ | ⟨x1, -⟩
      · exact ⟨i1, ⟨j2 + 1, by omega, x4⟩, (i4.adv i3.1 x2).of (fun _ _ _ => rfl) (fun i => a_endS_at (.inl (by decide))) (x3.trans i4.2.2.2.2.2.1.symm)⟩
      · exact absurd i2 x1
end SU
