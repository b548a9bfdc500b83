/-! tell, as a call -/
section TE
variable {E : zEnv} {b κ κ' α α' : Nat → Nat → Int32} {τ τ' : (Nat → Nat → Int64) × (Nat → Nat)} {m j k : Nat} {d : Bool}
theorem te_sim : ∀ n c cnt (κ α : Nat → Nat → Int32) (τ : (Nat → Nat → Int64) × (Nat → Nat)) j, m + 2 ≤ n + j → m + 1 ≤ c + j → rdR b κ α m j → rdS d κ α τ →
    teOK n α ∧ (((k_rdL c cnt κ τ).1 = -1 ∧ (k_rdL c cnt κ τ).2.1 5 6 = (a_teL n cnt α).2 100 25 ∧ ¬ (a_teL n cnt α).2 100 25 = 0) ∨ ((k_rdL c cnt κ τ).1 = nI (a_teL n cnt α).1 ∧ (a_teL n cnt α).2 100 25 = 0 ∧ rdS d (k_rdL c cnt κ τ).2.1 (a_teL n cnt α).2 (k_rdL c cnt κ τ).2.2))
  | 0, c, cnt, κ, α, τ, j, hn, hc, h, hs => by have := h.1.2.1; omega
  | n + 1, 0, cnt, κ, α, τ, j, hn, hc, h, hs => by have := h.1.2.1; omega
  | n + 1, c + 1, cnt, κ, α, τ, j, hn, hc, h, hs => by
    have hjm := h.1.2.1
    have h0 := hs.2.2.2.2.2.1
    have hh := h.here
    have hsh : rdS d κ (a_here α) τ := hs.of (fun _ _ _ => rfl) (fun i => a_here_at (.inl (by decide))) (a_here_at (.inr (by decide)))
    by_cases e7 : κ 5 7 = -7
    · have ch := h.chr.2.2.1.mpr e7
      have ea : a_teL (n + 1) cnt α = (cnt, a_here α) := by
        show (if α 100 25 = 0 then (if a_chr α = -1 then _ else _) else _) = _
        rw [if_pos h0, if_pos ch]
      have ek : k_rdL (c + 1) cnt κ τ = (nI cnt, κ, τ) := if_pos e7
      rw [ea, ek]
      exact ⟨fun _ => ⟨h.2.2.1.1, fun x => absurd ch x⟩, .inr ⟨rfl, hsh.2.2.2.2.2.1, hsh⟩⟩
    · have ch : ¬ a_chr α = -1 := fun x => e7 (h.chr.2.2.1.mp x)
      have ea : a_teL (n + 1) cnt α = a_teL n (cnt + 1) (a_stmt (a_here α)) := by
        show (if α 100 25 = 0 then (if a_chr α = -1 then _ else _) else _) = _
        rw [if_pos h0, if_neg ch]
      have ek : k_rdL (c + 1) cnt κ τ = if (k_stm κ τ).1 = true then k_rdL c (cnt + 1) (k_adv (k_stm κ τ).2.1) (k_stm κ τ).2.2 else (-1, (k_stm κ τ).2.1, (k_stm κ τ).2.2) := if_neg e7
      obtain ⟨ok, st⟩ := stm_sim hh hsh e7
      rw [ea, ek]
      rcases st with ⟨f1, f2, f3⟩ | ⟨s1, ⟨j', jj, s2⟩, s3⟩
      · have e1 : a_teL n (cnt + 1) (a_stmt (a_here α)) = (cnt + 1, a_stmt (a_here α)) := by
          cases n with
          | zero => rfl
          | succ n => exact if_neg f3
        rw [e1, if_neg (by rw [f1]; decide)]
        refine ⟨fun _ => ⟨h.2.2.1.1, fun _ => ⟨ok, ?_⟩⟩, .inl ⟨rfl, f2, f3⟩⟩
        rw [show n = n - 1 + 1 from by omega]
        exact fun x => absurd x f3
      · rw [if_pos s1]
        obtain ⟨i1, i2⟩ := te_sim n c (cnt + 1) (k_adv (k_stm κ τ).2.1) (a_stmt (a_here α)) (k_stm κ τ).2.2 j' (by omega) (by omega) s2 s3
        exact ⟨fun _ => ⟨h.2.2.1.1, fun _ => ⟨ok, i1⟩⟩, i2⟩
theorem bf_is : ∀ n (β : Nat → Nat → Int32), (∀ i, i < n → zit a_bfF 0 n β 102 i = β 101 i) ∧ ∀ p i, ¬ p = 102 → zit a_bfF 0 n β p i = β p i
  | 0, β => ⟨fun i hi => absurd hi (Nat.not_lt_zero _), fun _ _ _ => rfl⟩
  | n + 1, β => by
    obtain ⟨i1, i2⟩ := bf_is n β
    rw [zit_succ, Nat.zero_add]
    generalize zit a_bfF 0 n β = a at i1 i2
    unfold a_bfF
    refine ⟨fun i hi => ?_, fun p i x => (zup_p x).trans (i2 p i x)⟩
    by_cases e : i = n
    · subst e; rw [zup_same]; exact i2 101 _ (by decide)
    · rw [zup_i e]; exact i1 i (by omega)
theorem rs_is : ∀ n (β : Nat → Nat → Int32), (∀ i, i < n → zit a_rsF2 0 n β 101 i = β 102 i) ∧ ∀ p i, ¬ p = 101 → zit a_rsF2 0 n β p i = β p i
  | 0, β => ⟨fun i hi => absurd hi (Nat.not_lt_zero _), fun _ _ _ => rfl⟩
  | n + 1, β => by
    obtain ⟨i1, i2⟩ := rs_is n β
    rw [zit_succ, Nat.zero_add]
    generalize zit a_rsF2 0 n β = a at i1 i2
    unfold a_rsF2
    refine ⟨fun i hi => ?_, fun p i x => (zup_p x).trans (i2 p i x)⟩
    by_cases e : i = n
    · subst e; rw [zup_same]; exact i2 102 _ (by decide)
    · rw [zup_i e]; exact i1 i (by omega)
theorem st0_at {p i : Nat} (h : ¬ (p = 100 ∧ (i = 0 ∨ i = 22 ∨ i = 23 ∨ i = 24 ∨ i = 25))) : a_st0 α p i = α p i := ((if_neg (by omega)).trans (if_neg (by omega))).trans ((if_neg (by omega)).trans ((if_neg (by omega)).trans (a0_p (by omega))))
/-- the text begins -/
theorem rd_begin {L : Nat} (hx : α' 100 23 = nI L) (h24 : α' 100 24 = nI 0) (hL : L ≤ 400) (h5 : κ 5 5 = nI L) (hb : ∀ i, i < L → κ 77 i = α' 121 i ∧ ∃ b : Int8, α' 121 i = b.toInt32) (hV : α' 101 0 = nI (aV α') ∧ aV α' ≤ 30) (ht : tkN κ κ' m 0) : rdR κ κ' α' m 0 := by
  have eL : kLen κ = L := by unfold kLen; rw [h5]; exact nI_clamp (by omega)
  have eA : aLen α' = L := by unfold aLen; rw [hx]; exact nI_clamp (by omega)
  have eP : aPl α' = 0 := by unfold aPl; rw [h24]; exact nI_clamp (by decide)
  have tx : txE κ α' := ⟨by omega, by omega, fun i hi => hb i (by omega)⟩
  exact ⟨ht, tx, ⟨⟨by rw [eP]; exact h24, by omega, by rw [eA]; exact hx, by omega⟩, by omega, hV⟩, tx.start eP⟩
theorem y_tell (h : zI k κ α τ) : zCall E zI k κ α τ mX8_tell mX9_tell [] := by
  have hW := h.1.1.1.2.1
  have kW := h.1.1.1.2.2.2
  obtain ⟨t, t1, t2, t3, t4, t5⟩ := h.2.1
  obtain ⟨m, st, s4, s7, s6, sF⟩ := start_is t2 t1
  -- the reference's beginning
  have aF : ∀ p i, ¬ p = 102 → ¬ (p = 100 ∧ (i = 0 ∨ i = 22 ∨ i = 23 ∨ i = 24 ∨ i = 25)) → zit a_bfF 0 13326 (a_st0 α) p i = α p i := fun p i x y => ((bf_is 13326 (a_st0 α)).2 p i x).trans (st0_at y)
  have a2 : ∀ i, i < 13326 → zit a_bfF 0 13326 (a_st0 α) 102 i = α 101 i := fun i hi => ((bf_is 13326 (a_st0 α)).1 i hi).trans (st0_at (by omega))
  have b22 : zit a_bfF 0 13326 (a_st0 α) 100 22 = nI 0 := ((bf_is 13326 (a_st0 α)).2 100 22 (by decide)).trans (by unfold a_st0; rw [zup_i (by decide), zup_i (by decide), zup_same])
  have b23 : zit a_bfF 0 13326 (a_st0 α) 100 23 = nI t := ((bf_is 13326 (a_st0 α)).2 100 23 (by decide)).trans (by unfold a_st0; rw [zup_i (by decide), zup_i (by decide), zup_i (by decide), zup_same, a0_p (by omega)]; exact t3)
  have b24 : zit a_bfF 0 13326 (a_st0 α) 100 24 = nI 0 := ((bf_is 13326 (a_st0 α)).2 100 24 (by decide)).trans (by unfold a_st0; rw [zup_i (by decide), zup_same])
  have b25 : zit a_bfF 0 13326 (a_st0 α) 100 25 = 0 := ((bf_is 13326 (a_st0 α)).2 100 25 (by decide)).trans (by unfold a_st0; rw [zup_same]; rfl)
  have eS := s_tell (E := E) (κ := κ) (α := α) (τ := τ)
  have eT := t_tell (E := E) (κ := (k_tell κ τ).2.1) (α := α) (τ := (k_tell κ τ).2.2)
  have aT : a_tell α = if (a_teL 500 0 (zit a_bfF 0 13326 (a_st0 α))).2 100 25 = 0 then (nI (a_teL 500 0 (zit a_bfF 0 13326 (a_st0 α))).1, (a_teL 500 0 (zit a_bfF 0 13326 (a_st0 α))).2) else (-1, zit a_rsF2 0 13326 (a_teL 500 0 (zit a_bfF 0 13326 (a_st0 α))).2) := rfl
  generalize zit a_bfF 0 13326 (a_st0 α) = α1 at *
  have aV1 : aV α1 = aV α := by unfold aV; rw [aF 101 0 (by omega) (by omega)]
  have aN1 : aN α1 = aN α := by unfold aN; rw [aF 101 1 (by omega) (by omega)]
  have V1 : α1 101 0 = nI (aV α1) ∧ aV α1 ≤ 30 := by rw [aV1, aF 101 0 (by omega) (by omega)]; exact hW.1
  have kF : ∀ p i, ¬ (p = 78 ∨ p = 79 ∨ (p = 5 ∧ (i = 3 ∨ i = 4 ∨ i = 5 ∨ i = 6 ∨ i = 7))) → k_te0 κ p i = κ p i := fun p i x => by unfold k_te0; exact (if_neg (by omega)).trans (sF p i (by omega))
  have e0 : ∀ p i, ¬ (p = 5 ∧ i = 5) → k_te0 κ p i = k_start κ p i := fun p i x => by unfold k_te0; exact if_neg x
  have e55 : k_te0 κ 5 5 = nI 0 := by unfold k_te0; exact zup_same _ _ _ _
  have S0 : tkS κ (k_te0 κ) m := st.of (e0 5 3 (by omega)) (funext fun i => e0 78 i (by omega)) (funext fun i => e0 79 i (by omega))
  have z56 : k_te0 κ 5 6 = 0 := (e0 5 6 (by omega)).trans s6
  have ekt : k_tell κ τ = if (k_read (k_te0 κ) τ false).1 = -1 then (-1, (k_read (k_te0 κ) τ false).2) else k_read (k_read (k_te0 κ) τ false).2.1 (k_read (k_te0 κ) τ false).2.2 true := rfl
  generalize k_te0 κ = κ1 at *
  -- a reading from the first token on
  have RD : ∀ (bo : Bool) (κ2 : Nat → Nat → Int32), (∀ p i, ¬ (p = 5 ∧ (i = 4 ∨ i = 6 ∨ i = 7)) → ¬ p = 6 → ¬ p = 80 → ¬ p = 81 → κ2 p i = κ1 p i) → κ2 5 6 = 0 → rdR κ (k_rd0 κ2 bo) α1 m 0 ∧ rdS bo (k_rd0 κ2 bo) α1 τ := fun bo κ2 F z => by
    have f : ∀ p i, ¬ (p = 5 ∧ (i = 4 ∨ i = 7)) → ¬ p = 6 → k_rd0 κ2 bo p i = κ2 p i := fun p i x y => by
      unfold k_rd0
      exact (tok0_at _ x).trans ((if_neg (by omega)).trans ((if_neg (by omega)).trans ((if_neg (by omega)).trans (if_neg (by omega)))))
    have g : ∀ i, k_rd0 κ2 bo 6 i = zup (zup (zup (zup κ2 6 3 (zbo bo)) 6 4 (κ2 10 4)) 6 5 (κ2 11 6)) 6 6 (κ2 11 5) 6 i := fun i => by unfold k_rd0; exact tok0_at _ (by omega)
    have f2 : ∀ p i, ¬ (p = 5 ∧ (i = 4 ∨ i = 6 ∨ i = 7)) → ¬ p = 6 → ¬ p = 80 → ¬ p = 81 → k_rd0 κ2 bo p i = κ1 p i := fun p i x y w v => (f p i (by omega) y).trans (F p i x y w v)
    have f3 : ∀ p i, 10 ≤ p → p ≤ 21 → k_rd0 κ2 bo p i = κ p i := fun p i x y => (f2 p i (by omega) (by omega) (by omega) (by omega)).trans (kF p i (by omega))
    have tn : tkN κ (k_rd0 κ2 bo) m 0 := by
      refine ⟨S0.of (f2 5 3 (by omega) (by omega) (by omega) (by omega)) (funext fun i => f2 78 i (by omega) (by omega) (by omega) (by omega)) (funext fun i => f2 79 i (by omega) (by omega) (by omega) (by omega)), Nat.zero_le _, ?_, ?_⟩
      · unfold k_rd0 k_tok0; rw [zup_i (by decide), zup_same]
      · rw [f 78 0 (by omega) (by omega)]
        unfold k_rd0 k_tok0
        rw [zup_same]
        exact (if_neg (by omega)).trans ((if_neg (by omega)).trans ((if_neg (by omega)).trans (if_neg (by omega))))
    have o := fun p i (x : 10 ≤ p) (y : p ≤ 21) => (F p i (by omega) (by omega) (by omega) (by omega)).trans (kF p i (by omega))
    refine ⟨rd_begin b23 b24 t1 t2 (fun i hi => by rw [aF 121 i (by omega) (by omega)]; exact t4 i hi) V1 tn, ?_, ?_, ?_, ?_, (f 5 6 (by omega) (by omega)).trans z, b25, by rw [aN1, aF 101 1 (by omega) (by omega), aF 101 2 (by omega) (by omega)]; exact ⟨hW.2.1.1, hW.2.1.2, h.2.2.2.2.1.2.1⟩, fun _ => h.1.of (fun p x y => funext fun i => f3 p i x y) (fun i _ => aF 101 i (by omega) (by omega)) rfl⟩
    · rw [g 3, zup_i (by decide), zup_i (by decide), zup_i (by decide), zup_same]
    · rw [g 4, zup_i (by decide), zup_i (by decide), zup_same, o 10 4 (by decide) (by decide), aF 101 0 (by omega) (by omega)]; exact h.1.1.2.1.1
    · rw [g 5, zup_i (by decide), zup_same, o 11 6 (by decide) (by decide), aF 101 2 (by omega) (by omega)]; exact h.1.1.2.2.2.2.1.2.2.2.2.2
    · rw [g 6, zup_same, o 11 5 (by decide) (by decide), aF 101 1 (by omega) (by omega)]; exact h.1.1.1.1.1
  have hm : m ≤ 400 := S0.1
  obtain ⟨D1, D2⟩ := RD false κ1 (fun _ _ _ _ _ _ => rfl) z56
  obtain ⟨ok, dr⟩ := te_sim (b := κ) (m := m) (d := false) 500 401 0 (k_rd0 κ1 false) α1 τ 0 (by omega) (by omega) D1 D2
  have er0 : k_read κ1 τ false = k_rdL 401 0 (k_rd0 κ1 false) τ := rfl
  have z63 : k_rd0 κ1 false 6 3 = 0 := D2.1
  have fr0 : ∀ p i, ¬ (p = 5 ∧ (i = 4 ∨ i = 6 ∨ i = 7)) → ¬ p = 6 → ¬ p = 80 → ¬ p = 81 → (k_read κ1 τ false).2.1 p i = κ1 p i := fun p i x y w v => by
    rw [er0, rdL_fr x w v (by omega) 401 0 _ _ (.inl z63)]
    unfold k_rd0
    exact (tok0_at _ (by omega)).trans ((if_neg (by omega)).trans ((if_neg (by omega)).trans ((if_neg (by omega)).trans (if_neg (by omega)))))
  have tt0 : (k_read κ1 τ false).2.2 = τ := by rw [er0]; exact (rdL_t 401 0 _ _).2 z63
  rw [← er0] at dr
  have rAt : ∀ p i, ¬ p = 101 → ¬ p = 126 → ¬ p = 127 → ¬ (p = 100 ∧ (i = 24 ∨ i = 25)) → (a_teL 500 0 α1).2 p i = α1 p i := fun p i x y z w => teL_at (by omega) 500 0 α1
  have cle := teL_le 500 0 α1
  have T2 := fun κ2 (R1 : rdR κ (k_rd0 κ2 true) α1 m 0) (R2 : rdS true (k_rd0 κ2 true) α1 τ) => (te_sim (b := κ) (m := m) (d := true) 500 401 0 (k_rd0 κ2 true) α1 τ 0 (by omega) (by omega) R1 R2).2
  have hst := fun dd => eS dd kW t2 t1
  have htt := fun dd => eT dd ok
  rw [ekt] at hst htt
  rw [aT] at htt
  generalize a_teL 500 0 α1 = Y at *
  obtain ⟨n, β⟩ := Y
  have rAt : ∀ p i, ¬ p = 101 → ¬ p = 126 → ¬ p = 127 → ¬ (p = 100 ∧ (i = 24 ∨ i = 25)) → β p i = α1 p i := rAt
  have cle : n ≤ 0 + 500 := cle
  have htt : ∀ dd, zTr E (dd + 7) mX9_tell [.ref 100] _ (some (.int (if β 100 25 = 0 then (nI n, β) else (-1, zit a_rsF2 0 13326 β)).1)) (_, (if β 100 25 = 0 then (nI n, β) else (-1, zit a_rsF2 0 13326 β)).2, _) := htt
  rcases dr with ⟨f1, f2, f3⟩ | ⟨g1, g2, g3⟩
  · have f2 : (k_read κ1 τ false).2.1 5 6 = β 100 25 := f2
    have f3 : ¬ β 100 25 = 0 := f3
    rw [if_pos f1] at hst htt
    rw [if_neg f3] at htt
    obtain ⟨q1, q2⟩ := rs_is 13326 β
    generalize zit a_rsF2 0 13326 β = γ at *
    generalize k_read κ1 τ false = Z at *
    obtain ⟨r0, κ2, τ2⟩ := Z
    have tt0 : τ2 = τ := tt0
    subst tt0
    have f2 : κ2 5 6 = β 100 25 := f2
    have fr0 : ∀ p i, ¬ (p = 5 ∧ (i = 4 ∨ i = 6 ∨ i = 7)) → ¬ p = 6 → ¬ p = 80 → ¬ p = 81 → κ2 p i = κ1 p i := fr0
    refine .mk hst htt (by decide) (by decide) rfl (h.fr (h.1.of (fun p x y => funext fun i => (fr0 p i (by omega) (by omega) (by omega) (by omega)).trans (kF p i (by omega))) (fun i hi => ?_) rfl) ⟨0, by decide, ?_, ?_, fun i hi => absurd hi (Nat.not_lt_zero _), ?_⟩ (fun p i x => (fr0 p i (by omega) (by omega) (by omega) (by omega)).trans (kF p i (by omega))) (fun p i x => ?_) tG.rf ?_)
    · show γ 101 i = α 101 i
      rw [q1 i hi, rAt 102 i (by omega) (by omega) (by omega) (by omega)]; exact a2 i hi
    · exact (fr0 5 5 (by omega) (by omega) (by omega) (by omega)).trans e55
    · show γ 100 22 = nI 0
      rw [q2 100 22 (by decide), rAt 100 22 (by omega) (by omega) (by omega) (by omega)]; exact b22
    · show κ2 5 6 = γ 100 25
      rw [q2 100 25 (by decide)]; exact f2
    · show γ p i = α p i
      rw [q2 p i (by omega), rAt p i (by omega) (by omega) (by omega) (by omega)]; exact aF p i (by omega) (by omega)
    · show γ 101 2 = α 101 2
      rw [q1 2 (by decide), rAt 102 2 (by omega) (by omega) (by omega) (by omega)]; exact a2 2 (by decide)
  · have g1 : (k_read κ1 τ false).1 = nI n := g1
    have g2 : β 100 25 = 0 := g2
    have n1 : ¬ (k_read κ1 τ false).1 = -1 := by rw [g1]; exact nI_nem1 (by omega)
    have z5 : (k_read κ1 τ false).2.1 5 6 = 0 := g3.2.2.2.2.1
    rw [if_neg n1, tt0] at hst htt
    rw [if_pos g2] at htt
    generalize (k_read κ1 τ false).2.1 = κ2 at *
    obtain ⟨R1, R2⟩ := RD true κ2 fr0 z5
    have fr1 : ∀ p i, ¬ (p = 5 ∧ (i = 4 ∨ i = 6 ∨ i = 7)) → ¬ p = 6 → ¬ p = 80 → ¬ p = 81 → ¬ (10 ≤ p ∧ p ≤ 21) → (k_read κ2 τ true).2.1 p i = κ1 p i := fun p i x y w v u => by
      have er1 : k_read κ2 τ true = k_rdL 401 0 (k_rd0 κ2 true) τ := rfl
      rw [er1, rdL_fr x w v (by omega) 401 0 _ _ (.inr u)]
      refine Eq.trans ?_ (fr0 p i x y w v)
      unfold k_rd0
      exact (tok0_at _ (by omega)).trans ((if_neg (by omega)).trans ((if_neg (by omega)).trans ((if_neg (by omega)).trans (if_neg (by omega)))))
    have tt1 : tG τ (k_read κ2 τ true).2.2 := (rdL_t 401 0 _ _).1
    have dr : ((k_read κ2 τ true).1 = -1 ∧ (k_read κ2 τ true).2.1 5 6 = β 100 25 ∧ ¬ β 100 25 = 0) ∨ ((k_read κ2 τ true).1 = nI n ∧ β 100 25 = 0 ∧ rdS true (k_read κ2 τ true).2.1 β (k_read κ2 τ true).2.2) := T2 κ2 R1 R2
    generalize k_read κ2 τ true = Z at *
    obtain ⟨r0, κ3, τ3⟩ := Z
    have fr1 : ∀ p i, ¬ (p = 5 ∧ (i = 4 ∨ i = 6 ∨ i = 7)) → ¬ p = 6 → ¬ p = 80 → ¬ p = 81 → ¬ (10 ≤ p ∧ p ≤ 21) → κ3 p i = κ1 p i := fr1
    rcases dr with x | ⟨r1, -, r3⟩
    · exact absurd g2 x.2.2
    · have r1 : r0 = nI n := r1
      have r3 : rdS true κ3 β τ3 := r3
      refine .mk hst htt (by decide) (by decide) r1 (h.fr2 (r3.2.2.2.2.2.2.2 rfl) ⟨0, by decide, ?_, ?_, fun i hi => absurd hi (Nat.not_lt_zero _), ?_⟩ (fun p i x => (fr1 p i (by omega) (by omega) (by omega) (by omega) (by omega)).trans (kF p i (by omega))) (fun p i x => ?_) tt1 r3.2.2.2.2.2.2.1.2.2)
      · exact (fr1 5 5 (by omega) (by omega) (by omega) (by omega) (by omega)).trans e55
      · show β 100 22 = nI 0
        rw [rAt 100 22 (by omega) (by omega) (by omega) (by omega)]; exact b22
      · show κ3 5 6 = β 100 25
        rw [r3.2.2.2.2.1, g2]
      · show β p i = α p i
        rw [rAt p i (by omega) (by omega) (by omega) (by omega)]; exact aF p i (by omega) (by omega)
end TE
