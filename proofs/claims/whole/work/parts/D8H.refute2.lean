/-! refute, as a call: the whole -/
section RH
variable {E : zEnv} {κ κ' α α' : Nat → Nat → Int32} {τ : (Nat → Nat → Int64) × (Nat → Nat)} {k p i : Nat}
theorem lnF_5 {l : Int32} (h4 : ¬ p = 4) : k_lnF κ l p i = κ p i := by
  unfold k_lnF
  split
  · exact zup_p h4
  · exact zup_p h4
theorem lnL_5 {V : Int32} (x : ¬ (p = 5 ∧ (i = 4 ∨ i = 6 ∨ i = 7))) (h4 : ¬ p = 4) : ∀ n (κ : Nat → Nat → Int32), (k_lnL V n κ).2 p i = κ p i
  | 0, κ => rfl
  | n + 1, κ => by
    unfold k_lnL
    split
    · rfl
    · split
      · exact rl_5 x
      · exact (lnL_5 x h4 n _).trans ((lnF_5 h4).trans (rl_5 x))
theorem line_5 {V : Int32} (x : ¬ (p = 5 ∧ (i = 4 ∨ i = 6 ∨ i = 7))) (h4 : ¬ p = 4) : (k_line κ V).2 p i = κ p i := by
  unfold k_line
  exact (lnL_5 x h4 _ _).trans ((zup_p h4).trans (zup_p h4))
theorem lg1_5 (h4 : ¬ p = 4) (h75 : ¬ p = 75) (h76 : ¬ p = 76) : k_lg1 κ p i = κ p i := by
  unfold k_lg1
  rw [k_take_p h4 h75 h76, zup_p h4]
theorem lgL_5 {V : Int32} (x : ¬ (p = 5 ∧ (i = 4 ∨ i = 6 ∨ i = 7))) (h4 : ¬ p = 4) (h75 : ¬ p = 75) (h76 : ¬ p = 76) : ∀ n al c (κ : Nat → Nat → Int32), (k_lgL V n al c κ).2 p i = κ p i
  | 0, al, c, κ => rfl
  | n + 1, al, c, κ => by
    unfold k_lgL
    split
    · rfl
    · split
      · split
        · exact (lgL_5 x h4 h75 h76 n _ _ _).trans ((adv_5 x).trans ((lg1_5 h4 h75 h76).trans (line_5 x h4)))
        · exact (lgL_5 x h4 h75 h76 n _ _ _).trans ((adv_5 x).trans (line_5 x h4))
      · exact line_5 x h4
theorem rdO_at (h : ¬ p = 118 ∧ ¬ (p = 119 ∧ ¬ i = 0) ∧ ¬ p = 126 ∧ ¬ (p = 100 ∧ (i = 20 ∨ i = 24 ∨ i = 25))) : ∀ n (α : Nat → Nat → Int32), a_rdO n α p i = α p i
  | 0, α => rfl
  | n + 1, α => by
    have e2 : a_here α p i = α p i := a_here_at (by omega)
    unfold a_rdO
    split
    · split
      · exact e2
      · refine (rdO_at h n _).trans ?_
        unfold a_rdS
        refine (if_neg (by omega)).trans ((if_neg (by omega)).trans ((if_neg (by omega)).trans ?_))
        unfold a_rdx
        exact (a_rdI_at (by omega) _ _ _).trans ((clTold_p (by omega)).trans e2)
    · rfl
theorem re0_at (h : ¬ (p = 100 ∧ (i = 0 ∨ i = 20 ∨ i = 22 ∨ i = 23 ∨ i = 24 ∨ i = 25)) ∧ ¬ (p = 119 ∧ i = 0)) : a_re0 α p i = α p i := by
  unfold a_re0
  exact (if_neg h.2).trans ((if_neg (by omega)).trans (st0_at (by omega)))
theorem y_refute (h : zI k κ α τ) : zCall E zI k κ α τ mX8_refute mX9_refute [] := by
  have hW := h.1.1.1.2.1
  have kW := h.1.1.1.2.2.2
  have h4 := hW.2.1.2
  obtain ⟨t, t1, t2, t3, t4, t5⟩ := h.2.1
  obtain ⟨w1, w2, w3⟩ := told_rows h.1 (aN α) (Nat.le_refl _)
  have et : k_told κ = zit (k_tdF κ) 0 (aN α) (zup κ 4 2 (nI 0)) := by unfold k_told; rw [h.1.1.1.1.n]
  rw [← et] at w1 w2 w3
  have eLog : k_log κ = k_lgL (κ 10 4) 401 true 0 (zup (k_start (k_told κ)) 4 5 (nI 0)) := rfl
  generalize hb : k_told κ = b at *
  obtain ⟨m, st, s4, s7, s6, sF⟩ := start_is (κ := b) ((congrFun (w3 5 (by decide) (by decide) (by decide)) 5).trans t2) t1
  -- the class's beginning
  have kF : ∀ p i, ¬ p = 4 → ¬ p = 75 → ¬ p = 76 → ¬ (p = 78 ∨ p = 79 ∨ (p = 5 ∧ (i = 3 ∨ i = 4 ∨ i = 6 ∨ i = 7))) → zup (k_start b) 4 5 (nI 0) p i = κ p i := fun p i x y z w => (zup_p x).trans ((sF p i w).trans (congrFun (w3 p x y z) i))
  have e0 : ∀ p i, ¬ (p = 4 ∧ i = 5) → zup (k_start b) 4 5 (nI 0) p i = k_start b p i := fun p i x => if_neg x
  have r75 : ∀ i, zup (k_start b) 4 5 (nI 0) 75 i = b 75 i ∧ zup (k_start b) 4 5 (nI 0) 76 i = b 76 i := fun i => ⟨(e0 75 i (by omega)).trans (sF 75 i (by omega)), (e0 76 i (by omega)).trans (sF 76 i (by omega))⟩
  have r42 : zup (k_start b) 4 5 (nI 0) 4 2 = nI (zcnt (zNl α) 0 (aN α)) := ((e0 4 2 (by omega)).trans (sF 4 2 (by omega))).trans w1
  have r45 : zup (k_start b) 4 5 (nI 0) 4 5 = nI 0 := zup_same _ _ _ _
  have tn : tkN b (zup (k_start b) 4 5 (nI 0)) m 0 := ⟨st.of (e0 5 3 (by omega)) (funext fun i => e0 78 i (by omega)) (funext fun i => e0 79 i (by omega)), Nat.zero_le _, (e0 5 4 (by omega)).trans s4, by rw [e0 5 7 (by omega), e0 78 0 (by omega)]; exact s7⟩
  have z56 : zup (k_start b) 4 5 (nI 0) 5 6 = 0 := (e0 5 6 (by omega)).trans s6
  generalize zup (k_start b) 4 5 (nI 0) = κ1 at *
  -- the reference's beginning
  have aF1 : ∀ p i, ¬ (p = 100 ∧ (i = 0 ∨ i = 20 ∨ i = 22 ∨ i = 23 ∨ i = 24 ∨ i = 25)) ∧ ¬ (p = 119 ∧ i = 0) → a_re0 α p i = α p i := fun p i x => re0_at x
  have b20 : a_re0 α 100 20 = nI 0 := by unfold a_re0; rw [zup_p (by decide), zup_same]
  have b90 : a_re0 α 119 0 = nI 0 := by unfold a_re0; rw [zup_same]
  have bs : ∀ i, ¬ i = 20 → a_re0 α 100 i = a_st0 α 100 i := fun i x => by unfold a_re0; rw [zup_p (by decide), zup_i x]
  have b22 : a_re0 α 100 22 = nI 0 := (bs 22 (by decide)).trans (by unfold a_st0; rw [zup_i (by decide), zup_i (by decide), zup_same])
  have b23 : a_re0 α 100 23 = nI t := (bs 23 (by decide)).trans (by unfold a_st0; rw [zup_i (by decide), zup_i (by decide), zup_i (by decide), zup_same, a0_p (by omega)]; exact t3)
  have b24 : a_re0 α 100 24 = nI 0 := (bs 24 (by decide)).trans (by unfold a_st0; rw [zup_i (by decide), zup_same])
  have b25 : a_re0 α 100 25 = 0 := (bs 25 (by decide)).trans (by unfold a_st0; rw [zup_same]; rfl)
  have hst := fun d => s_refuteA (E := E) (κ := κ) (α := α) (τ := τ) d kW.1.1 kW.1.2 t2 t1
  have htt := fun (d R : Nat) => t_refute (E := E) (κ := (k_refute κ).2) (α := α) (τ := τ) d (R := R)
  have eA : a_refute α = if a_rdO 500 (a_re0 α) 100 25 = 0 then (nI (a_rfK (aRm (a_rdO 500 (a_re0 α))) 0 (zup (a_rdO 500 (a_re0 α)) 101 15 (nI 0))).1, (a_rfK (aRm (a_rdO 500 (a_re0 α))) 0 (zup (a_rdO 500 (a_re0 α)) 101 15 (nI 0))).2) else (-1, a_rdO 500 (a_re0 α)) := rfl
  have eK : k_refute κ = ((k_log κ).1, if (k_log κ).1 = -1 then zup (k_log κ).2 5 5 (nI 0) else zup (zup (k_log κ).2 5 5 (nI 0)) 10 16 (if (k_log κ).2 4 5 = 0 then nI 0 else nI 1)) := rfl
  generalize a_re0 α = α1 at *
  have aV1 : aV α1 = aV α := by unfold aV; rw [aF1 101 0 (by omega)]
  have V1 : α1 101 0 = nI (aV α1) ∧ aV α1 ≤ 30 := by rw [aV1, aF1 101 0 (by omega)]; exact hW.1
  have fz : aF α1 0 = 0 := by unfold aF; rw [b90]; rfl
  have T80 : zcnt (zNl α) 0 (aN α) ≤ 80 := by
    obtain ⟨n, n1, n2⟩ := h.2.2.2.2.1.2.1
    have g6 := h.1.1.2.2.2.2.2.2.2.2.2.2
    have z := zcnt_le (a_learnt α) (aN α) 0
    have := w_nI (by omega) (by omega) (n2.symm.trans g6)
    have tz := tz_le h.1 (Nat.le_refl (aN α))
    omega
  have RD : rdR b κ1 α1 m 0 := rd_begin b23 b24 t1 ((congrFun (w3 5 (by decide) (by decide) (by decide)) 5).trans t2) (fun i hi => by rw [aF1 121 i (by omega), congrFun (w3 77 (by decide) (by decide) (by decide)) i]; exact t4 i hi) V1 tn
  have A0 : lgA α1 0 := ⟨b20, ⟨by decide, fun k hk => by
    have : k = 0 := by omega
    subst this; rw [fz]; exact ⟨b90, by decide⟩, fun k hk => by omega, fun k hk => by omega⟩, fun k hk => by omega⟩
  have K0 : lgK b κ1 α1 (zcnt (zNl α) 0 (aN α)) true 0 0 := ⟨fun i _ => r75 i, fun k hk => by omega, r42, Nat.le_refl _, fun _ => rfl, fun k hk => by omega, fun x => absurd x (by decide), .inl r45, ⟨fun x => absurd r45 x, fun ⟨k, x, _⟩ => by omega⟩⟩
  have hV : κ 10 4 = α1 101 0 := by rw [aF1 101 0 (by omega)]; exact h.1.1.2.1.1
  have hm : m ≤ 400 := st.1
  obtain ⟨ok, dr⟩ := lg_sim (b := b) (t := b) (V := κ 10 4) T80 500 401 true 0 κ1 α1 0 0 (by omega) (by omega) RD b25 z56 hV A0 K0 (by rw [fz]; exact ⟨by omega, fun _ _ => by omega⟩) (Nat.le_refl _)
  have fk : ∀ p i, ¬ (p = 5 ∧ (i = 4 ∨ i = 6 ∨ i = 7)) → ¬ p = 4 → ¬ p = 75 → ¬ p = 76 → (k_log κ).2 p i = κ1 p i := fun p i x a b c => by rw [eLog]; exact lgL_5 x a b c _ _ _ _
  have fa : ∀ p i, ¬ p = 118 ∧ ¬ (p = 119 ∧ ¬ i = 0) ∧ ¬ p = 126 ∧ ¬ (p = 100 ∧ (i = 20 ∨ i = 24 ∨ i = 25)) → a_rdO 500 α1 p i = α1 p i := fun p i x => rdO_at x 500 α1
  rw [← eLog] at dr
  rw [eK] at hst htt
  rw [eA] at htt
  generalize k_log κ = X at *
  obtain ⟨r0, κ2⟩ := X
  generalize a_rdO 500 α1 = Y at *
  have fk : ∀ p i, ¬ (p = 5 ∧ (i = 4 ∨ i = 6 ∨ i = 7)) → ¬ p = 4 → ¬ p = 75 → ¬ p = 76 → κ2 p i = κ1 p i := fk
  have fk2 : ∀ p i, ¬ p = 5 → ¬ p = 4 → ¬ p = 75 → ¬ p = 76 → ¬ (p = 78 ∨ p = 79) → κ2 p i = κ p i := fun p i x a b c e => (fk p i (by omega) a b c).trans (kF p i a b c (by omega))
  have fy : ∀ i, Y 101 i = α 101 i := fun i => (fa 101 i (by omega)).trans (aF1 101 i (by omega))
  have fy2 : ∀ p i, p = 103 ∨ p = 104 → Y p i = α p i := fun p i x => (fa p i (by omega)).trans (aF1 p i (by omega))
  have y90 : Y 119 0 = nI 0 := (fa 119 0 (by omega)).trans b90
  have y22 : Y 100 22 = nI 0 := (fa 100 22 (by omega)).trans b22
  rcases dr with ⟨f1, f2, f3⟩ | ⟨al, cnt, R, g1, g2, g3, g4, g5, g6⟩
  · have f1 : r0 = -1 := f1
    have f2 : κ2 5 6 = Y 100 25 := f2
    subst f1
    have htt := fun d => htt d 0 ok (fun x => absurd x f3)
    rw [if_neg f3] at htt
    have hst : ∀ d, zTr E (d + 9) mX8_refute [.ref 0] (κ, α, τ) (some (.int (-1))) (zup κ2 5 5 (nI 0), α, τ) := hst
    have htt : ∀ d, zTr E (d + 5) mX9_refute [.ref 100] (zup κ2 5 5 (nI 0), α, τ) (some (.int (-1))) (zup κ2 5 5 (nI 0), Y, τ) := htt
    have z5 : ∀ p i, ¬ (p = 5 ∧ i = 5) → zup κ2 5 5 (nI 0) p i = κ2 p i := fun p i x => if_neg x
    refine .mk hst htt (by decide) (by decide) rfl (h.up (h.1.of (fun p a b => funext fun i => (z5 p i (by omega)).trans (fk2 p i (by omega) (by omega) (by omega) (by omega) (by omega))) (fun i _ => fy i) rfl) ⟨0, by decide, zup_same _ _ _ _, y22, fun i hi => absurd hi (Nat.not_lt_zero _), (z5 5 6 (by omega)).trans f2⟩ (fun p hp => funext fun i => (z5 p i (by omega)).trans (fk2 p i (by omega) (by omega) (by omega) (by omega) (by omega))) (funext fun i => fy2 103 i (by omega)) (funext fun i => fy2 104 i (by omega)) y90 tG.rf (by rw [fy]; exact h.2.2.2.2.1.2.1))
  · have g1 : r0 = nI cnt := g1
    subst g1
    have g2 : κ2 5 6 = 0 := g2
    have g5 : lgK b κ2 Y (zcnt (zNl α) 0 (aN α)) al cnt R := g5
    have cR := g5.2.2.2.1
    have n1 : ¬ nI cnt = -1 := nI_nem1 (by omega)
    have eR : aRm Y = R := by unfold aRm; rw [g4.1]; exact nI_clamp (by omega)
    have wY : aW Y := by
      have e : Y 101 = α 101 := funext fun i => fy i
      unfold aW aV aN aS aL at hW ⊢
      rw [e]; exact hW
    have htt := fun d => htt d R ok (fun _ => ⟨g4.1, by omega, wY, g4.2.1, g4.2.2⟩)
    rw [if_pos g3, eR] at htt
    obtain ⟨q1, q2, q3, q4⟩ := rfK_sim (a := κ2) (Y := Y) h.1 rfl (fun c hc hl => w2 c hc hl) g4 g5 R 0 (zup Y 101 15 (nI 0)) (Nat.zero_add _) (Nat.zero_le _) (funext fun i => zup_p (by decide)) (funext fun i => zup_p (by decide)) (fun i x => (zup_i x).trans (fy i)) (.inl (zup_same _ _ _ _)) ⟨fun x => absurd (zup_same Y 101 15 (nI 0)) x, fun ⟨k', x, _⟩ => absurd x (Nat.not_lt_zero _)⟩
    generalize a_rfK R 0 (zup Y 101 15 (nI 0)) = Z at *
    obtain ⟨c2, β⟩ := Z
    have q1 : c2 = cnt := q1
    subst q1
    have q2 : rfF (zup Y 101 15 (nI 0)) β := q2
    have q3 : β 101 15 = 0 ∨ β 101 15 = nI 1 := q3
    have q4 : ¬ β 101 15 = 0 ↔ ∃ k', k' < c2 ∧ aF Y (k' + 1) = aF Y k' := q4
    have cl : (if κ2 4 5 = 0 then nI 0 else nI 1) = β 101 15 := by
      have k8 := g5.2.2.2.2.2.2.2.2
      by_cases x : κ2 4 5 = 0
      · rw [if_pos x]
        rcases q3 with y | y
        · rw [y]; rfl
        · have := k8.mpr (q4.mp (by rw [y]; decide))
          exact absurd x this
      · rw [if_neg x]
        rcases q3 with y | y
        · exact absurd y (q4.mpr (k8.mp x))
        · exact y.symm
    have bY : ∀ p i, ¬ p = 101 → p ∉ aSc → β p i = Y p i := fun p i x y => (congrFun (q2.1 p y x) i).trans (zup_p x)
    have b101 : ∀ i, ¬ i = 15 → β 101 i = α 101 i := fun i x => (q2.2.1 i x).trans ((zup_i x).trans (fy i))
    have b100 : ∀ i, ¬ i = 10 → ¬ i = 11 → β 100 i = Y 100 i := fun i x y => (q2.2.2 i x y).trans (zup_p (by decide))
    have hst : ∀ d, zTr E (d + 9) mX8_refute [.ref 0] (κ, α, τ) (some (.int (nI c2))) (if nI c2 = -1 then zup κ2 5 5 (nI 0) else zup (zup κ2 5 5 (nI 0)) 10 16 (if κ2 4 5 = 0 then nI 0 else nI 1), α, τ) := hst
    have htt : ∀ d, zTr E (d + 5) mX9_refute [.ref 100] (if nI c2 = -1 then zup κ2 5 5 (nI 0) else zup (zup κ2 5 5 (nI 0)) 10 16 (if κ2 4 5 = 0 then nI 0 else nI 1), α, τ) (some (.int (nI c2))) (if nI c2 = -1 then zup κ2 5 5 (nI 0) else zup (zup κ2 5 5 (nI 0)) 10 16 (if κ2 4 5 = 0 then nI 0 else nI 1), β, τ) := htt
    rw [if_neg n1, cl] at hst htt
    have z5 : ∀ p i, ¬ (p = 5 ∧ i = 5) → ¬ (p = 10 ∧ i = 16) → zup (zup κ2 5 5 (nI 0)) 10 16 (β 101 15) p i = κ2 p i := fun p i x y => (if_neg y).trans (if_neg x)
    refine .mk hst htt (by decide) (by decide) rfl (h.up (h.1.clo (x := β 101 15) (fun p i a b x => (z5 p i (by omega) (by omega)).trans (fk2 p i (by omega) (by omega) (by omega) (by omega) (by omega))) (zup_same _ _ _ _) b101 rfl) ⟨0, by decide, (zup_p (by decide)).trans (zup_same _ _ _ _), (b100 22 (by decide) (by decide)).trans y22, fun i hi => absurd hi (Nat.not_lt_zero _), ?_⟩ (fun p hp => funext fun i => (z5 p i (by omega) (by omega)).trans (fk2 p i (by omega) (by omega) (by omega) (by omega) (by omega))) (funext fun i => (bY 103 i (by decide) (by decide)).trans (fy2 103 i (by omega))) (funext fun i => (bY 104 i (by decide) (by decide)).trans (fy2 104 i (by omega))) ((bY 119 0 (by decide) (by decide)).trans y90) tG.rf (by rw [b101 2 (by decide)]; exact h.2.2.2.2.1.2.1))
    rw [z5 5 6 (by omega) (by omega), b100 25 (by decide) (by decide)]; exact Eq.trans g2 g3.symm
end RH
