/-! a literal, both alike -/
section LJ
variable {b κ κ' α α' : Nat → Nat → Int32} {m j : Nat}
theorem number_st {β : Nat → Nat → Int32} (h : ¬ β 100 25 = 0) : a_number β 100 25 = β 100 25 := by
  unfold a_number a_fails
  split
  · exact zup_i (by decide)
  · rw [zup_i (by decide), if_neg h]; exact zup_i (by decide)
/-- a fault stays -/
theorem lit_st {u f : Bool} (h : ¬ a_b5 α f 100 25 = 0) : a_lit α u f = a_b5 α f ∧ a_litV α u f = nI 0 := by
  have e6 : a_b6 α u f = a_b5 α f := by unfold a_b6; rw [if_neg (fun x => h x.1)]
  have e7 : a_b7 α u f = a_b5 α f := by unfold a_b7; rw [e6, if_neg (fun x => h x.1)]
  unfold a_lit a_litV
  rw [e7, if_neg h, if_neg h]
  exact ⟨rfl, rfl⟩
theorem rdR.lit (h : rdR b κ α m j) (h0 : α 100 25 = 0) {u f : Bool} {tk : Int32} (ht : ∀ v, 1 ≤ v → v ≤ 30 → ((u = true ∧ ¬ α 126 v = 0) ↔ kt tk v = true)) :
    ((k_rl κ (α 101 0) tk f).1 = 0 ∧ (k_rl κ (α 101 0) tk f).2 5 6 = a_lit α u f 100 25 ∧ ¬ a_lit α u f 100 25 = 0) ∨
    (f = false ∧ (k_rl κ (α 101 0) tk f).1 = a_litV α u f ∧ ¬ (k_rl κ (α 101 0) tk f).1 = 0 ∧ lok (aV α) (a_litV α u f) ∧ (u = true → α 126 (zv (a_litV α u f)) = 0) ∧ a_lit α u f 100 25 = 0 ∧ (∃ j', j < j' ∧ rdR b (k_rl κ (α 101 0) tk f).2 (a_lit α u f) m j') ∧ (∀ p i, ¬ (p = 5 ∧ (i = 4 ∨ i = 7)) → (k_rl κ (α 101 0) tk f).2 p i = κ p i) ∧ ∀ p i, ¬ (p = 100 ∧ i = 24) → a_lit α u f p i = if p = 126 ∧ i = zv (a_litV α u f) then nI 1 else α p i) := by
  have C := h.chr
  have V1 := h.2.2.1.2.2.1
  have V2 := h.2.2.1.2.2.2
  have hL := h.2.1.1
  have FT := flt_tab _ h.pl
  have mi : a_mi α = decide (κ 5 7 = -1) := by unfold a_mi; exact decide_eq_decide.mpr C.1
  have hh := h.here
  by_cases e1 : κ 5 7 = -1 ∧ f = true
  · left
    have emi : a_mi α = true := by rw [mi]; exact decide_eq_true e1.1
    have e3 : a_b3 α f 100 25 = nI 3 + nI 8 * nI (tkP b j) := by
      unfold a_b3
      rw [emi, e1.2, if_pos (show (true && true) = true from rfl), zup_i (by decide)]
      unfold a_fails
      rw [a_here_at (.inr (by decide)), if_pos h0, zup_same, h.2.2.2]
    have e4 : a_b4 α f 100 25 = nI 3 + nI 8 * nI (tkP b j) := by unfold a_b4; rw [a_here_at (.inr (by decide)), e3]
    have e5 : a_b5 α f 100 25 = nI 3 + nI 8 * nI (tkP b j) := by unfold a_b5; rw [number_st (by rw [e4]; exact FT.2.2), e4]
    have n5 : ¬ a_b5 α f 100 25 = 0 := by rw [e5]; exact FT.2.2
    have er : k_rl κ (α 101 0) tk f = (nI 0, k_ref κ (nI 3)) := by unfold k_rl; rw [if_pos e1]
    rw [er, (lit_st (u := u) n5).1, e5]
    exact ⟨rfl, h.ref _, FT.2.2⟩
  · -- the sign is behind
    have S : ∃ j1, j ≤ j1 ∧ rdR b (k_rl1 κ) (a_b3 α f) m j1 ∧ a_b3 α f 100 25 = 0 ∧ (∀ p i, ¬ (p = 5 ∧ (i = 4 ∨ i = 7)) → k_rl1 κ p i = κ p i) := by
      by_cases e : κ 5 7 = -1
      · have hf : f = false := by cases f with | false => rfl | true => exact absurd ⟨e, rfl⟩ e1
        have hj := h.lt (by rw [e]; decide)
        have emi : a_mi α = true := by rw [mi]; exact decide_eq_true e
        obtain ⟨lt, tk⟩ := h.1.tok.1 hj
        have b45 : b 77 (tkP b j) = nI 45 := (tok_kind lt).1.mp (tk ▸ e)
        have eo : k_eot b (tkP b j) = tkP b j + 1 := by
          unfold k_eot
          rw [if_neg (by unfold k_dg; rw [b45]; decide), if_neg (by unfold k_lt; rw [b45]; decide)]
        have e3 : a_b3 α f = zup (a_here α) 100 24 (nI (k_eot b (tkP b j))) := by
          unfold a_b3
          rw [emi, hf, if_neg (by decide), eo, h.2.2.2]; rfl
        have er : k_rl1 κ = k_adv κ := by unfold k_rl1; rw [if_pos e]
        refine ⟨j + 1, by omega, by rw [e3, er]; exact hh.adv hj, ?_, fun p i x => ?_⟩
        · rw [e3, zup_i (by decide), a_here_at (.inr (by decide))]; exact h0
        · rw [er, (h.1.adv hj).1]; exact tok0_at _ x
      · have emi : a_mi α = false := by rw [mi]; exact decide_eq_false e
        have e3 : a_b3 α f = a_here α := by
          unfold a_b3
          rw [emi, Bool.false_and, if_neg (by decide)]
          exact zup_self (by unfold a_here; exact zup_same _ _ _ _)
        have er : k_rl1 κ = κ := by unfold k_rl1; rw [if_neg e]
        rw [e3, er]
        exact ⟨j, Nat.le_refl _, hh, by rw [a_here_at (.inr (by decide))]; exact h0, fun _ _ _ => rfl⟩
    obtain ⟨j1, jj, R3, z3, k1⟩ := S
    have R4 := R3.here
    have z4 : a_b4 α f 100 25 = 0 := by unfold a_b4; rw [a_here_at (.inr (by decide))]; exact z3
    have F1 := flt_tab _ R3.pl
    have hp3 : a_hp (a_b3 α f) = tkP b j1 := R3.2.2.2
    rcases R4.num z4 with ⟨t1, t2⟩ | ⟨t1, t2, t3, t4, t5⟩
    · left
      have e5 : a_b5 α f 100 25 = nI 1 + nI 8 * nI (tkP b j1) := t2
      have n5 : ¬ a_b5 α f 100 25 = 0 := by rw [e5]; exact F1.1
      have er : k_rl κ (α 101 0) tk f = (nI 0, k_ref (k_rl1 κ) (nI 1)) := by unfold k_rl; rw [if_neg e1, if_pos t1]
      rw [er, (lit_st (u := u) n5).1, e5]
      exact ⟨rfl, R3.ref _, F1.1⟩
    · have lv : a_nv (a_here (a_b3 α f)) = a_lv α f := rfl
      rw [lv] at t3 t4
      have e5 : a_b5 α f = zup (a_b4 α f) 100 24 (nI (k_eot b (tkP b j1))) := t5
      have z5 : a_b5 α f 100 25 = 0 := by rw [e5, zup_i (by decide)]; exact z4
      have at5 : ∀ p i, ¬ (p = 100 ∧ i = 24) → a_b5 α f p i = α p i := fun p i x => by
        by_cases y : p = 100 ∧ i = 25
        · rw [y.1, y.2, z5, h0]
        · exact a_b5_at (by omega)
      have vb : a_isVar (a_b5 α f) (nI (a_lv α f)) = true ↔ (1 ≤ a_lv α f ∧ a_lv α f ≤ aV α) := by
        unfold a_isVar
        rw [at5 101 0 (by omega), V1, Bool.and_eq_true, decide_eq_true_eq, decide_eq_true_eq, nI_leI (by decide) (by omega), nI_leI (by omega) (by omega)]
      have bad : (k_rl1 κ 5 7 < nI 1 ∨ α 101 0 < k_rl1 κ 5 7 ∨ ¬ tk &&& kb (k_rl1 κ 5 7) = 0) ↔ (a_isVar (a_b5 α f) (nI (a_lv α f)) = false ∨ (u = true ∧ ¬ a_b5 α f 126 (a_lv α f) = 0)) := by
        rw [t3, V1, at5 126 _ (by omega), nI_ltI (by omega) (by decide), nI_ltI (by omega) (by omega)]
        by_cases g : 1 ≤ a_lv α f ∧ a_lv α f ≤ aV α
        · rw [vb.mpr g, kt_niff tk g.1 (by omega), ← ht _ g.1 (by omega)]
          constructor
          · rintro (x | x | x)
            · omega
            · omega
            · exact .inr x
          · rintro (x | x)
            · exact absurd x (by decide)
            · exact .inr (.inr x)
        · have : a_isVar (a_b5 α f) (nI (a_lv α f)) = false := by
            cases x : a_isVar (a_b5 α f) (nI (a_lv α f)) with
            | false => rfl
            | true => exact absurd (vb.mp x) g
          rw [this]
          refine ⟨fun _ => .inl rfl, fun _ => ?_⟩
          omega
      by_cases e2 : k_rl1 κ 5 7 < nI 1 ∨ α 101 0 < k_rl1 κ 5 7 ∨ ¬ tk &&& kb (k_rl1 κ 5 7) = 0
      · left
        have e6 : a_b6 α u f = a_fails (a_b5 α f) (nI 2) (nI (tkP b j1)) := by unfold a_b6; rw [if_pos ⟨z5, bad.mp e2⟩, hp3]
        have v6 : a_b6 α u f 100 25 = nI 2 + nI 8 * nI (tkP b j1) := by rw [e6]; unfold a_fails; rw [if_pos z5, zup_same]
        have n6 : ¬ a_b6 α u f 100 25 = 0 := by rw [v6]; exact F1.2.1
        have e7 : a_b7 α u f = a_b6 α u f := by unfold a_b7; rw [if_neg (fun x => n6 x.1)]
        have el : a_lit α u f = a_b6 α u f := by unfold a_lit; rw [e7, if_neg n6]
        have er : k_rl κ (α 101 0) tk f = (nI 0, k_ref (k_rl1 κ) (nI 2)) := by unfold k_rl; rw [if_neg e1, if_neg t1, if_pos e2]
        rw [er, el, v6]
        exact ⟨rfl, R3.ref _, F1.2.1⟩
      · have e6 : a_b6 α u f = a_b5 α f := by unfold a_b6; rw [if_neg (fun x => e2 (bad.mpr x.2))]
        have g : 1 ≤ a_lv α f ∧ a_lv α f ≤ aV α := by
          refine vb.mp ?_
          cases x : a_isVar (a_b5 α f) (nI (a_lv α f)) with
          | true => rfl
          | false => exact absurd (bad.mpr (.inl x)) e2
        have gu : u = true → α 126 (a_lv α f) = 0 := fun hu => by
          by_cases x : α 126 (a_lv α f) = 0
          · exact x
          · exact absurd (bad.mpr (.inr ⟨hu, by rw [at5 126 _ (by omega)]; exact x⟩)) e2
        cases f with
        | true =>
          left
          have e7 : a_b7 α u true = a_fails (a_b5 α true) (nI 3) (nI (tkP b j1)) := by unfold a_b7; rw [e6, if_pos ⟨z5, rfl⟩, hp3]
          have v7 : a_b7 α u true 100 25 = nI 3 + nI 8 * nI (tkP b j1) := by rw [e7]; unfold a_fails; rw [if_pos z5, zup_same]
          have n7 : ¬ a_b7 α u true 100 25 = 0 := by rw [v7]; exact F1.2.2
          have el : a_lit α u true = a_b7 α u true := by unfold a_lit; rw [if_neg n7]
          have er : k_rl κ (α 101 0) tk true = (nI 0, k_ref (k_rl1 κ) (nI 3)) := by unfold k_rl; rw [if_neg e1, if_neg t1, if_neg e2, if_pos rfl]
          rw [er, el, v7]
          exact ⟨rfl, R3.ref _, F1.2.2⟩
        | false =>
          right
          have e7 : a_b7 α u false = a_b5 α false := by unfold a_b7; rw [e6, if_neg (fun x => absurd x.2 (by decide))]
          have el : a_lit α u false = zup (a_b5 α false) 126 (a_lv α false) (nI 1) := by unfold a_lit; rw [e7, if_pos z5]
          have ev : a_litV α u false = if κ 5 7 = -1 then -(nI (a_lv α false)) else nI (a_lv α false) := by
            unfold a_litV
            rw [e7, if_pos z5, mi]
            by_cases x : κ 5 7 = -1
            · rw [if_pos (decide_eq_true x), if_pos x]
            · rw [if_neg (by rw [decide_eq_false x]; decide), if_neg x]
          have er : k_rl κ (α 101 0) tk false = (if κ 5 7 = -1 then -(nI (a_lv α false)) else nI (a_lv α false), k_adv (k_rl1 κ)) := by unfold k_rl; rw [if_neg e1, if_neg t1, if_neg e2, if_neg (by decide), t3]
          have zz : zv (a_litV α u false) = a_lv α false := by
            rw [ev]; split
            · exact zvm (by omega)
            · exact zvn (by omega)
          have N := zv_tab (v := a_lv α false) (by omega) (by omega)
          have R5 := R4.adv t2
          rw [er, zz, el]
          refine ⟨rfl, ev.symm, ?_, ?_, gu, by rw [zup_p (by decide)]; exact z5, ⟨j1 + 1, by omega, ?_⟩, fun p i x => ?_, fun p i x => ?_⟩
          · show ¬ (if κ 5 7 = -1 then -(nI (a_lv α false)) else nI (a_lv α false)) = 0
            split
            · exact N.2.2.2.1
            · exact N.2.2.1
          · rw [ev]
            refine ⟨a_lv α false, g.1, g.2, ?_⟩
            split
            · exact .inr rfl
            · exact .inl rfl
          · rw [e5]
            refine R5.of (fun _ _ => rfl) (fun _ _ _ => rfl) (zup_p (by decide)) (zup_p (by decide)) (fun i => zup_p (by decide)) ?_
            have eV : aV (zup (zup (a_b4 α false) 100 24 (nI (k_eot b (tkP b j1)))) 126 (a_lv α false) (nI 1)) = aV α := by
              unfold aV; rw [zup_p (by decide), ← e5, at5 101 0 (by omega)]
            rw [eV, zup_p (by decide), ← e5, at5 101 0 (by omega)]
            exact ⟨V1, V2⟩
          · show k_adv (k_rl1 κ) p i = κ p i
            rw [(R3.1.adv t2).1, tok0_at _ x]; exact k1 p i x
          · by_cases y : p = 126 ∧ i = a_lv α false
            · rw [if_pos y, y.1, y.2, zup_same]
            · rw [if_neg y]
              exact (if_neg y).trans (at5 p i x)
end LJ
