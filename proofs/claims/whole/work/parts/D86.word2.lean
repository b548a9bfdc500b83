/-! the words, both alike -/
section WP
variable {b κ κ' α α' : Nat → Nat → Int32} {m j : Nat}
theorem isW_iff {k f t : Nat} : k_isW b k f t = true ↔ t - f = (zsl k).length ∧ ∀ j, j < (zsl k).length → b 77 (f + j) = (zsl k).getD j 0 := by
  unfold k_isW
  rw [Bool.and_eq_true, decide_eq_true_eq, Option.isNone_iff_eq_none]
  refine and_congr_right fun _ => ⟨fun x j hj => ?_, fun x => zfind_isn (fun j _ hj => decide_eq_false (fun y => y (x j (by omega))))⟩
  have := zfind_none x j (Nat.zero_le _) (by omega)
  exact Decidable.not_not.mp (of_decide_eq_false this)
theorem w_nI {x y : Nat} (hx : x < 2 ^ 31) (hy : y < 2 ^ 31) (h : nI x = nI y) : x = y := by
  have := congrArg Int32.toNatClampNeg h
  rwa [nI_clamp hx, nI_clamp hy] at this
theorem w_at {f : Nat} {d : Nat → Nat} (hw : ∀ j, j < k_eot b f - f → ∀ c, c ≤ 26 → (b 77 (f + j) = nI (96 + c) ↔ d j = c)) :
    (k_isW b 0 f (k_eot b f) = true ↔ k_eot b f - f = 4 ∧ d 0 = 7 ∧ d 1 = 18 ∧ d 2 = 15 ∧ d 3 = 23) ∧
    (k_isW b 1 f (k_eot b f) = true ↔ k_eot b f - f = 6 ∧ d 0 = 1 ∧ d 1 = 19 ∧ d 2 = 19 ∧ d 3 = 21 ∧ d 4 = 13 ∧ d 5 = 5) ∧
    (k_isW b 2 f (k_eot b f) = true ↔ k_eot b f - f = 5 ∧ d 0 = 16 ∧ d 1 = 8 ∧ d 2 = 1 ∧ d 3 = 19 ∧ d 4 = 5) := by
  refine ⟨isW_iff.trans ⟨?_, ?_⟩, isW_iff.trans ⟨?_, ?_⟩, isW_iff.trans ⟨?_, ?_⟩⟩
  · rintro ⟨l, a⟩
    have l : k_eot b f - f = 4 := l
    exact ⟨l, (hw 0 (by omega) 7 (by decide)).mp ((a 0 (by decide)).trans (by decide)), (hw 1 (by omega) 18 (by decide)).mp ((a 1 (by decide)).trans (by decide)), (hw 2 (by omega) 15 (by decide)).mp ((a 2 (by decide)).trans (by decide)), (hw 3 (by omega) 23 (by decide)).mp ((a 3 (by decide)).trans (by decide))⟩
  · rintro ⟨l, a0, a1, a2, a3⟩
    refine ⟨l, fun j hj => ?_⟩
    have hj : j < 4 := hj
    match j, hj with
    | 0, _ => exact ((hw 0 (by omega) 7 (by decide)).mpr a0).trans (by decide)
    | 1, _ => exact ((hw 1 (by omega) 18 (by decide)).mpr a1).trans (by decide)
    | 2, _ => exact ((hw 2 (by omega) 15 (by decide)).mpr a2).trans (by decide)
    | 3, _ => exact ((hw 3 (by omega) 23 (by decide)).mpr a3).trans (by decide)
  · rintro ⟨l, a⟩
    have l : k_eot b f - f = 6 := l
    exact ⟨l, (hw 0 (by omega) 1 (by decide)).mp ((a 0 (by decide)).trans (by decide)), (hw 1 (by omega) 19 (by decide)).mp ((a 1 (by decide)).trans (by decide)), (hw 2 (by omega) 19 (by decide)).mp ((a 2 (by decide)).trans (by decide)), (hw 3 (by omega) 21 (by decide)).mp ((a 3 (by decide)).trans (by decide)), (hw 4 (by omega) 13 (by decide)).mp ((a 4 (by decide)).trans (by decide)), (hw 5 (by omega) 5 (by decide)).mp ((a 5 (by decide)).trans (by decide))⟩
  · rintro ⟨l, a0, a1, a2, a3, a4, a5⟩
    refine ⟨l, fun j hj => ?_⟩
    have hj : j < 6 := hj
    match j, hj with
    | 0, _ => exact ((hw 0 (by omega) 1 (by decide)).mpr a0).trans (by decide)
    | 1, _ => exact ((hw 1 (by omega) 19 (by decide)).mpr a1).trans (by decide)
    | 2, _ => exact ((hw 2 (by omega) 19 (by decide)).mpr a2).trans (by decide)
    | 3, _ => exact ((hw 3 (by omega) 21 (by decide)).mpr a3).trans (by decide)
    | 4, _ => exact ((hw 4 (by omega) 13 (by decide)).mpr a4).trans (by decide)
    | 5, _ => exact ((hw 5 (by omega) 5 (by decide)).mpr a5).trans (by decide)
  · rintro ⟨l, a⟩
    have l : k_eot b f - f = 5 := l
    exact ⟨l, (hw 0 (by omega) 16 (by decide)).mp ((a 0 (by decide)).trans (by decide)), (hw 1 (by omega) 8 (by decide)).mp ((a 1 (by decide)).trans (by decide)), (hw 2 (by omega) 1 (by decide)).mp ((a 2 (by decide)).trans (by decide)), (hw 3 (by omega) 19 (by decide)).mp ((a 3 (by decide)).trans (by decide)), (hw 4 (by omega) 5 (by decide)).mp ((a 4 (by decide)).trans (by decide))⟩
  · rintro ⟨l, a0, a1, a2, a3, a4⟩
    refine ⟨l, fun j hj => ?_⟩
    have hj : j < 5 := hj
    match j, hj with
    | 0, _ => exact ((hw 0 (by omega) 16 (by decide)).mpr a0).trans (by decide)
    | 1, _ => exact ((hw 1 (by omega) 8 (by decide)).mpr a1).trans (by decide)
    | 2, _ => exact ((hw 2 (by omega) 1 (by decide)).mpr a2).trans (by decide)
    | 3, _ => exact ((hw 3 (by omega) 19 (by decide)).mpr a3).trans (by decide)
    | 4, _ => exact ((hw 4 (by omega) 5 (by decide)).mpr a4).trans (by decide)
theorem isl_f (h : a_isl α = false) : ¬ a_chr α = nI 45 ∧ a_dig (a_chr α) = false := by
  unfold a_isl at h
  rw [Bool.or_eq_false_iff] at h
  exact ⟨of_decide_eq_false h.1, h.2⟩
theorem rdR.word (h : rdR b κ α m j) (hj : j < m) (hi : a_isl α = false) : (a_wv (a_here α) = 151331 ↔ κ 5 7 = -3) ∧ (a_wv (a_here α) = 24835928 ↔ κ 5 7 = -4) ∧ (a_wv (a_here α) = 8661767 ↔ κ 5 7 = -5) ∧ (κ 5 7 = -3 ∨ κ 5 7 = -4 ∨ κ 5 7 = -5 → rdR b (k_adv κ) (a_wst α) m (j + 1)) := by
  obtain ⟨lt, tk⟩ := h.1.tok.1 hj
  obtain ⟨i1, i2⟩ := isl_f hi
  have C := h.2.1.chr h.2.2.2 lt
  have nd : k_dg b (tkP b j) = false := by rw [← C.2.1]; exact i2
  have n45 : ¬ b 77 (tkP b j) = nI 45 := fun x => i1 ((C.1 45 (by decide)).mpr x)
  have hh := h.here
  have eL : aLen (a_here α) = kLen b := hh.2.1.2.1
  have eP : a_hp (a_here α) = tkP b j := hh.2.2.2
  have eW : a_wv (a_here α) = a_woL (a_here α) (tkP b j) (kLen b - tkP b j) (tkP b j) 0 := by unfold a_wv; rw [eL, eP]
  have tx := hh.2.1
  have adv := hh.adv hj
  have wq : a_wq (a_here α) = zspan (a_let (a_here α)) (kLen b - tkP b j) (tkP b j) := by unfold a_wq; rw [eL, eP]
  rw [tk, eW]
  unfold a_wst
  rw [wq]
  generalize a_here α = β at *
  generalize tkP b j = f at *
  by_cases hl : k_lt b f = true
  · have er := eot_rng lt
    have ez : zspan (a_let β) (kLen b - f) f = k_eot b f := by
      unfold k_eot
      rw [if_neg (by rw [nd]; decide), if_pos hl, show kLen b - f = (kLen b - (f + 1)) + 1 from by omega]
      show (bif a_let β f then zspan (a_let β) (kLen b - (f + 1)) (f + 1) else f) = _
      rw [tx.lt lt, hl]
      exact zspan_cg _ _ (fun i a c => tx.lt (by omega))
    have zr := zspan_rng (a_let β) (kLen b - f) f
    rw [ez] at zr ⊢
    -- the letters
    have ld : ∀ k, ∃ d, (1 ≤ d ∧ d ≤ 26) ∧ (a_let β (f + k) = true → β 121 (f + k) = nI (96 + d)) := fun k => by
      by_cases x : a_let β (f + k) = true
      · obtain ⟨d, d1, d2, d3⟩ := let_is x
        exact ⟨d, ⟨d1, d2⟩, fun _ => d3⟩
      · exact ⟨1, by omega, fun y => absurd y x⟩
    obtain ⟨d, hd⟩ : ∃ d : Nat → Nat, ∀ k, (1 ≤ d k ∧ d k ≤ 26) ∧ (a_let β (f + k) = true → β 121 (f + k) = nI (96 + d k)) := ⟨fun k => Classical.choose (ld k), fun k => Classical.choose_spec (ld k)⟩
    have wv := wo_is (α := β) (p := f) (d := d) (fun k x => ⟨(hd k).2 x, by have := (hd k).1; omega⟩) (kLen b - f) 0
    have w0 : Int64.ofNat (wG d 0) = 0 := rfl
    rw [w0, Nat.add_zero, ez] at wv
    rw [wv]
    have h1 : ∀ k, 1 ≤ d k := fun k => (hd k).1.1
    have h2 : ∀ k, d k ≤ 26 := fun k => (hd k).1.2
    have W := w_at (b := b) (f := f) (d := d) (fun i hi c hc => by
      have := (hd i).2 (zr.2.2.1 (f + i) (by omega) (by omega))
      rw [(tx.2.2 (f + i) (by omega)).1, this]
      exact ⟨fun x => by have := w_nI (by have := h2 i; omega) (by omega) x; omega, fun x => by rw [x]⟩)
    have A0 : Int64.ofNat (wG d (k_eot b f - f)) = 151331 ↔ k_isW b 0 f (k_eot b f) = true := by
      refine (wG_is h2 (W := 151331) (by decide) (by decide)).trans ?_
      rw [W.1, w_grow h1 h2]
      exact ⟨fun x => x.2, fun x => ⟨by omega, x⟩⟩
    have A1 : Int64.ofNat (wG d (k_eot b f - f)) = 24835928 ↔ k_isW b 1 f (k_eot b f) = true := by
      refine (wG_is h2 (W := 24835928) (by decide) (by decide)).trans ?_
      rw [W.2.1, w_assume h1 h2]
      exact ⟨fun x => x.2, fun x => ⟨by omega, x⟩⟩
    have A2 : Int64.ofNat (wG d (k_eot b f - f)) = 8661767 ↔ k_isW b 2 f (k_eot b f) = true := by
      refine (wG_is h2 (W := 8661767) (by decide) (by decide)).trans ?_
      rw [W.2.2, w_phase h1 h2]
      exact ⟨fun x => x.2, fun x => ⟨by omega, x⟩⟩
    have T : k_tokOf b f (k_eot b f) = if k_isW b 0 f (k_eot b f) = true then -3 else if k_isW b 1 f (k_eot b f) = true then -4 else if k_isW b 2 f (k_eot b f) = true then -5 else -6 := by
      unfold k_tokOf; rw [if_neg (by rw [nd]; decide), if_pos hl]
    rw [A0, A1, A2, T]
    refine ⟨?_, ?_, ?_, fun _ => adv⟩
    · by_cases x : k_isW b 0 f (k_eot b f) = true
      · rw [if_pos x]; exact ⟨fun _ => rfl, fun _ => x⟩
      · rw [if_neg x]
        refine ⟨fun y => absurd y x, fun y => ?_⟩
        split at y
        · exact absurd y (by decide)
        · split at y
          · exact absurd y (by decide)
          · exact absurd y (by decide)
    · by_cases x : k_isW b 0 f (k_eot b f) = true
      · rw [if_pos x]
        refine ⟨fun y => ?_, fun y => absurd y (by decide)⟩
        have a := (W.1.mp x).1
        have c := (W.2.1.mp y).1
        omega
      · rw [if_neg x]
        by_cases y : k_isW b 1 f (k_eot b f) = true
        · rw [if_pos y]; exact ⟨fun _ => rfl, fun _ => y⟩
        · rw [if_neg y]
          refine ⟨fun z => absurd z y, fun z => ?_⟩
          split at z
          · exact absurd z (by decide)
          · exact absurd z (by decide)
    · by_cases x : k_isW b 0 f (k_eot b f) = true
      · rw [if_pos x]
        refine ⟨fun y => ?_, fun y => absurd y (by decide)⟩
        have a := (W.1.mp x).1
        have c := (W.2.2.mp y).1
        omega
      · rw [if_neg x]
        by_cases y : k_isW b 1 f (k_eot b f) = true
        · rw [if_pos y]
          refine ⟨fun z => ?_, fun z => absurd z (by decide)⟩
          have a := (W.2.1.mp y).1
          have c := (W.2.2.mp z).1
          omega
        · rw [if_neg y]
          by_cases z : k_isW b 2 f (k_eot b f) = true
          · rw [if_pos z]; exact ⟨fun _ => rfl, fun _ => z⟩
          · rw [if_neg z]; exact ⟨fun w => absurd w z, fun w => absurd w (by decide)⟩
  · have hl : k_lt b f = false := by cases x : k_lt b f with | false => rfl | true => exact absurd x hl
    have z0 : a_woL β f (kLen b - f) f 0 = 0 := by
      rw [show kLen b - f = (kLen b - (f + 1)) + 1 from by omega]
      show (bif a_let β f then _ else (0 : Int64)) = 0
      rw [tx.lt lt, hl]; rfl
    have T : k_tokOf b f (k_eot b f) = if b 77 f = nI 59 then -2 else -6 := by
      unfold k_tokOf; rw [if_neg (by rw [nd]; decide), if_neg (by rw [hl]; decide), if_neg n45]
    have T3 : ¬ k_tokOf b f (k_eot b f) = -3 ∧ ¬ k_tokOf b f (k_eot b f) = -4 ∧ ¬ k_tokOf b f (k_eot b f) = -5 := by
      rw [T]; split <;> decide
    rw [z0]
    exact ⟨⟨fun x => absurd x (by decide), fun x => absurd x T3.1⟩, ⟨fun x => absurd x (by decide), fun x => absurd x T3.2.1⟩, ⟨fun x => absurd x (by decide), fun x => absurd x T3.2.2⟩, fun x => by
      rcases x with x | x | x
      · exact absurd x T3.1
      · exact absurd x T3.2.1
      · exact absurd x T3.2.2⟩
end WP
