/-! solving: both alike -/
section SO
variable {κ α : Nat → Nat → Int32} {τ : (Nat → Nat → Int64) × (Nat → Nat)}
theorem a_s0_100 : a_s0 α 100 10 = nI 0 ∧ a_s0 α 100 11 = nI 0 ∧ a_s0 α 100 15 = nI 0 ∧ a_s0 α 100 16 = nI 0 ∧ a_s0 α 100 17 = nI 0 ∧ (∀ j, ¬ (j = 0 ∨ j = 10 ∨ j = 11 ∨ (15 ≤ j ∧ j ≤ 17)) → a_s0 α 100 j = α 100 j) ∧ a_s0 α 101 13 = -1 ∧ a_s0 α 100 0 = nI 0 := by
  unfold a_s0 a_emp
  have ho : ∀ β : Nat → Nat → Int32, zoff [105] β (a_empL 0 31 β) := fun β => zit_off _ (fun k a => zoff.rf.up (by decide)) _ _ _
  refine ⟨?_, ?_, ?_, ?_, ?_, fun j hj => ?_, ?_, ?_⟩
  · rw [zup_p (by decide), zup_i (by decide), zup_i (by decide), zup_i (by decide), (ho _).at (by decide), zup_i (by decide), zup_same]
  · rw [zup_p (by decide), zup_i (by decide), zup_i (by decide), zup_i (by decide), (ho _).at (by decide), zup_same]
  · rw [zup_p (by decide), zup_i (by decide), zup_i (by decide), zup_same]
  · rw [zup_p (by decide), zup_i (by decide), zup_same]
  · rw [zup_p (by decide), zup_same]
  · rw [zup_p (by decide), zup_i (by omega), zup_i (by omega), zup_i (by omega), (ho _).at (by decide), zup_i (by omega), zup_i (by omega), zup_i (by omega)]
  · rw [zup_same]
  · rw [zup_p (by decide), zup_i (by decide), zup_i (by decide), zup_i (by decide), (ho _).at (by decide), zup_i (by decide), zup_i (by decide), zup_same]
theorem a_empL_at : ∀ m k (a : Nat → Nat → Int32) v, k ≤ v → v < k + m → a_empL k m a 105 v = nI 0
  | 0, k, a, v, h1, h2 => by omega
  | m + 1, k, a, v, h1, h2 => by
    show a_empL (k + 1) m (zup a 105 k (nI 0)) 105 v = nI 0
    by_cases e : v = k
    · subst e
      have : ∀ m k (a : Nat → Nat → Int32), v < k → a_empL k m a 105 v = a 105 v := by
        intro m
        induction m with
        | zero => intro k a _; rfl
        | succ m ih => intro k a hk; exact (ih (k + 1) _ (by omega)).trans (zup_i (by omega))
      rw [this m (v + 1) _ (by omega), zup_same]
    · exact a_empL_at m (k + 1) _ v (by omega) (by omega)
theorem a_s0_105 {v : Nat} (h : v ≤ 30) : a_s0 α 105 v = 0 := by
  unfold a_s0 a_emp
  rw [zup_p (by decide), zup_p (by decide), zup_p (by decide), zup_p (by decide)]
  exact a_empL_at 31 0 _ v (by omega) (by omega)
theorem k_run0_at {p j : Nat} (h : ¬ p = 3) (h2 : ¬ (p = 10 ∧ j = 13)) : k_run0 κ p j = κ p j := by
  unfold k_run0 k_emt
  rw [show ∀ f : Nat → Nat → Int32, zup f 10 13 (nI 0) p j = f p j from fun f => if_neg h2, zup_p h, zup_p h, zup_p h, zup_p h, zup_p h, zup_p h, zup_p h]
theorem k_run0_3 : k_run0 κ 3 2 = nI 0 ∧ k_run0 κ 3 6 = nI 0 ∧ k_run0 κ 3 7 = nI 0 ∧ k_run0 κ 3 8 = nI 0 ∧ k_run0 κ 3 11 = nI 0 ∧ k_run0 κ 3 12 = nI 0 ∧ k_run0 κ 3 13 = nI 0 ∧ k_run0 κ 10 13 = nI 0 := by
  unfold k_run0 k_emt
  refine ⟨?_, ?_, ?_, ?_, ?_, ?_, ?_, ?_⟩ <;> simp [zup]
theorem s0_sN (hs : sN κ α τ) : sN (k_run0 κ) (a_s0 α) τ ∧ aT (a_s0 α) (fun _ => 0) (fun _ => 0) (fun _ => 0) 0 0 ∧ kT (k_run0 κ) (fun _ => 0) (fun _ => 0) (fun _ => 0) 0 0 ∧ zCo (k_run0 κ) (a_s0 α) 0 := by
  obtain ⟨r1, r2, r3, r4, r5, r6⟩ := hs.2.2.2.2.1
  obtain ⟨x1, x2, x3, x4, x5, x6, x7, x8⟩ := a_s0_100 (α := α)
  obtain ⟨y1, y2, y3, y4, y5, y6, y7, y8⟩ := k_run0_3 (κ := κ)
  have ea : ∀ j, ¬ j = 13 → a_s0 α 101 j = α 101 j := fun j hj => a_s0_at (.inl ⟨rfl, hj⟩)
  refine ⟨hs.up (fun p a b => funext fun j => k_run0_at (by omega) (by omega)) (k_run0_at (by omega) (by omega)) (fun v a b => by rw [k_run0_at (by omega) (by omega), ea _ (by omega)]; exact hs.2.2.1 v a b) (fun j hj => ea j (by unfold stW at hj; omega)) ⟨k_run0_at (by omega) (by omega), ?_, ?_, ?_, ?_⟩ rfl, ⟨⟨x1, x2⟩, fun i hi => by omega, fun v a b _ => a_s0_105 b⟩, ⟨⟨y1, y4⟩, fun i hi => by omega, fun v a b => ?_⟩, y5, x3, y6.trans x4.symm, y7.trans x5.symm, 0, Nat.le_refl _, x5⟩
  · rw [k_run0_at (by omega) (by omega), ea _ (by omega)]; exact r2
  · rw [k_run0_at (by omega) (by omega), ea _ (by omega)]; exact r3
  · rw [k_run0_at (by omega) (by omega), ea _ (by omega)]; exact r4
  · rw [k_run0_at (by omega) (by omega), ea _ (by omega)]; exact r5
  · rw [y2, y3, kt_n0]
    exact ⟨⟨fun x => absurd x (by decide), fun ⟨i, x, _⟩ => absurd x (by omega)⟩, ⟨fun x => absurd x (by decide), fun ⟨i, x, _⟩ => absurd x (by omega)⟩⟩
theorem tW_0 {V : Nat} {T : Nat → Int32} : tW V T 0 := ⟨by decide, fun i hi => by omega, fun i j _ hj => by omega⟩
theorem solve_both (hs : sN κ α τ) (h7 : κ 10 7 = α 101 7) {b : Int32} (h1 : nI 1 ≤ b) (h2 : b ≤ nI 200) :
    (κ 10 7 = 0 → krOK b 7000 (k_run0 κ) τ) ∧ (¬ α 101 7 = nI 1 → runOK 7000 b (a_s0 α)) ∧ ∃ r, r ≤ 3 ∧ (k_solve 7000 κ τ b).1 = nI r ∧ (a_solve 7000 α b).1 = nI r ∧ tFr τ (k_solve 7000 κ τ b).2.2 ∧ (k_solve 7000 κ τ b).2.1 10 12 = nI r ∧ zEr (k_run0 κ) (a_s0 α) (k_solve 7000 κ τ b).2.2 (k_solve 7000 κ τ b).2.1 (a_solve 7000 α b).2 r := by
  obtain ⟨s1, s2, s3, s4⟩ := s0_sN hs
  obtain ⟨x1, x2, x3, x4, x5, x6, x7, x8⟩ := a_s0_100 (α := α)
  obtain ⟨y1, y2, y3, y4, y5, y6, y7, y8⟩ := k_run0_3 (κ := κ)
  have h01 := hs.2.2.2.2.2.2.1
  have ek : k_solve 7000 κ τ b = k_run 7000 κ τ b := by
    unfold k_solve
    rw [if_pos (by rw [Bool.and_eq_true, decide_eq_true_eq, decide_eq_true_eq]; exact ⟨h1, h2⟩)]
  have eα : a_solve 7000 α b = if α 101 7 = nI 1 then (nI 0, a_refuted (a_s0 α)) else a_run 7000 b (a_s0 α) := by
    unfold a_solve
    rw [if_pos ⟨h1, h2⟩]
  rw [ek, eα]
  unfold k_run
  rcases h01 with h0 | h01
  · have k7 : κ 10 7 = 0 := h7.trans h0
    have n7 : ¬ α 101 7 = nI 1 := by rw [h0]; decide
    obtain ⟨B, hB, rfl⟩ := nI_of2 (x := b) (M := nI 200) (n := 200) (by decide) (Int32.not_lt.mpr (Int32.le_trans (by decide) h1)) h2
    have hB1 : 1 ≤ B := (nI_leI (by omega) (by omega)).mp h1
    have z : zSr (k_run0 κ) (a_s0 α) τ (fun _ => 0) (fun _ => 0) (fun _ => 0) 0 0 := ⟨s1, ⟨(a_s0_at (.inl ⟨rfl, by decide⟩)).trans h0, (k_run0_at (by omega) (by omega)).trans k7⟩, s2, s3, tI.none⟩
    obtain ⟨i1, i2, r, r1, r2, r3, r4, r5, r6⟩ := run_both hB 7000 0 _ _ τ _ _ _ 0 0 (by omega) (by omega) z s4 y8
    refine ⟨fun _ => i1, fun _ => i2, r, r1, ?_⟩
    rw [if_pos k7, if_neg n7]
    refine ⟨r2, r3, r5, ?_, ?_⟩
    · show zup (k_leave (k_runL (nI B) 7000 (k_run0 κ) τ).2.1 (-1)) 10 12 (k_runL (nI B) 7000 (k_run0 κ) τ).1 10 12 = _
      rw [zup_same]; exact r2
    · show zEr _ _ (k_runL (nI B) 7000 (k_run0 κ) τ).2.2 (zup (k_leave (k_runL (nI B) 7000 (k_run0 κ) τ).2.1 (-1)) 10 12 (k_runL (nI B) 7000 (k_run0 κ) τ).1) _ r
      rw [r2]; exact r6
  · have k7 : ¬ κ 10 7 = 0 := by rw [h7, h01]; decide
    rw [if_neg k7, if_pos h01]
    have a7 : ¬ a_s0 α 101 7 = 0 := by rw [a_s0_at (.inl ⟨rfl, by decide⟩), h01]; decide
    have er : a_refuted (a_s0 α) = zup (a_leaves (zup (a_s0 α) 101 13 (nI 0)) (-1)) 101 12 (nI 0) := by
      unfold a_refuted
      rw [if_neg a7]
      unfold a_ends
      rw [if_neg (by decide)]
    have ea : ∀ p j, ¬ (p = 101 ∧ j = 13) → zup (a_s0 α) 101 13 (nI 0) p j = a_s0 α p j := fun p j x => if_neg x
    obtain ⟨r1, r2, r3, r4, r5, r6⟩ := s1.2.2.2.2.1
    obtain ⟨r, q1, q2, q3, q4, q5, q6⟩ := ed_of (τ := τ) (κ := k_run0 κ) (α := a_s0 α) (κ1 := k_run0 κ) (α1 := zup (a_s0 α) 101 13 (nI 0)) (r := 0) (T := fun _ => 0) (L := fun _ => 0) (R := fun _ => 0) (t := 0) (w := 0) (s1.up (fun _ _ _ => rfl) rfl (fun v x y => by rw [ea 101 (32 + v) (by omega)]; exact s1.2.2.1 v x y) (fun j hj => ea 101 j (by unfold stW at hj; omega)) ⟨rfl, by rw [ea 101 8 (by omega)]; exact r2, by rw [ea 101 9 (by omega)]; exact r3, by rw [ea 101 10 (by omega)]; exact r4, by rw [ea 101 11 (by omega)]; exact r5⟩ rfl) (s2.of (fun p x y => funext fun i => ea p i (by omega)) (ea 100 10 (by omega)) ((ea 100 11 (by omega)).trans s2.1.2)) s3 tW_0 tFr.rf (by decide) (by rw [ea 101 7 (by omega), k_run0_at (by omega) (by omega), a_s0_at (.inl ⟨rfl, by decide⟩)]; exact h7) (fun _ => by rw [zup_same]; exact y8) (fun x => absurd rfl x) (fun x => absurd x (by decide)) (fun _ => ⟨rfl, rfl, fun j hj => ea 101 j (by omega)⟩) ⟨fun p hp => funext fun j => ea p j (by omega), fun j hj => ea 100 j (by omega), fun j hj => ea 101 j (by omega)⟩ kFr.rf.e
    have e0 : r = 0 := (nI_eq (by omega) (by omega)).mp q2.symm
    subst e0
    refine ⟨fun x => absurd x k7, fun x => absurd h01 x, 0, by decide, rfl, rfl, tFr.rf, zup_same (k_leave (k_run0 κ) (-1)) 10 12 (nI 0), ?_⟩
    rw [er]
    exact q6
end SO
