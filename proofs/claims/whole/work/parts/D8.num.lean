/-! a number, both alike -/
section NU
variable {κ α : Nat → Nat → Int32}
theorem txE.nq (h : txE κ α) {f : Nat} (hf : a_hp α = f) (hl : f < kLen κ) (hd : k_dg κ f = true) : a_nq α = k_eot κ f := by
  unfold a_nq k_eot
  rw [(h.chr hf hl).2.1, if_pos hd, if_pos hd, hf, h.2.1, show kLen κ - f = (kLen κ - (f + 1)) + 1 from by omega]
  show (bif a_dgt α f then zspan (a_dgt α) (kLen κ - (f + 1)) (f + 1) else f) = _
  rw [h.dg hl, hd]
  exact zspan_cg _ _ (fun i a b => h.dg (by omega))
theorem dg_val (h : txE κ α) {i : Nat} (hi : i < kLen κ) (hd : k_dg κ i = true) : ∃ d, d ≤ 9 ∧ κ 77 i = nI (48 + d) ∧ (α 121 i).toNatClampNeg = 48 + d := by
  obtain ⟨d, d1, d2⟩ := dg_is hd
  exact ⟨d, d1, d2, by rw [← (h.2.2 i hi).1, d2]; exact nI_clamp (by omega)⟩
theorem txE.nv (h : txE κ α) {f : Nat} (hf : a_hp α = f) (hl : f < kLen κ) (hd : k_dg κ f = true) (h2 : k_eot κ f - f ≤ 2) : k_tokOf κ f (k_eot κ f) = nI (a_nv α) := by
  obtain ⟨d, d1, d2, d3⟩ := dg_val h hl hd
  have er := eot_rng hl
  have ee : k_eot κ f = zspan (k_dg κ) (kLen κ - (f + 1)) (f + 1) := by unfold k_eot; rw [if_pos hd]
  have R := zspan_rng (k_dg κ) (kLen κ - (f + 1)) (f + 1)
  rw [← ee] at R
  have nv : a_nv α = a_numL α f (kLen κ - (f + 1)) (f + 1) d := by
    unfold a_nv
    rw [(h.chr hf hl).2.1, if_pos hd, hf, h.2.1, show kLen κ - f = (kLen κ - (f + 1)) + 1 from by omega]
    show (bif a_dgt α f then a_numL α f (kLen κ - (f + 1)) (f + 1) (a_numF α f f 0) else 0) = _
    rw [h.dg hl, hd]
    show a_numL α f (kLen κ - (f + 1)) (f + 1) (a_numF α f f 0) = _
    refine congrArg _ ?_
    unfold a_numF
    rw [if_pos (by omega), d3]; omega
  have stop : ∀ m g v, f + 2 ≤ g + 0 → g + m = kLen κ → (g < kLen κ → k_dg κ g = false) → a_numL α f m g v = v := fun m g v _ hg hn => by
    cases m with
    | zero => rfl
    | succ m =>
      show (bif a_dgt α g then _ else v) = v
      rw [h.dg (by omega), hn (by omega)]; rfl
  unfold k_tokOf
  rw [if_pos hd]
  by_cases e1 : k_eot κ f - f = 1
  · rw [if_pos e1, d2, (tok_tab d (by omega) 0 (by decide)).2.1, nv]
    refine congrArg nI ?_
    have eq : k_eot κ f = f + 1 := by omega
    cases hm : kLen κ - (f + 1) with
    | zero => rfl
    | succ m =>
      show d = (bif a_dgt α (f + 1) then _ else d)
      have := R.2.2.2 (by omega)
      rw [eq] at this
      rw [h.dg (by omega), this]; rfl
  · have e2 : k_eot κ f - f = 2 := by omega
    have d' := R.2.2.1 (f + 1) (Nat.le_refl _) (by omega)
    obtain ⟨x, x1, x2, x3⟩ := dg_val h (i := f + 1) (by omega) d'
    rw [if_neg e1, if_pos e2, d2, x2, (tok_tab d (by omega) x (by omega)).2.2.2, nv]
    refine congrArg nI ?_
    rw [show kLen κ - (f + 1) = (kLen κ - (f + 2)) + 1 from by omega]
    show _ = (bif a_dgt α (f + 1) then a_numL α f (kLen κ - (f + 2)) (f + 1 + 1) (a_numF α f (f + 1) d) else d)
    rw [h.dg (by omega), d']
    show _ = a_numL α f (kLen κ - (f + 2)) (f + 1 + 1) (a_numF α f (f + 1) d)
    rw [stop (kLen κ - (f + 2)) (f + 1 + 1) _ (by omega) (by omega) (fun z => by
      have := R.2.2.2 (by omega)
      rw [show k_eot κ f = f + 1 + 1 from by omega] at this
      exact this)]
    unfold a_numF
    rw [if_pos (by omega), x3]; omega
end NU
