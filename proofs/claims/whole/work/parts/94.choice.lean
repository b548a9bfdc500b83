/-! the choice of a variable, alike -/
section CO
variable {κ α : Nat → Nat → Int32}
theorem chF_eq (h : asR (κ 3 6) (κ 3 7) (α 105)) (hs : ∀ v, 1 ≤ v → v ≤ 30 → κ 21 v = α 101 (63 + v)) {v b : Nat} (h1 : 1 ≤ v) (h2 : v ≤ 30) (hb : b ≤ 30) : k_chF κ v b = a_chF α v b := by
  unfold k_chF a_chF
  have ez : ((κ 3 6 ||| κ 3 7) &&& kb (nI v) = 0) ↔ α 105 v = 0 := (kt_iff _ h1 h2).trans (h.z h1 h2)
  have ec : (b = 0 ∨ κ 21 b < κ 21 v) ↔ (b = 0 ∨ α 101 (63 + b) < α 101 (63 + v)) := by
    rcases Nat.eq_zero_or_pos b with y | y
    · exact ⟨fun _ => .inl y, fun _ => .inl y⟩
    · rw [hs v h1 h2, hs b y hb]
  by_cases hc : α 105 v = 0 ∧ (b = 0 ∨ α 101 (63 + b) < α 101 (63 + v))
  · rw [if_pos hc, if_pos ⟨ez.mpr hc.1, ec.mpr hc.2⟩]
  · rw [if_neg hc, if_neg (fun x => hc ⟨ez.mp x.1, ec.mp x.2⟩)]
theorem chF_le {v b : Nat} (h2 : v ≤ 30) (hb : b ≤ 30) : a_chF α v b ≤ 30 := by
  unfold a_chF; split
  · exact h2
  · exact hb
theorem zit_fg {f g : Nat → Nat → Nat} (h : ∀ v b, 1 ≤ v → v ≤ 30 → b ≤ 30 → f v b = g v b ∧ g v b ≤ 30) : ∀ m k b, 1 ≤ k → k + m ≤ 31 → b ≤ 30 → zit f k m b = zit g k m b := by
  intro m
  induction m with
  | zero => intro k b _ _ _; rfl
  | succ m ih =>
    intro k b h1 h2 h3
    obtain ⟨e, l⟩ := h k b h1 (by omega) h3
    show zit f (k + 1) m (f k b) = zit g (k + 1) m (g k b)
    rw [e]
    exact ih (k + 1) (g k b) (by omega) (by omega) l
theorem choice_eq (hV : kV κ = aV α) (hV30 : aV α ≤ 30) (h : asR (κ 3 6) (κ 3 7) (α 105)) (hs : ∀ v, 1 ≤ v → v ≤ 30 → κ 21 v = α 101 (63 + v)) : k_choice κ = a_choice α := by
  unfold k_choice a_choice
  rw [hV]
  exact zit_fg (fun v b h1 h2 h3 => ⟨chF_eq h hs h1 h2 h3, chF_le h2 h3⟩) (aV α) 1 0 (Nat.le_refl _) (by omega) (Nat.zero_le _)
end CO
