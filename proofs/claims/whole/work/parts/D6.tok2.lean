/-! the table of tokens -/
section TL
variable {κ κ' : Nat → Nat → Int32}
/-- κ' holds the tokens of κ's text: m of them, and the end -/
def tkS (κ κ' : Nat → Nat → Int32) (m : Nat) : Prop := m ≤ 400 ∧ κ' 5 3 = nI (m + 1) ∧ tkP κ m = kLen κ ∧ (∀ i, i < m → tkP κ i < kLen κ ∧ κ' 78 i = k_tokOf κ (tkP κ i) (k_eot κ (tkP κ i)) ∧ κ' 79 i = nI (tkP κ i)) ∧ κ' 78 m = -7 ∧ κ' 79 m = nI (kLen κ)
theorem tkS.of {κ'' : Nat → Nat → Int32} {m : Nat} (h : tkS κ κ' m) (e3 : κ'' 5 3 = κ' 5 3) (e8 : κ'' 78 = κ' 78) (e9 : κ'' 79 = κ' 79) : tkS κ κ'' m := by unfold tkS; rw [e3, e8, e9]; exact h
theorem start_is {L : Nat} (h5 : κ 5 5 = nI L) (hL : L ≤ 400) : ∃ m, tkS κ (k_start κ) m ∧ k_start κ 5 4 = nI 0 ∧ k_start κ 5 7 = k_start κ 78 0 ∧ k_start κ 5 6 = nI 0 ∧ ∀ p i, ¬ (p = 78 ∨ p = 79 ∨ (p = 5 ∧ (i = 3 ∨ i = 4 ∨ i = 6 ∨ i = 7))) → k_start κ p i = κ p i := by
  have eL : kLen κ = L := by unfold kLen; rw [h5]; exact nI_clamp (by omega)
  have f0 : ∀ p i, ¬ (p = 5 ∧ i = 3) → zup κ 5 3 (nI 0) p i = κ p i := fun p i x => if_neg x
  obtain ⟨m, m1, m2, m3, m4, m5⟩ := sr_loop (κ := κ) (by omega) 400 0 (zup κ 5 3 (nI 0)) 0 (funext fun i => f0 77 i (by omega)) (f0 5 5 (by omega)) (by omega) (by omega) rfl (zup_same _ _ _ _) (Nat.le_refl _) (fun i hi => by omega)
  have e55 : k_srL 400 0 (zup κ 5 3 (nI 0)) 5 5 = nI L := (m5 5 5 (by omega)).trans ((f0 5 5 (by omega)).trans h5)
  generalize hB : k_srL 400 0 (zup κ 5 3 (nI 0)) = b at *
  have eS : k_start κ = k_srE b := by unfold k_start; rw [hB]
  have k3 : (b 5 3).toNatClampNeg = m := by rw [m3]; exact nI_clamp (by omega)
  have E : ∀ p i, k_srE b p i = if p = 5 ∧ i = 7 then b 78 0 + (if m = 0 then (-7) - b 78 0 else 0) else if p = 5 ∧ i = 4 then nI 0 else if p = 5 ∧ i = 6 then nI 0 else if p = 5 ∧ i = 3 then nI (m + 1) else if p = 79 ∧ i = m then nI L else if p = 78 ∧ i = m then -7 else b p i := fun p i => by
    have z : k_kt b (-7) (b 5 5) = zup (zup (zup b 78 m (-7)) 79 m (nI L)) 5 3 (nI (m + 1)) := by
      unfold k_kt; rw [k3, e55, pl_16 L (by omega), m3, nI_add]; rfl
    unfold k_srE k_tok0
    rw [z]
    have t0 : zup (zup (zup (zup b 78 m (-7)) 79 m (nI L)) 5 3 (nI (m + 1))) 5 6 (nI 0) 78 0 = b 78 0 + (if m = 0 then (-7) - b 78 0 else 0) := by
      rw [zup_p (by decide), zup_p (by decide), zup_p (by decide)]
      by_cases e : m = 0
      · subst e; rw [zup_same, if_pos rfl, Int32.add_comm, Int32.sub_add_cancel]
      · rw [zup_i (fun x => e x.symm), if_neg e, Int32.add_zero]
    rw [t0]
    rfl
  refine ⟨m, ⟨by omega, ?_, m2, fun i hi => ?_, ?_, ?_⟩, ?_, ?_, ?_, fun p i x => ?_⟩
  · rw [eS, E, if_neg (by omega), if_neg (by omega), if_neg (by omega), if_pos ⟨rfl, rfl⟩]
  · obtain ⟨x, y, z⟩ := m4 i hi
    refine ⟨x, ?_, ?_⟩
    · rw [eS, E, if_neg (by omega), if_neg (by omega), if_neg (by omega), if_neg (by omega), if_neg (by omega), if_neg (by omega)]; exact y
    · rw [eS, E, if_neg (by omega), if_neg (by omega), if_neg (by omega), if_neg (by omega), if_neg (by omega), if_neg (by omega)]; exact z
  · rw [eS, E, if_neg (by omega), if_neg (by omega), if_neg (by omega), if_neg (by omega), if_neg (by omega), if_pos ⟨rfl, rfl⟩]
  · rw [eS, E, if_neg (by omega), if_neg (by omega), if_neg (by omega), if_neg (by omega), if_pos ⟨rfl, rfl⟩, eL]
  · rw [eS, E, if_neg (by omega), if_pos ⟨rfl, rfl⟩]
  · have e1 : k_srE b 78 0 = if 78 = 78 ∧ 0 = m then -7 else b 78 0 := by rw [E 78 0, if_neg (show ¬ (78 = 5 ∧ 0 = 7) by omega), if_neg (show ¬ (78 = 5 ∧ 0 = 4) by omega), if_neg (show ¬ (78 = 5 ∧ 0 = 6) by omega), if_neg (show ¬ (78 = 5 ∧ 0 = 3) by omega), if_neg (show ¬ (78 = 79 ∧ 0 = m) by omega)]
    rw [eS, e1, E 5 7, if_pos ⟨rfl, rfl⟩]
    by_cases e : m = 0
    · rw [if_pos e, if_pos ⟨rfl, e.symm⟩, Int32.add_comm, Int32.sub_add_cancel]
    · rw [if_neg e, if_neg (fun x => e x.2.symm), Int32.add_zero]
  · rw [eS, E, if_neg (by omega), if_neg (by omega), if_pos ⟨rfl, rfl⟩]
  · rw [eS, E, if_neg (by omega), if_neg (by omega), if_neg (by omega), if_neg (by omega), if_neg (by omega), if_neg (by omega), m5 p i (by omega), f0 p i (by omega)]
end TL
