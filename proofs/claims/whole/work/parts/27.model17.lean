/-! the reference: a literal of a text, words, the end of a statement -/
/-- a literal is read: b1 .. b7 are the states on the way -/
def a_mi (α : Nat → Nat → Int32) : Bool := decide (a_chr α = nI 45)
def a_b3 (α : Nat → Nat → Int32) (f : Bool) : Nat → Nat → Int32 :=
  zup (if (a_mi α && f) = true then a_fails (a_here α) (nI 3) (nI (a_hp α)) else a_here α) 100 24 (nI (a_hp α + (bif a_mi α then 1 else 0)))
def a_b4 (α : Nat → Nat → Int32) (f : Bool) : Nat → Nat → Int32 := a_here (a_b3 α f)
def a_b5 (α : Nat → Nat → Int32) (f : Bool) : Nat → Nat → Int32 := a_number (a_b4 α f)
def a_lv (α : Nat → Nat → Int32) (f : Bool) : Nat := a_nv (a_b4 α f)
def a_b6 (α : Nat → Nat → Int32) (u f : Bool) : Nat → Nat → Int32 :=
  if a_b5 α f 100 25 = 0 ∧ (a_isVar (a_b5 α f) (nI (a_lv α f)) = false ∨ (u = true ∧ ¬ a_b5 α f 126 (a_lv α f) = 0)) then a_fails (a_b5 α f) (nI 2) (nI (a_hp (a_b3 α f))) else a_b5 α f
def a_b7 (α : Nat → Nat → Int32) (u f : Bool) : Nat → Nat → Int32 :=
  if a_b6 α u f 100 25 = 0 ∧ f = true then a_fails (a_b6 α u f) (nI 3) (nI (a_hp (a_b3 α f))) else a_b6 α u f
def a_litV (α : Nat → Nat → Int32) (u f : Bool) : Int32 := if a_b7 α u f 100 25 = 0 then (if a_mi α = true then -(nI (a_lv α f)) else nI (a_lv α f)) else nI 0
def a_lit (α : Nat → Nat → Int32) (u f : Bool) : Nat → Nat → Int32 := if a_b7 α u f 100 25 = 0 then zup (a_b7 α u f) 126 (a_lv α f) (nI 1) else a_b7 α u f
theorem a_fails_at {α : Nat → Nat → Int32} {k w : Int32} {p i : Nat} (h : ¬ p = 100 ∨ ¬ i = 25) : a_fails α k w p i = α p i := by
  unfold a_fails
  split
  · unfold zup; rw [if_neg (fun q => h.elim (fun z => z q.1) (fun z => z q.2))]
  · rfl
theorem a_here_at {α : Nat → Nat → Int32} {p i : Nat} (h : ¬ p = 100 ∨ ¬ i = 24) : a_here α p i = α p i := by
  unfold a_here zup; rw [if_neg (fun q => h.elim (fun z => z q.1) (fun z => z q.2))]
theorem a_number_at {α : Nat → Nat → Int32} {p i : Nat} (h : ¬ p = 100 ∨ (¬ i = 24 ∧ ¬ i = 25)) : a_number α p i = α p i := by
  have e : zup α 100 24 (nI (a_nq α)) p i = α p i := by unfold zup; rw [if_neg (fun q => h.elim (fun z => z q.1) (fun z => z.1 q.2))]
  unfold a_number
  split
  · exact e
  · rw [a_fails_at (h.elim Or.inl (fun q => Or.inr q.2))]; exact e
theorem a_b3_at {α : Nat → Nat → Int32} {f : Bool} {p i : Nat} (h : ¬ p = 100 ∨ (¬ i = 24 ∧ ¬ i = 25)) : a_b3 α f p i = α p i := by
  have h1 : ¬ p = 100 ∨ ¬ i = 24 := h.elim Or.inl (fun q => Or.inr q.1)
  have h2 : ¬ p = 100 ∨ ¬ i = 25 := h.elim Or.inl (fun q => Or.inr q.2)
  unfold a_b3
  have e : ∀ β : Nat → Nat → Int32, ∀ v, zup β 100 24 v p i = β p i := fun β v => by unfold zup; rw [if_neg (fun q => h1.elim (fun z => z q.1) (fun z => z q.2))]
  rw [e]
  split
  · rw [a_fails_at h2, a_here_at h1]
  · rw [a_here_at h1]
theorem a_b5_at {α : Nat → Nat → Int32} {f : Bool} {p i : Nat} (h : ¬ p = 100 ∨ (¬ i = 24 ∧ ¬ i = 25)) : a_b5 α f p i = α p i := by
  unfold a_b5 a_b4
  rw [a_number_at h, a_here_at (h.elim Or.inl (fun q => Or.inr q.1)), a_b3_at h]
theorem a_b7_at {α : Nat → Nat → Int32} {u f : Bool} {p i : Nat} (h : ¬ p = 100 ∨ (¬ i = 24 ∧ ¬ i = 25)) : a_b7 α u f p i = α p i := by
  have h2 : ¬ p = 100 ∨ ¬ i = 25 := h.elim Or.inl (fun q => Or.inr q.2)
  have e6 : a_b6 α u f p i = α p i := by
    unfold a_b6
    split
    · rw [a_fails_at h2, a_b5_at h]
    · rw [a_b5_at h]
  unfold a_b7
  split
  · rw [a_fails_at h2, e6]
  · rw [e6]
theorem a_lit_at {α : Nat → Nat → Int32} {u f : Bool} {p i : Nat} (h : ¬ p = 126 ∧ (¬ p = 100 ∨ (¬ i = 24 ∧ ¬ i = 25))) : a_lit α u f p i = α p i := by
  unfold a_lit
  split
  · rw [zup_p h.1, a_b7_at h.2]
  · exact a_b7_at h.2
theorem a_b3_WT {α : Nat → Nat → Int32} {f : Bool} (h : aWT α) (hp : a_hp α ≤ 999) : aWT (a_b3 α f) := by
  have h1 := a_here_WT h
  unfold a_b3
  refine aWT.to ?_ (by cases a_mi α <;> simp <;> omega)
  split
  · exact h1.fails
  · exact h1
theorem a_b7_WT {α : Nat → Nat → Int32} {u f : Bool} (h : aWT α) (hp : a_hp α ≤ 999) : aWT (a_b7 α u f) := by
  have h5 : aWT (a_b5 α f) := a_number_WT (a_here_WT (a_b3_WT h hp))
  have h6 : aWT (a_b6 α u f) := by
    unfold a_b6
    split
    · exact h5.fails
    · exact h5
  unfold a_b7
  split
  · exact h6.fails
  · exact h6
theorem a_lit_WT {α : Nat → Nat → Int32} {u f : Bool} (h : aWT α) (hp : a_hp α ≤ 999) : aWT (a_lit α u f) := by
  have h7 : aWT (a_b7 α u f) := a_b7_WT h hp
  unfold a_lit
  split
  · exact h7.up (Or.inl (by decide))
  · exact h7
section M18
variable {E : zEnv} {κ α : Nat → Nat → Int32} {τ : (Nat → Nat → Int64) × (Nat → Nat)}
/-- where a literal was read without a fault, its variable is one -/
theorem a_b7_var {u f : Bool} (hT : aWT α) (hp : a_hp α ≤ 999) (hV : α 101 0 = nI (aV α)) (h30 : aV α ≤ 30) (h : a_b7 α u f 100 25 = 0) : a_b7 α u f = a_b5 α f ∧ f = false ∧ a_b5 α f 100 25 = 0 ∧ 1 ≤ a_lv α f ∧ a_lv α f ≤ aV α ∧ (u = true → α 126 (a_lv α f) = 0) := by
  have bad : ∀ (β : Nat → Nat → Int32) (k w : Nat), 0 < k → k < 8 → w ≤ 1000 → β 100 25 = 0 → ¬ a_fails β (nI k) (nI w) 100 25 = 0 := by
    intro β k w h1 h2 h3 h4
    unfold a_fails
    rw [if_pos h4, zup_same, pk_mul, nI_add]
    exact nI_ne0 (by omega) (by omega)
  have hw := (a_hp_le (a_b3_WT (f := f) hT hp)).1
  have c7 : ¬ (a_b6 α u f 100 25 = 0 ∧ f = true) := fun q => by
    unfold a_b7 at h
    rw [if_pos q] at h
    exact bad _ 3 _ (by decide) (by decide) hw q.1 h
  have e7 : a_b7 α u f = a_b6 α u f := by unfold a_b7; rw [if_neg c7]
  rw [e7] at h
  have c6 : ¬ (a_b5 α f 100 25 = 0 ∧ (a_isVar (a_b5 α f) (nI (a_lv α f)) = false ∨ (u = true ∧ ¬ a_b5 α f 126 (a_lv α f) = 0))) := fun q => by
    unfold a_b6 at h
    rw [if_pos q] at h
    exact bad _ 2 _ (by decide) (by decide) hw q.1 h
  have e6 : a_b6 α u f = a_b5 α f := by unfold a_b6; rw [if_neg c6]
  have h5 : a_b5 α f 100 25 = 0 := by rw [← e6]; exact h
  have hf : f = false := by
    cases f with
    | false => rfl
    | true => exact absurd ⟨h, rfl⟩ c7
  have hvar : a_isVar (a_b5 α f) (nI (a_lv α f)) = true := by
    cases hz : a_isVar (a_b5 α f) (nI (a_lv α f)) with
    | true => rfl
    | false => exact absurd ⟨h5, Or.inl hz⟩ c6
  have htold : u = true → α 126 (a_lv α f) = 0 := fun hu => by
    by_cases q : α 126 (a_lv α f) = 0
    · exact q
    · exact absurd ⟨h5, Or.inr ⟨hu, by rw [a_b5_at (Or.inl (by decide))]; exact q⟩⟩ c6
  unfold a_isVar at hvar
  rw [a_b5_at (Or.inl (by decide)), hV] at hvar
  obtain ⟨j, j1, j2, j3⟩ := (zidx1 (by omega)).mp hvar
  have hlv : a_lv α f ≤ 99 := a_nv_99 _
  have hj : a_lv α f = j := (nI_eq (by omega) (by omega)).mp j3
  exact ⟨e7.trans e6, hf, h5, by omega, by omega, htold⟩
theorem t_lit (d : Nat) (u f : Bool) (hT : aWT α) (hp : a_hp α ≤ 999) (hV : α 101 0 = nI (aV α)) (h30 : aV α ≤ 30) : zTr E (d + 4) mX9_lit [.ref 100, .int (zbo u), .int (zbo f)] (κ, α, τ) (some (.int (a_litV α u f))) (κ, a_lit α u f, τ) := by
  have h3 := a_b3_WT (f := f) hT hp
  have h4 : aWT (a_b4 α f) := a_here_WT h3
  have hh := a_hp_le hT
  obtain ⟨hlv, tn⟩ := t_number (E := E) (κ := κ) (τ := τ) d h4
  have hlv : a_lv α f ≤ 99 := hlv
  refine zM.tr (zM_of [some (.ref 100), some (.int (zbo u)), some (.int (zbo f)), none, none, none] (by decide) rfl (Nat.le_of_ble_eq_true rfl) ?_)
  have K122 : zX E (d + 4) mX9_lit 122 [some (.ref 100), some (.int (zbo u)), some (.int (zbo f)), some (.int (zbo (a_mi α))), some (.int (nI (a_hp (a_b3 α f)))), some (.int (nI (a_lv α f)))] [] (κ, a_b7 α u f, τ) (fun a m => a = some (.int (a_litV α u f)) ∧ m = (κ, a_lit α u f, τ)) := by
    unfold a_litV a_lit
    by_cases h : a_b7 α u f 100 25 = 0
    · rw [if_pos h, if_pos h]
      obtain ⟨-, -, -, v1, v2, -⟩ := a_b7_var hT hp hV h30 h
      refine x_aload_n (pc := 122) 0 dX9_lit_122 rfl rfl ?_
      refine x_geti_h (pc := 123) dX9_lit_123 fX9_220 (zat_b rfl rfl) rfl rfl ?_
      refine x_if_eq_t (pc := 126) 131 dX9_lit_126 (by decide) (h) ?_
      refine x_aload_n (pc := 131) 0 dX9_lit_131 rfl rfl ?_
      refine x_getr (pc := 132) (126) dX9_lit_132 fX9_57 (zat_b rfl rfl) rfl ?_
      refine x_iload (pc := 135) dX9_lit_135 rfl ?_
      refine x_iconst (pc := 137) (nI 1) dX9_lit_137 (by decide) ?_
      have hj138 : a_lv α f < 31 := by omega
      refine x_zast_h (pc := 138) (a_lv α f) dX9_lit_138 (zar_b rfl rfl rfl) rfl (by first | rfl | simp only [pk_mul, nI_add] | simp only [zon, pk_mul, nI_add]) hj138 (Nat.lt_of_lt_of_le hj138 (by decide)) (by decide) ?_
      refine x_iload_n (pc := 139) 3 dX9_lit_139 rfl rfl ?_
      cases hm : a_mi α with
      | true =>
        rw [if_pos rfl]
        refine x_if_eq_f (pc := 140) 149 dX9_lit_140 (by decide) (by decide) ?_
        refine x_iload (pc := 143) dX9_lit_143 rfl ?_
        refine x_ineg (pc := 145) dX9_lit_145 ?_
        refine x_goto (pc := 146) 151 dX9_lit_146 (by decide) ?_
        refine x_iret (pc := 151) dX9_lit_151 rfl ?_
        exact ⟨rfl, rfl⟩
      | false =>
        rw [if_neg (by decide)]
        refine x_if_eq_t (pc := 140) 149 dX9_lit_140 (by decide) (rfl) ?_
        refine x_iload (pc := 149) dX9_lit_149 rfl ?_
        refine x_iret (pc := 151) dX9_lit_151 rfl ?_
        exact ⟨rfl, rfl⟩
    · rw [if_neg h, if_neg h]
      refine x_aload_n (pc := 122) 0 dX9_lit_122 rfl rfl ?_
      refine x_geti_h (pc := 123) dX9_lit_123 fX9_220 (zat_b rfl rfl) rfl rfl ?_
      refine x_if_eq_f (pc := 126) 131 dX9_lit_126 (by decide) (h) ?_
      refine x_iconst (pc := 129) (nI 0) dX9_lit_129 (by decide) ?_
      refine x_iret (pc := 130) dX9_lit_130 rfl ?_
      exact ⟨rfl, rfl⟩
  have K104 : zX E (d + 4) mX9_lit 104 [some (.ref 100), some (.int (zbo u)), some (.int (zbo f)), some (.int (zbo (a_mi α))), some (.int (nI (a_hp (a_b3 α f)))), some (.int (nI (a_lv α f)))] [] (κ, a_b6 α u f, τ) (fun a m => a = some (.int (a_litV α u f)) ∧ m = (κ, a_lit α u f, τ)) := by
    by_cases h : a_b6 α u f 100 25 = 0
    · cases hf : f with
      | true =>
        have e : a_b7 α u f = a_fails (a_b6 α u f) (nI 3) (nI (a_hp (a_b3 α f))) := by unfold a_b7; rw [if_pos ⟨h, hf⟩]
        rw [e] at K122
        rw [hf] at K122 h
        refine x_aload_n (pc := 104) 0 dX9_lit_104 rfl rfl ?_
        refine x_geti_h (pc := 105) dX9_lit_105 fX9_220 (zat_b rfl rfl) rfl rfl ?_
        refine x_if_ne_f (pc := 108) 122 dX9_lit_108 (by decide) (h) ?_
        refine x_iload_n (pc := 111) 2 dX9_lit_111 rfl rfl ?_
        refine x_if_eq_f (pc := 112) 122 dX9_lit_112 (by decide) (by decide) ?_
        refine x_aload_n (pc := 115) 0 dX9_lit_115 rfl rfl ?_
        refine x_iconst (pc := 116) (nI 3) dX9_lit_116 (by decide) ?_
        refine x_iload (pc := 117) dX9_lit_117 rfl ?_
        refine x_callV2v (pc := 119) dX9_lit_119 lX9_248 (zat_b rfl rfl) rfl (t_fails (d + 2) _ _) (Nat.le_of_ble_eq_true rfl) (Or.inl zgr) ?_
        exact K122
      | false =>
        have e : a_b7 α u f = a_b6 α u f := by unfold a_b7; rw [if_neg (fun q => by rw [hf] at q; cases q.2)]
        rw [e] at K122
        rw [hf] at K122 h
        refine x_aload_n (pc := 104) 0 dX9_lit_104 rfl rfl ?_
        refine x_geti_h (pc := 105) dX9_lit_105 fX9_220 (zat_b rfl rfl) rfl rfl ?_
        refine x_if_ne_f (pc := 108) 122 dX9_lit_108 (by decide) (h) ?_
        refine x_iload_n (pc := 111) 2 dX9_lit_111 rfl rfl ?_
        refine x_if_eq_t (pc := 112) 122 dX9_lit_112 (by decide) (rfl) ?_
        exact K122
    · have e : a_b7 α u f = a_b6 α u f := by unfold a_b7; rw [if_neg (fun q => h q.1)]
      rw [e] at K122
      refine x_aload_n (pc := 104) 0 dX9_lit_104 rfl rfl ?_
      refine x_geti_h (pc := 105) dX9_lit_105 fX9_220 (zat_b rfl rfl) rfl rfl ?_
      refine x_if_ne_t (pc := 108) 122 dX9_lit_108 (by decide) (h) ?_
      exact K122
  have K97 : a_b6 α u f = a_fails (a_b5 α f) (nI 2) (nI (a_hp (a_b3 α f))) → zX E (d + 4) mX9_lit 97 [some (.ref 100), some (.int (zbo u)), some (.int (zbo f)), some (.int (zbo (a_mi α))), some (.int (nI (a_hp (a_b3 α f)))), some (.int (nI (a_lv α f)))] [] (κ, a_b5 α f, τ) (fun a m => a = some (.int (a_litV α u f)) ∧ m = (κ, a_lit α u f, τ)) := by
    intro e
    rw [e] at K104
    refine x_aload_n (pc := 97) 0 dX9_lit_97 rfl rfl ?_
    refine x_iconst (pc := 98) (nI 2) dX9_lit_98 (by decide) ?_
    refine x_iload (pc := 99) dX9_lit_99 rfl ?_
    refine x_callV2v (pc := 101) dX9_lit_101 lX9_248 (zat_b rfl rfl) rfl (t_fails (d + 2) _ _) (Nat.le_of_ble_eq_true rfl) (Or.inl zgr) ?_
    exact K104
  have K67 : zX E (d + 4) mX9_lit 67 [some (.ref 100), some (.int (zbo u)), some (.int (zbo f)), some (.int (zbo (a_mi α))), some (.int (nI (a_hp (a_b3 α f)))), some (.int (nI (a_lv α f)))] [] (κ, a_b5 α f, τ) (fun a m => a = some (.int (a_litV α u f)) ∧ m = (κ, a_lit α u f, τ)) := by
    by_cases h : a_b5 α f 100 25 = 0
    · cases hv : a_isVar (a_b5 α f) (nI (a_lv α f)) with
      | false =>
        refine x_aload_n (pc := 67) 0 dX9_lit_67 rfl rfl ?_
        refine x_geti_h (pc := 68) dX9_lit_68 fX9_220 (zat_b rfl rfl) rfl rfl ?_
        refine x_if_ne_f (pc := 71) 104 dX9_lit_71 (by decide) (h) ?_
        refine x_aload_n (pc := 74) 0 dX9_lit_74 rfl rfl ?_
        refine x_iload (pc := 75) dX9_lit_75 rfl ?_
        refine x_callV1i (pc := 77) dX9_lit_77 lX9_75 (zat_b rfl rfl) rfl (t_isVariable (d + 1) _) (Nat.le_of_ble_eq_true rfl) (Or.inl zgr) ?_
        rw [hv]
        refine x_if_eq_t (pc := 80) 97 dX9_lit_80 (by decide) (rfl) ?_
        exact K97 (by unfold a_b6; rw [if_pos ⟨h, Or.inl hv⟩])
      | true =>
        have hr : 1 ≤ a_lv α f ∧ a_lv α f ≤ aV α := by
          unfold a_isVar at hv
          rw [a_b5_at (Or.inl (by decide)), hV] at hv
          obtain ⟨j, j1, j2, j3⟩ := (zidx1 (by omega)).mp hv
          have hj : a_lv α f = j := (nI_eq (by omega) (by omega)).mp j3
          omega
        refine x_aload_n (pc := 67) 0 dX9_lit_67 rfl rfl ?_
        refine x_geti_h (pc := 68) dX9_lit_68 fX9_220 (zat_b rfl rfl) rfl rfl ?_
        refine x_if_ne_f (pc := 71) 104 dX9_lit_71 (by decide) (h) ?_
        refine x_aload_n (pc := 74) 0 dX9_lit_74 rfl rfl ?_
        refine x_iload (pc := 75) dX9_lit_75 rfl ?_
        refine x_callV1i (pc := 77) dX9_lit_77 lX9_75 (zat_b rfl rfl) rfl (t_isVariable (d + 1) _) (Nat.le_of_ble_eq_true rfl) (Or.inl zgr) ?_
        rw [hv]
        cases hu : u with
        | false =>
          have e : a_b6 α u f = a_b5 α f := by unfold a_b6; rw [if_neg]; rintro ⟨-, q | q⟩; (rw [hv] at q; cases q); (rw [hu] at q; cases q.1)
          rw [e] at K104
          rw [hu] at K104
          refine x_if_eq_f (pc := 80) 97 dX9_lit_80 (by decide) (by decide) ?_
          refine x_iload_n (pc := 83) 1 dX9_lit_83 rfl rfl ?_
          refine x_if_eq_t (pc := 84) 104 dX9_lit_84 (by decide) (rfl) ?_
          exact K104
        | true =>
          by_cases ht : a_b5 α f 126 (a_lv α f) = 0
          · have e : a_b6 α u f = a_b5 α f := by unfold a_b6; rw [if_neg]; rintro ⟨-, q | q⟩; (rw [hv] at q; cases q); exact q.2 ht
            rw [e] at K104
            rw [hu] at K104
            refine x_if_eq_f (pc := 80) 97 dX9_lit_80 (by decide) (by decide) ?_
            refine x_iload_n (pc := 83) 1 dX9_lit_83 rfl rfl ?_
            refine x_if_eq_f (pc := 84) 104 dX9_lit_84 (by decide) (by decide) ?_
            refine x_aload_n (pc := 87) 0 dX9_lit_87 rfl rfl ?_
            refine x_getr (pc := 88) (126) dX9_lit_88 fX9_57 (zat_b rfl rfl) rfl ?_
            refine x_iload (pc := 91) dX9_lit_91 rfl ?_
            have hj93 : a_lv α f < 31 := by omega
            refine x_zald_h (pc := 93) (a_lv α f) dX9_lit_93 (zar_b rfl rfl rfl) rfl (by first | rfl | simp only [pk_mul, nI_add] | simp only [zon, pk_mul, nI_add]) hj93 (Nat.lt_of_lt_of_le hj93 (by decide)) ?_
            refine x_if_eq_t (pc := 94) 104 dX9_lit_94 (by decide) (ht) ?_
            exact K104
          · have K := K97 (by unfold a_b6; rw [if_pos ⟨h, Or.inr ⟨hu, ht⟩⟩])
            rw [hu] at K
            refine x_if_eq_f (pc := 80) 97 dX9_lit_80 (by decide) (by decide) ?_
            refine x_iload_n (pc := 83) 1 dX9_lit_83 rfl rfl ?_
            refine x_if_eq_f (pc := 84) 104 dX9_lit_84 (by decide) (by decide) ?_
            refine x_aload_n (pc := 87) 0 dX9_lit_87 rfl rfl ?_
            refine x_getr (pc := 88) (126) dX9_lit_88 fX9_57 (zat_b rfl rfl) rfl ?_
            refine x_iload (pc := 91) dX9_lit_91 rfl ?_
            have hj93 : a_lv α f < 31 := by omega
            refine x_zald_h (pc := 93) (a_lv α f) dX9_lit_93 (zar_b rfl rfl rfl) rfl (by first | rfl | simp only [pk_mul, nI_add] | simp only [zon, pk_mul, nI_add]) hj93 (Nat.lt_of_lt_of_le hj93 (by decide)) ?_
            refine x_if_eq_f (pc := 94) 104 dX9_lit_94 (by decide) (ht) ?_
            exact K
    · have e : a_b6 α u f = a_b5 α f := by unfold a_b6; rw [if_neg (fun q => h q.1)]
      rw [e] at K104
      refine x_aload_n (pc := 67) 0 dX9_lit_67 rfl rfl ?_
      refine x_geti_h (pc := 68) dX9_lit_68 fX9_220 (zat_b rfl rfl) rfl rfl ?_
      refine x_if_ne_t (pc := 71) 104 dX9_lit_71 (by decide) (h) ?_
      exact K104
  have K50 : zX E (d + 4) mX9_lit 50 [some (.ref 100), some (.int (zbo u)), some (.int (zbo f)), some (.int (zbo (a_mi α))), none, none] [] (κ, a_b3 α f, τ) (fun a m => a = some (.int (a_litV α u f)) ∧ m = (κ, a_lit α u f, τ)) := by
    refine x_aload_n (pc := 50) 0 dX9_lit_50 rfl rfl ?_
    refine x_callV0i (pc := 51) dX9_lit_51 lX9_223 (zat_b rfl rfl) rfl (t_here (d + 2) h3) (Nat.le_of_ble_eq_true rfl) (Or.inl zgr) ?_
    refine x_pop (pc := 54) dX9_lit_54 rfl ?_
    refine x_aload_n (pc := 55) 0 dX9_lit_55 rfl rfl ?_
    refine x_geti_h (pc := 56) dX9_lit_56 fX9_233 (zat_b rfl rfl) rfl rfl ?_
    have e : a_here (a_b3 α f) 100 24 = nI (a_hp (a_b3 α f)) := by unfold a_here; rw [zup_same]
    rw [e]
    refine x_istore (pc := 59) dX9_lit_59 (by decide) rfl ?_
    refine x_aload_n (pc := 61) 0 dX9_lit_61 rfl rfl ?_
    refine x_callV0i (pc := 62) dX9_lit_62 lX9_251 (zat_b rfl rfl) rfl (tn) (Nat.le_of_ble_eq_true rfl) (Or.inl zgr) ?_
    refine x_istore (pc := 65) dX9_lit_65 (by decide) rfl ?_
    exact K67
  have K32 : ∀ β : Nat → Nat → Int32, β 100 24 = nI (a_hp α) → zup β 100 24 (nI (a_hp α + (bif a_mi α then 1 else 0))) = a_b3 α f → zX E (d + 4) mX9_lit 32 [some (.ref 100), some (.int (zbo u)), some (.int (zbo f)), some (.int (zbo (a_mi α))), none, none] [] (κ, β, τ) (fun a m => a = some (.int (a_litV α u f)) ∧ m = (κ, a_lit α u f, τ)) := by
    intro β hβ he
    rw [← he] at K50
    refine x_aload_n (pc := 32) 0 dX9_lit_32 rfl rfl ?_
    refine x_dup (pc := 33) dX9_lit_33 rfl ?_
    refine x_geti_h (pc := 34) dX9_lit_34 fX9_233 (zat_b rfl rfl) rfl rfl ?_
    rw [hβ]
    cases hm : a_mi α with
    | true =>
      rw [hm] at K50
      refine x_iload_n (pc := 37) 3 dX9_lit_37 rfl rfl ?_
      refine x_if_eq_f (pc := 38) 45 dX9_lit_38 (by decide) (by decide) ?_
      refine x_iconst (pc := 41) (nI 1) dX9_lit_41 (by decide) ?_
      refine x_goto (pc := 42) 46 dX9_lit_42 (by decide) ?_
      refine x_iadd (pc := 46) dX9_lit_46 ?_
      rw [nI_add]
      refine x_puti_h (pc := 47) dX9_lit_47 pX9_233 (zat_b rfl rfl) rfl rfl ?_
      exact K50
    | false =>
      rw [hm] at K50
      refine x_iload_n (pc := 37) 3 dX9_lit_37 rfl rfl ?_
      refine x_if_eq_t (pc := 38) 45 dX9_lit_38 (by decide) (rfl) ?_
      refine x_iconst (pc := 45) (nI 0) dX9_lit_45 (by decide) ?_
      refine x_iadd (pc := 46) dX9_lit_46 ?_
      rw [nI_add]
      refine x_puti_h (pc := 47) dX9_lit_47 pX9_233 (zat_b rfl rfl) rfl rfl ?_
      exact K50
  have hhe : a_here α 100 24 = nI (a_hp α) := by unfold a_here; rw [zup_same]
  refine x_aload_n (pc := 0) 0 dX9_lit_0 rfl rfl ?_
  refine x_callV0i (pc := 1) dX9_lit_1 lX9_223 (zat_b rfl rfl) rfl (t_here (d + 2) hT) (Nat.le_of_ble_eq_true rfl) (Or.inl zgr) ?_
  by_cases hc : a_chr α = nI 45
  · have hm : a_mi α = true := by unfold a_mi; simp [hc]
    rw [hm] at K32
    cases hf : f with
    | true =>
      have K := K32 (a_fails (a_here α) (nI 3) (nI (a_hp α))) (by rw [a_fails_at (Or.inr (by decide))]; exact hhe) (by unfold a_b3; rw [hm, hf]; rfl)
      rw [hf] at K
      refine x_bipush (pc := 4) (nI 45) dX9_lit_4 (by decide) ?_
      refine x_icmp_ne_f (pc := 6) 13 dX9_lit_6 (by decide) (hc) ?_
      refine x_iconst (pc := 9) (nI 1) dX9_lit_9 (by decide) ?_
      refine x_goto (pc := 10) 14 dX9_lit_10 (by decide) ?_
      refine x_istore_n (pc := 14) 3 dX9_lit_14 rfl (by decide) rfl ?_
      refine x_iload_n (pc := 15) 3 dX9_lit_15 rfl rfl ?_
      refine x_if_eq_f (pc := 16) 32 dX9_lit_16 (by decide) (by decide) ?_
      refine x_iload_n (pc := 19) 2 dX9_lit_19 rfl rfl ?_
      refine x_if_eq_f (pc := 20) 32 dX9_lit_20 (by decide) (by decide) ?_
      refine x_aload_n (pc := 23) 0 dX9_lit_23 rfl rfl ?_
      refine x_iconst (pc := 24) (nI 3) dX9_lit_24 (by decide) ?_
      refine x_aload_n (pc := 25) 0 dX9_lit_25 rfl rfl ?_
      refine x_geti_h (pc := 26) dX9_lit_26 fX9_233 (zat_b rfl rfl) rfl rfl ?_
      rw [hhe]
      refine x_callV2v (pc := 29) dX9_lit_29 lX9_248 (zat_b rfl rfl) rfl (t_fails (d + 2) _ _) (Nat.le_of_ble_eq_true rfl) (Or.inl zgr) ?_
      exact K
    | false =>
      have K := K32 (a_here α) hhe (by unfold a_b3; rw [hm, hf]; rfl)
      rw [hf] at K
      refine x_bipush (pc := 4) (nI 45) dX9_lit_4 (by decide) ?_
      refine x_icmp_ne_f (pc := 6) 13 dX9_lit_6 (by decide) (hc) ?_
      refine x_iconst (pc := 9) (nI 1) dX9_lit_9 (by decide) ?_
      refine x_goto (pc := 10) 14 dX9_lit_10 (by decide) ?_
      refine x_istore_n (pc := 14) 3 dX9_lit_14 rfl (by decide) rfl ?_
      refine x_iload_n (pc := 15) 3 dX9_lit_15 rfl rfl ?_
      refine x_if_eq_f (pc := 16) 32 dX9_lit_16 (by decide) (by decide) ?_
      refine x_iload_n (pc := 19) 2 dX9_lit_19 rfl rfl ?_
      refine x_if_eq_t (pc := 20) 32 dX9_lit_20 (by decide) (rfl) ?_
      exact K
  · have hm : a_mi α = false := by unfold a_mi; simp [hc]
    rw [hm] at K32
    have K := K32 (a_here α) hhe (by unfold a_b3; rw [hm]; rfl)
    refine x_bipush (pc := 4) (nI 45) dX9_lit_4 (by decide) ?_
    refine x_icmp_ne_t (pc := 6) 13 dX9_lit_6 (by decide) (hc) ?_
    refine x_iconst (pc := 13) (nI 0) dX9_lit_13 (by decide) ?_
    refine x_istore_n (pc := 14) 3 dX9_lit_14 rfl (by decide) rfl ?_
    refine x_iload_n (pc := 15) 3 dX9_lit_15 rfl rfl ?_
    refine x_if_eq_t (pc := 16) 32 dX9_lit_16 (by decide) (rfl) ?_
    exact K
def a_endS (α : Nat → Nat → Int32) : Nat → Nat → Int32 :=
  if α 100 25 = 0 then (if a_chr α = nI 59 then zup α 100 24 (nI (a_hp α + 1)) else zup (a_fails (a_here α) (nI 1) (nI (a_hp α))) 100 24 (nI (a_hp α + 1))) else zup α 100 24 (nI (aPl α + 1))
theorem t_endsStatement (d : Nat) (hT : aWT α) : zTr E (d + 2) mX9_endsStatement [.ref 100] (κ, α, τ) none (κ, a_endS α, τ) := by
  have hhe : a_here α 100 24 = nI (a_hp α) := by unfold a_here; rw [zup_same]
  refine zM.tr (zM_of [some (.ref 100)] (by decide) rfl (Nat.le_of_ble_eq_true rfl) ?_)
  have fin : ∀ β q, β 100 24 = nI q → a_endS α = zup β 100 24 (nI (q + 1)) → zX E (d + 2) mX9_endsStatement 25 [some (.ref 100)] [] (κ, β, τ) (fun a m => a = none ∧ m = (κ, a_endS α, τ)) := by
    intro β q hq he
    refine x_aload_n (pc := 25) 0 dX9_endsStatement_25 rfl rfl ?_
    refine x_dup (pc := 26) dX9_endsStatement_26 rfl ?_
    refine x_geti_h (pc := 27) dX9_endsStatement_27 fX9_233 (zat_b rfl rfl) rfl rfl ?_
    rw [hq]
    refine x_iconst (pc := 30) (nI 1) dX9_endsStatement_30 (by decide) ?_
    refine x_iadd (pc := 31) dX9_endsStatement_31 ?_
    rw [nI_add]
    refine x_puti_h (pc := 32) dX9_endsStatement_32 pX9_233 (zat_b rfl rfl) rfl rfl ?_
    refine x_vret (pc := 35) dX9_endsStatement_35 rfl ?_
    exact ⟨rfl, by rw [he]⟩
  by_cases h : α 100 25 = 0
  · by_cases hc : a_chr α = nI 59
    ·
      refine x_aload_n (pc := 0) 0 dX9_endsStatement_0 rfl rfl ?_
      refine x_geti_h (pc := 1) dX9_endsStatement_1 fX9_220 (zat_b rfl rfl) rfl rfl ?_
      refine x_if_ne_f (pc := 4) 25 dX9_endsStatement_4 (by decide) (h) ?_
      refine x_aload_n (pc := 7) 0 dX9_endsStatement_7 rfl rfl ?_
      refine x_callV0i (pc := 8) dX9_endsStatement_8 lX9_223 (zat_b rfl rfl) rfl (t_here d hT) (Nat.le_of_ble_eq_true rfl) (Or.inl zgr) ?_
      refine x_bipush (pc := 11) (nI 59) dX9_endsStatement_11 (by decide) ?_
      refine x_icmp_eq_t (pc := 13) 25 dX9_endsStatement_13 (by decide) (hc) ?_
      exact fin _ _ hhe (by unfold a_endS a_here; rw [if_pos h, if_pos hc, zup_zup])
    ·
      refine x_aload_n (pc := 0) 0 dX9_endsStatement_0 rfl rfl ?_
      refine x_geti_h (pc := 1) dX9_endsStatement_1 fX9_220 (zat_b rfl rfl) rfl rfl ?_
      refine x_if_ne_f (pc := 4) 25 dX9_endsStatement_4 (by decide) (h) ?_
      refine x_aload_n (pc := 7) 0 dX9_endsStatement_7 rfl rfl ?_
      refine x_callV0i (pc := 8) dX9_endsStatement_8 lX9_223 (zat_b rfl rfl) rfl (t_here d hT) (Nat.le_of_ble_eq_true rfl) (Or.inl zgr) ?_
      refine x_bipush (pc := 11) (nI 59) dX9_endsStatement_11 (by decide) ?_
      refine x_icmp_eq_f (pc := 13) 25 dX9_endsStatement_13 (by decide) (hc) ?_
      refine x_aload_n (pc := 16) 0 dX9_endsStatement_16 rfl rfl ?_
      refine x_iconst (pc := 17) (nI 1) dX9_endsStatement_17 (by decide) ?_
      refine x_aload_n (pc := 18) 0 dX9_endsStatement_18 rfl rfl ?_
      refine x_geti_h (pc := 19) dX9_endsStatement_19 fX9_233 (zat_b rfl rfl) rfl rfl ?_
      rw [hhe]
      refine x_callV2v (pc := 22) dX9_endsStatement_22 lX9_248 (zat_b rfl rfl) rfl (t_fails d _ _) (Nat.le_of_ble_eq_true rfl) (Or.inl zgr) ?_
      exact fin _ _ (by rw [a_fails_at (Or.inr (by decide))]; exact hhe) (by unfold a_endS; rw [if_pos h, if_neg hc])
  ·
    refine x_aload_n (pc := 0) 0 dX9_endsStatement_0 rfl rfl ?_
    refine x_geti_h (pc := 1) dX9_endsStatement_1 fX9_220 (zat_b rfl rfl) rfl rfl ?_
    refine x_if_ne_t (pc := 4) 25 dX9_endsStatement_4 (by decide) (h) ?_
    exact fin α (aPl α) hT.1 (by unfold a_endS; rw [if_neg h])
end M18
