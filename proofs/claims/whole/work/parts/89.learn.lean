/-! what is learnt, in the class and in the reference -/
theorem cR.of {κ κ' α : Nat → Nat → Int32} (h : cR κ α) (e : ∀ p, 11 ≤ p → p ≤ 16 → κ' p = κ p) : cR κ' α := by
  unfold cR at *
  have e1 := e 11 (by decide) (by decide)
  have e2 := e 12 (by decide) (by decide)
  have e3 := e 13 (by decide) (by decide)
  have e4 := e 14 (by decide) (by decide)
  have e5 := e 15 (by decide) (by decide)
  have e6 := e 16 (by decide) (by decide)
  have eS : ∀ c, kS κ' c = kS κ c := fun c => by unfold kS; rw [e5]
  have eL : ∀ c, kLn κ' c = kLn κ c := fun c => by unfold kLn; rw [eS, eS]
  rw [e1, e2, e3, e4, e6]
  refine ⟨h.1, fun c hc => ?_⟩
  rw [eL, eS]
  exact h.2 c hc
theorem zAn.of {κ κ' α : Nat → Nat → Int32} {T : Nat → Int32} {L : Nat → Nat} {R : Nat → Int32} {t w : Nat} (h : zAn κ α T L R t w) (e : ∀ p, (11 ≤ p ∧ p ≤ 16) ∨ (70 ≤ p ∧ p ≤ 72) → κ' p = κ p) (e3 : ∀ i, i = 2 ∨ i = 6 ∨ i = 7 ∨ i = 8 → κ' 3 i = κ 3 i) : zAn κ' α T L R t w :=
  ⟨h.1, h.2.1.of (fun p a b => e p (.inr ⟨a, b⟩)) (e3 2 (by decide)) (e3 6 (by decide)) (e3 7 (by decide)) ((e3 8 (by decide)).trans h.2.1.1.2), h.2.2.1, h.2.2.2.1, h.2.2.2.2.1, h.2.2.2.2.2.1.of (fun p a b => e p (.inl ⟨a, b⟩)), h.2.2.2.2.2.2⟩
section LE
variable {κ α : Nat → Nat → Int32} {T : Nat → Int32} {L : Nat → Nat} {R : Nat → Int32} {t w c : Nat}
/-- the conflict's clause: all false, one of this level -/
def zCf (α : Nat → Nat → Int32) (T : Nat → Int32) (L : Nat → Nat) (t w c : Nat) : Prop := c < aN α ∧ (∀ k, k < aS α c → ∃ i, i < t ∧ T i = -(aL α c k)) ∧ ∃ k, k < aS α c ∧ ∃ i, i < t ∧ T i = -(aL α c k) ∧ L i = w
theorem k_resolve_at (κ : Nat → Nat → Int32) {p i : Nat} (h : ¬ (p = 3 ∧ (i = 14 ∨ i = 15 ∨ i = 16))) : k_resolve κ p i = κ p i := by
  unfold k_resolve k_ls
  rw [show zup (zup (zup κ 3 14 (k_vf κ (nI 1))) 3 15 (k_rs κ).1) 3 16 (k_rs κ).2 p i = zup (zup κ 3 14 (k_vf κ (nI 1))) 3 15 (k_rs κ).1 p i from if_neg (fun c => h ⟨c.1, .inr (.inr c.2)⟩)]
  rw [show zup (zup κ 3 14 (k_vf κ (nI 1))) 3 15 (k_rs κ).1 p i = zup κ 3 14 (k_vf κ (nI 1)) p i from if_neg (fun c => h ⟨c.1, .inr (.inl c.2)⟩)]
  exact if_neg (fun c => h ⟨c.1, .inl c.2⟩)
/-- the whole of it -/
theorem zAn.learnt (h : zAn κ α T L R t w) (hV : kV κ = aV α) (h9 : κ 3 9 = nI c) (hc : zCf α T L t w c) :
    rowL (k_order (k_resolve κ)) 73 (a_lst α c) ∧ kOf (k_resolve κ) (k_order (k_resolve κ)) ∧ resOK 31 (a_l2 α c) ∧ a_levelNow (a_l3 α c) = 1 ∧ (∃ n', zZ α T L t w n' (k_rs κ) (a_l3 α c)) ∧
    a_cnt (a_l5 α c) = (a_lst α c).length ∧ 1 ≤ (a_lst α c).length ∧ (a_lst α c).length ≤ 30 ∧
    ∃ β : Nat → Nat → Int32, a_lst α c = a_outL β w ∧ β 105 = α 105 ∧ β 106 = α 106 ∧ aV β = aV α ∧ (∀ v, 1 ≤ v → v ≤ aV α → ¬ β 112 v = 0 → kt (k_rs κ).1 v = true) ∧ ∀ i, i < t → L i = w → kt (k_rs κ).1 (zv (T i)) = true → ¬ β 112 (zv (T i)) = 0 := by
  have hW := h.2.2.2.2.2.2.1
  have hw30 := h.w30
  have ht := hw30.1
  have hwt := h.2.2.2.1.le
  have hc400 : c < 400 := Nat.lt_of_lt_of_le hc.1 hW.2.1.2
  have z0 := h.start hc.1 hc.2.1 hc.2.2
  obtain ⟨q1, q2, n', q3⟩ := zZ.loop h t 31 _ _ (Nat.le_refl _) (by omega) z0
  have ers : k_rs κ = k_reL κ (k_vf κ (nI w)) (k_vf κ (nI 1)) t (kM κ c &&& k_vf κ (nI 1), kM κ c &&& k_vf κ (nI 1)) := by
    unfold k_rs
    rw [h9, h.2.1.1.1, h.2.1.1.2, nI_clamp (show c < 2 ^ 31 by omega), nI_clamp (show t < 2 ^ 31 by omega)]
  rw [← ers] at q3
  have q3 : zZ α T L t w n' (k_rs κ) (a_l3 α c) := q3
  let κ2 := k_resolve κ
  have h2 : zAn κ2 α T L R t w := h.of (fun p hp => funext fun i => k_resolve_at κ (fun x => by omega)) (fun i hi => k_resolve_at κ (fun x => by omega))
  have mk : zMk κ2 T L t (k_rs κ).1 := by
    have e14 : κ2 3 14 = k_vf κ (nI 1) := by
      show zup (zup (zup κ 3 14 (k_vf κ (nI 1))) 3 15 (k_rs κ).1) 3 16 (k_rs κ).2 3 14 = _
      rw [zup_i (by decide), zup_i (by decide), zup_same]
    refine ⟨?_, ?_⟩
    · show zup (zup (zup κ 3 14 (k_vf κ (nI 1))) 3 15 (k_rs κ).1) 3 16 (k_rs κ).2 3 15 = _
      rw [zup_i (by decide), zup_same]
    · rw [e14]; exact h.vf (by decide)
  have hV30 := hW.1.2
  -- the reference's arrays
  let β := a_l6 α c
  have oβ : ∀ p, ¬ p = 101 → β p = zTm (a_l3 α c) (aV α) p := fun p hp => by
    funext j
    show a_begins (a_l5 α c) _ _ p j = _
    unfold a_begins
    rw [zup_p hp, zup_p hp, zup_p hp, zup_p hp]; rfl
  have o5 : zoff [112, 113, 114] α (a_l5 α c) := (q3.1.mono (by simp)).tr ((zTm_off (a_l3 α c) (aV α)).mono (by simp))
  have e5N : aN (a_l5 α c) = aN α := by unfold aN; rw [o5.at (p := 101) (by decide)]
  have eVβ : aV β = aV α := by
    unfold aV
    refine congrArg Int32.toNatClampNeg ?_
    show a_begins (a_l5 α c) _ _ 101 0 = _
    unfold a_begins
    rw [zup_i (by decide), zup_i (by decide), zup_i (by omega), zup_i (by omega), o5.at (p := 101) (by decide)]
  have eV5 : aV (a_l5 α c) = aV α := by unfold aV; rw [o5.at (p := 101) (by decide)]
  have e105 : β 105 = α 105 := by
    rw [oβ 105 (by decide)]; funext j
    exact o5.at (p := 105) (by decide) j
  have e106 : β 106 = α 106 := by
    rw [oβ 106 (by decide)]; funext j
    exact o5.at (p := 106) (by decide) j
  have as := zT_asR hw30 h2.1 h2.2.1
  have hlit : ∀ v, 1 ≤ v → v ≤ aV α → (if κ2 3 6 &&& kb (nI v) = 0 then nI v else -(nI v)) = a_litOf β v := fun v v1 v2 => by
    unfold a_litOf
    rw [e105]
    have X := ztr_tab _ (as.val v1 (by omega))
    by_cases e : kt (κ2 3 6) v = true
    · rw [if_neg ((kt_niff _ v1 (by omega)).mpr e), if_pos (X.1.mpr ((as.pos v1 (by omega)).mp e))]
    · rw [if_pos ((kt_iff _ v1 (by omega)).mpr (by simpa using e)), if_neg (fun y => e ((as.pos v1 (by omega)).mpr (X.1.mp y)))]
  have hB : ∀ l, 1 ≤ l → l ≤ 60 → ∀ v, 1 ≤ v → v ≤ aV α → k_otB κ2 (nI l) v = (decide (¬ β 112 v = 0) && decide (β 106 v = nI l)) := fun l _ hl v v1 v2 => by
    rw [oβ 112 (by decide), oβ 106 (by decide)]
    exact q3.tm h2 mk v1 v2 hl
  have e112 : ∀ v, 1 ≤ v → v ≤ aV α → β 112 v = if a_l3 α c 112 v = 0 then nI 0 else if a_dropped (zit a_wlF 0 31 (a_l3 α c)) v = true then nI 0 else nI 1 := fun v v1 v2 => by
    rw [oβ 112 (by decide)]
    have := (a_tr_is (zit a_wlF 0 31 (a_l3 α c)) (aV α)).2.1 v v1 v2
    rw [show zTm (a_l3 α c) (aV α) 112 v = _ from this, (a_wl_is 31 0 (a_l3 α c)).1.at (p := 112) (by decide)]
  have hmem : ∀ v, 1 ≤ v → v ≤ aV α → ¬ β 112 v = 0 → kt (k_rs κ).1 v = true := fun v v1 v2 hv => by
    refine (q3.2.1.2 v v1 (by omega)).mpr (fun e => hv ?_)
    rw [e112 v v1 v2, if_pos e]; rfl
  have hlv : ∀ v, 1 ≤ v → v ≤ aV β → ¬ β 112 v = 0 → ∃ l, 1 ≤ l ∧ l ≤ w ∧ β 106 v = nI l := fun v v1 v2 hv => by
    rw [eVβ] at v2
    obtain ⟨i, i1, i2, i3⟩ := q3.2.2.2.2.1 v v1 (by omega) (hmem v v1 v2 hv)
    exact ⟨L i, i3, (h.lv i1).2.2.2.1, by rw [e106, ← i2, (h.1.2.1 i i1).2.1]⟩
  have elst : a_lst α c = a_outL β w := by
    unfold a_lst
    rw [h.1.1.2, nI_clamp (show w < 2 ^ 31 by omega)]
  have ecnt : a_cnt (a_l5 α c) = a_cnt β := by
    unfold a_cnt
    rw [eVβ, eV5, oβ 112 (by decide)]; rfl
  have elen : (a_lst α c).length = a_cnt β := by rw [elst]; exact l_len (by omega) hlv
  have hle : a_cnt β ≤ 30 := Nat.le_trans (zcnt_le _ _ _) (by rw [eVβ]; exact hV30)
  have hge : 1 ≤ a_cnt β := by
    obtain ⟨i, i1, i2, i3⟩ := q3.2.2.2.2.2.2
    have l := h.lv i1
    rcases Nat.eq_zero_or_pos (a_cnt β) with y | y
    · exfalso
      have := zcnt_zero.mp y (zv (T i)) l.1 (by rw [eVβ]; omega)
      have hne := (q3.2.1.2 _ l.1 l.2.1).mp i3
      rw [e112 _ l.1 l.2.2.1, if_neg hne, q3.drop h2 mk i1, i2] at this
      simp at this
      exact absurd this (by decide)
    · exact y
  have eV2 : kV κ2 = aV α := by
    rw [← hV]; unfold kV
    rw [show κ2 10 4 = κ 10 4 from k_resolve_at κ (fun x => by omega)]
  have r0 : rowL (k_emp κ2 73) 73 [] := ⟨by unfold k_emp; rw [zup_i (by decide), zup_same]; rfl, fun i hi => by cases hi⟩
  have k0 : kOf κ2 (k_emp κ2 73) := fun p p1 p2 => by
    funext j; unfold k_emp; rw [zup_p p1, zup_p p1]
  have e8 : (κ2 3 8).toNatClampNeg = w := by rw [h2.2.1.1.2]; exact nI_clamp (by omega)
  obtain ⟨r1, r2⟩ := l_outer eV2 eVβ hB hlit w _ [] (by omega) k0 r0 (by rw [← elst, elen]; show 0 + _ ≤ 30; omega)
  refine ⟨?_, ?_, q1, q2, ⟨n', q3⟩, by rw [ecnt, elen], by omega, by omega, β, elst, e105, e106, eVβ, hmem, fun i i1 i2 i3 e => ?_⟩
  · show rowL (k_otL κ2 (κ2 3 8).toNatClampNeg (k_emp κ2 73)) 73 _
    rw [e8, elst]; exact r1
  · show kOf κ2 (k_otL κ2 (κ2 3 8).toNatClampNeg (k_emp κ2 73))
    rw [e8]; exact r2
  · have l := h.lv i1
    have hne := (q3.2.1.2 _ l.1 l.2.1).mp i3
    rw [e112 _ l.1 l.2.2.1, if_neg hne, q3.drop h2 mk i1, i2] at e
    simp at e
    exact absurd e (by decide)
end LE
