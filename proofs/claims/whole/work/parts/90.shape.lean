/-! the shape of what is learnt -/
section SH
variable {κ α : Nat → Nat → Int32} {T : Nat → Int32} {L : Nat → Nat} {R : Nat → Int32} {t w c : Nat}
theorem zT_lit {i : Nat} (hw : tW 30 T t) (ha : aT α T L R t w) (hi : i < t) {β : Nat → Nat → Int32} (e : β 105 = α 105) : a_litOf β (zv (T i)) = -(T i) := by
  obtain ⟨v, h1, h2, ev, d⟩ := lok_two (hw.2.1 i hi)
  have N := zv_tab (v := v) (by omega) h1
  have hs := (ha.2.1 i hi).2.2.2.2
  unfold a_litOf
  rw [e, hs, ev]
  have Tb := zv_tab1 v (by omega)
  rcases d with d | d
  · rw [d, zsg_p h1 h2, if_pos (by decide)]
  · rw [d, zsg_m h1 h2, if_neg (by decide), Tb.2.2.2]
/-- a learnt clause's list: xs 0 of this level, the others of lower ones, falling -/
def zXL (T : Nat → Int32) (L : Nat → Nat) (t w : Nat) (xs : List Int32) : Prop :=
  (1 ≤ xs.length ∧ xs.length ≤ 30) ∧ (∀ k, k < xs.length → ∃ i, i < t ∧ xs.getD k 0 = -(T i) ∧ 1 ≤ L i ∧ (k = 0 → L i = w) ∧ (0 < k → L i < w)) ∧
  ∀ k k' i i', k < k' → k' < xs.length → i < t → i' < t → xs.getD k 0 = -(T i) → xs.getD k' 0 = -(T i') → ¬ i = i' ∧ L i' ≤ L i
theorem zAn.shape (h : zAn κ α T L R t w) (hV : kV κ = aV α) (h9 : κ 3 9 = nI c) (hc : zCf α T L t w c) : zXL T L t w (a_lst α c) := by
  obtain ⟨-, -, -, q2, ⟨n', q3⟩, -, g1, g2, β, e1, e105, e106, eV, hm, hw1⟩ := h.learnt hV h9 hc
  have hW := h.2.2.2.2.2.2.1
  have hV30 := hW.1.2
  have hw30 := h.w30
  have ht := hw30.1
  have hwt := h.2.2.2.1.le
  have h1w := h.2.2.2.2.2.2.2
  -- where a member stands
  have pos : ∀ u, 1 ≤ u → u ≤ aV α → ¬ β 112 u = 0 → ∃ i, i < t ∧ zv (T i) = u ∧ 1 ≤ L i ∧ a_litOf β u = -(T i) ∧ β 106 u = nI (L i) := fun u u1 u2 hu => by
    obtain ⟨i, i1, i2, i3⟩ := q3.2.2.2.2.1 u u1 (by omega) (hm u u1 u2 hu)
    refine ⟨i, i1, i2, i3, by rw [← i2]; exact zT_lit hw30 h.1 i1 e105, ?_⟩
    rw [e106, ← i2, (h.1.2.1 i i1).2.1]
  -- one of this level
  have one : (a_inL β w (aV β) 1).length = 1 := by
    rw [l_inLen, eV]
    have : a_levelNow (a_l3 α c) = zcnt (a_now (a_l3 α c)) 1 (aV α) := by
      unfold a_levelNow
      rw [show aV (a_l3 α c) = aV α from by unfold aV; rw [q3.1.at (p := 101) (by decide)]]
    refine Eq.trans ?_ (this.symm.trans q2)
    refine zcnt_congr (fun v v1 v2 => ?_)
    rw [Bool.eq_iff_iff, q3.now h v1 (by omega)]
    unfold zPl
    rw [Bool.and_eq_true, decide_eq_true_eq, decide_eq_true_eq]
    constructor
    · rintro ⟨a, b⟩
      obtain ⟨i, i1, i2, i3, -, i5⟩ := pos v v1 (by omega) a
      have l := h.lv i1
      exact ⟨i, i1, i2, (nI_eq (by omega) (by omega)).mp (i5.symm.trans b), hm v v1 (by omega) a⟩
    · rintro ⟨i, i1, i2, i3, i4⟩
      refine ⟨by rw [← i2]; exact hw1 i i1 i3 (by rw [i2]; exact i4), ?_⟩
      rw [e106, ← i2, (h.1.2.1 i i1).2.1, i3]
  obtain ⟨w', rfl⟩ : ∃ w', w = w' + 1 := ⟨w - 1, by omega⟩
  obtain ⟨l0, el0⟩ := List.length_eq_one_iff.mp one
  have exs : a_lst α c = l0 :: a_outL β w' := by
    rw [e1, show a_outL β (w' + 1) = a_inL β (w' + 1) (aV β) 1 ++ a_outL β w' from rfl, el0]; rfl
  have mem0 : ∃ i, i < t ∧ l0 = -(T i) ∧ 1 ≤ L i ∧ L i = w' + 1 := by
    obtain ⟨u, u1, u2, u3, u4, u5⟩ := l_inMem (β := β) (l := w' + 1) (e := l0) (aV β) 1 (by rw [el0]; exact List.mem_singleton.mpr rfl)
    rw [eV] at u2
    obtain ⟨i, i1, i2, i3, i4, i5⟩ := pos u u1 (by omega) u3
    have l := h.lv i1
    exact ⟨i, i1, by rw [u5, i4], i3, (nI_eq (by omega) (by omega)).mp (i5.symm.trans u4)⟩
  have memR : ∀ e, e ∈ a_outL β w' → ∃ i, i < t ∧ e = -(T i) ∧ 1 ≤ L i ∧ L i < w' + 1 := fun e he => by
    obtain ⟨l, l1, l2, u, u1, u2, u3, u4, u5⟩ := l_outMem w' he
    rw [eV] at u2
    obtain ⟨i, i1, i2, i3, i4, i5⟩ := pos u u1 u2 u3
    have li := h.lv i1
    have := (nI_eq (by omega) (by omega)).mp (i5.symm.trans u4)
    exact ⟨i, i1, by rw [u5, i4], i3, by omega⟩
  refine ⟨⟨g1, g2⟩, fun k hk => ?_, fun k k' i i' a b d1 d2 f1 f2 => ?_⟩
  · rw [exs] at hk ⊢
    cases k with
    | zero =>
      obtain ⟨i, i1, i2, i3, i4⟩ := mem0
      exact ⟨i, i1, i2, i3, fun _ => i4, fun x => by omega⟩
    | succ k =>
      have hk' : k < (a_outL β w').length := by simpa using hk
      obtain ⟨i, i1, i2, i3, i4⟩ := memR _ (List.getElem_mem hk')
      refine ⟨i, i1, ?_, i3, fun x => by omega, fun _ => i4⟩
      rw [← i2]
      simp [List.getD_eq_getElem?_getD, List.getElem?_eq_getElem hk']
  · have pw := l_outPw (β := β) (by rw [eV]; exact hV30) (w' + 1) (by omega)
    rw [← e1] at pw
    have hk : k < (a_lst α c).length := by omega
    have P := List.pairwise_iff_getElem.mp pw k k' hk b a
    have g1 : (a_lst α c)[k] = -(T i) := by rw [← f1]; simp [List.getD_eq_getElem?_getD, List.getElem?_eq_getElem hk]
    have g2 : (a_lst α c)[k'] = -(T i') := by rw [← f2]; simp [List.getD_eq_getElem?_getD, List.getElem?_eq_getElem b]
    rw [g1, g2, (a_tr_neg (hw30.2.1 i d1)).2.1, (a_tr_neg (hw30.2.1 i' d2)).2.1, e106, (h.1.2.1 i d1).2.1, (h.1.2.1 i' d2).2.1] at P
    have l1 := h.lv d1
    have l2 := h.lv d2
    exact ⟨fun e => P.1 (by rw [e]), (nI_leI (by omega) (by omega)).mp P.2⟩
end SH
