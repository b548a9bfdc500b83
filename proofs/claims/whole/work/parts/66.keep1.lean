/-! a new state that is kept: the memory behind it -/
def zkn (μ : zMem) (g : Nat) : zMem := (fun p j => if 10 + 20 * g ≤ p ∧ p ≤ 21 + 20 * g then (if p = 10 + 20 * g ∧ (j = 12 ∨ j = 16) then -1 else 0) else if p = 2 ∧ j + 1 = g then 1 else μ.1 p j, μ.2.1, μ.2.2.1, fun k => if k = g then 512 else if k = g + 2 then 1 else if k = 5 then zg μ 5 + 12 else if k = 6 then zg μ 6 + 2190 else zg μ k)
def zan (ad : Nat → Nat) (g : Nat) (qs : Nat → Nat) : Nat → Nat := fun p => if 10 + 20 * g ≤ p ∧ p ≤ 21 + 20 * g then qs (p - (10 + 20 * g)) else ad p
def zL12 (E : zEnv) (qs : Nat → Nat) : va_W := [(qs 0, .inr (3, [.ref (qs 1), .ref (qs 7), .ref (qs 9), .ref (qs 11), .int 0, .int 0, .int 0, .int 0, .int 0, .int 0, .int 0, .int 0, .int (-1), .int 0, .int 0, .int 0, .int (-1)])), (qs 1, .inr (5, [.ref (qs 2), .ref (qs 3), .ref (qs 4), .ref (qs 5), .ref (qs 6), .int 0, .int 0])), (qs 2, .inl (zcy E 0, 400, .inl (fun _ => 0))), (qs 3, .inl (zcy E 0, 400, .inl (fun _ => 0))), (qs 4, .inl (zcy E 1, 400, .inl (fun _ => 0))), (qs 5, .inl (zcy E 0, 401, .inl (fun _ => 0))), (qs 6, .inl (zcy E 0, 512, .inl (fun _ => 0))), (qs 7, .inr (1, [.ref (qs 8), .int 0, .int 0])), (qs 8, .inl (zcy E 0, 8, .inl (fun _ => 0))), (qs 9, .inr (1, [.ref (qs 10), .int 0, .int 0])), (qs 10, .inl (zcy E 0, 8, .inl (fun _ => 0))), (qs 11, .inl (zcy E 0, 31, .inl (fun _ => 0)))]
def zBg (g : Nat) : List Nat := (List.range 12).map (fun k => 10 + 20 * g + k)
section KN
variable {E : zEnv} {μ : zMem} {g : Nat} {ad : Nat → Nat} {qs : Nat → Nat}
theorem zan_in {p : Nat} (h : 10 + 20 * g ≤ p ∧ p ≤ 21 + 20 * g) : zan ad g qs p = qs (p - (10 + 20 * g)) := if_pos h
theorem zan_out {p : Nat} (h : ¬ (10 + 20 * g ≤ p ∧ p ≤ 21 + 20 * g)) : zan ad g qs p = ad p := if_neg h
def zrfB (g p k : Nat) : Bool := match zrf p k with
  | some r => !(Nat.ble (10 + 20 * g) r && Nat.ble r (21 + 20 * g)) || (Nat.ble (10 + 20 * g) p && Nat.ble p (21 + 20 * g))
  | none => true
theorem zrfB_t : ∀ g < 3, ∀ p < 131, ∀ k < 28, (Nat.beq g 0 || zrfB g p k) = true := by decide +kernel
theorem zrf_out (hg : g < 3) (hg1 : 1 ≤ g) {p k r : Nat} (hp : p < 131) (hk : k < 28) (h : zrf p k = some r) (hb : ¬ (10 + 20 * g ≤ p ∧ p ≤ 21 + 20 * g)) : ¬ (10 + 20 * g ≤ r ∧ r ≤ 21 + 20 * g) := by
  have ht : zrfB g p k = true := by
    have q := zrfB_t g hg p hp k hk
    have hb0 : Nat.beq g 0 = false := by cases h : Nat.beq g 0 with | false => rfl | true => exact absurd (Nat.eq_of_beq_eq_true h) (by omega)
    rw [hb0] at q
    exact q
  unfold zrfB at ht
  rw [h] at ht
  intro q
  simp only [Nat.ble_eq_true_of_le q.1, Nat.ble_eq_true_of_le q.2, Bool.and_self, Bool.not_true, Bool.false_or, Bool.and_eq_true] at ht
  exact hb ⟨Nat.le_of_ble_eq_true ht.1, Nat.le_of_ble_eq_true ht.2⟩
theorem zaty5 : ∀ p < 131, zaty p = some 5 → p = 2 := by decide +kernel
theorem zr_kn {p i : Nat} (h : ¬ (10 + 20 * g ≤ p ∧ p ≤ 21 + 20 * g)) (h2 : p ≠ 2) : zr (zkn μ g) p i = zr μ p i := by
  unfold zr
  cases Nat.ble 100 p
  · show (if 10 + 20 * g ≤ p ∧ p ≤ 21 + 20 * g then _ else if p = 2 ∧ i + 1 = g then 1 else μ.1 p i) = μ.1 p i
    rw [if_neg h, if_neg (fun q => h2 q.1)]
  · rfl
theorem zg_kn {k : Nat} (h : k ≠ g) (h2 : k ≠ g + 2) (h5 : k ≠ 5) (h6 : k ≠ 6) : zg (zkn μ g) k = zg μ k := by
  show (if k = g then 512 else if k = g + 2 then 1 else if k = 5 then zg μ 5 + 12 else if k = 6 then zg μ 6 + 2190 else zg μ k) = _
  rw [if_neg h, if_neg h2, if_neg h5, if_neg h6]
theorem zln_kn (hg : g < 3) (hg1 : 1 ≤ g) {p : Nat} (hp : ¬ (10 + 20 * g ≤ p ∧ p ≤ 21 + 20 * g)) : zln (zkn μ g) p = zln μ p := by
  unfold zln
  by_cases h1 : p = 16
  · subst h1; exact zg_kn (by omega) (by omega) (by decide) (by decide)
  · by_cases h2 : p = 36
    · subst h2; exact zg_kn (by omega) (by omega) (by decide) (by decide)
    · by_cases h3 : p = 56
      · subst h3; exact zg_kn (by omega) (by omega) (by decide) (by decide)
      · have b1 : Nat.beq p 16 = false := by cases h : Nat.beq p 16 with | false => rfl | true => exact absurd (Nat.eq_of_beq_eq_true h) h1
        have b2 : Nat.beq p 36 = false := by cases h : Nat.beq p 36 with | false => rfl | true => exact absurd (Nat.eq_of_beq_eq_true h) h2
        have b3 : Nat.beq p 56 = false := by cases h : Nat.beq p 56 with | false => rfl | true => exact absurd (Nat.eq_of_beq_eq_true h) h3
        rw [b1, b2, b3]; rfl
theorem zcel_kn (hg : g < 3) (hg1 : 1 ≤ g) {p : Nat} (hp : p < 131) (hb : ¬ (10 + 20 * g ≤ p ∧ p ≤ 21 + 20 * g)) (h2 : p ≠ 2) : zcel E (zan ad g qs) (zkn μ g) p = zcel E ad μ p := by
  unfold zcel
  cases hc : zcls p with
  | some c =>
    show Sum.inr (c, _) = Sum.inr (c, _)
    refine congrArg (fun l => Sum.inr (c, l)) (List.map_congr_left (fun k hk => ?_))
    have hk28 := Nat.lt_of_lt_of_le (List.mem_range.mp hk) (znf_le p hp c hc)
    unfold zfv
    cases hr : zrf p k with
    | none => show Value.int _ = Value.int _; rw [zr_kn hb h2]
    | some r =>
      show Value.ref _ = Value.ref _
      rw [zan_out (zrf_out hg hg1 hp hk28 hr hb)]
  | none =>
    show (match zaty p with | some a => zarr E (zan ad g qs) (zkn μ g) p a | none => _) = (match zaty p with | some a => zarr E ad μ p a | none => _)
    cases ha : zaty p with
    | none => rfl
    | some a =>
      show zarr E (zan ad g qs) (zkn μ g) p a = zarr E ad μ p a
      have hz : ∀ i, zr (zkn μ g) p i = zr μ p i := fun i => zr_kn hb h2
      have ha5 : a ≠ 5 := fun e => h2 (zaty5 p hp (by rw [ha, e]))
      unfold zarr
      simp only [hz, zln_kn hg hg1 hb]
      match a, ha5 with
      | 0, _ => rfl
      | 1, _ => rfl
      | 2, _ => rfl
      | 3, _ => rfl
      | 4, _ => rfl
      | n + 6, _ => rfl
theorem zcel_2 {ad : Nat → Nat} {μ : zMem} : zcel E ad μ 2 = .inl (zcy E 5, 2, .inr (.inr (.inr (.inr (fun i => if zr μ 2 i = 0 then none else some (ad (30 + 20 * i))))))) := rfl
theorem zcel_kn2 (hg : g < 3) (hg1 : 1 ≤ g) : zcel E (zan ad g qs) (zkn μ g) 2 = .inl (zcy E 5, 2, .inr (.inr (.inr (.inr (va_up (fun i => if zr μ 2 i = 0 then none else some (ad (30 + 20 * i))) (g - 1) (some (qs 0))))))) := by
  rw [zcel_2]
  refine congrArg (fun f => Sum.inl (zcy E 5, 2, Sum.inr (Sum.inr (Sum.inr (Sum.inr f))))) ?_
  funext i
  have hz : zr (zkn μ g) 2 i = if i + 1 = g then 1 else zr μ 2 i := by
    show (if 10 + 20 * g ≤ 2 ∧ 2 ≤ 21 + 20 * g then _ else if 2 = 2 ∧ i + 1 = g then 1 else μ.1 2 i) = _
    rw [if_neg (by omega)]
    by_cases h : i + 1 = g
    · rw [if_pos ⟨rfl, h⟩, if_pos h]
    · rw [if_neg (fun q => h q.2), if_neg h]; rfl
  rw [hz]
  unfold va_up
  by_cases h : i + 1 = g
  · rw [if_pos h, if_neg (by decide), if_pos (by omega), zan_in (by omega)]
    rw [show 30 + 20 * i - (10 + 20 * g) = 0 by omega]
  · rw [if_neg h, zan_out (by omega)]
    exact (if_neg (show ¬ i = g - 1 by omega)).symm
theorem zcel_new (hg : g < 3) (hg1 : 1 ≤ g) : ∀ k < 12, (zan ad g qs (10 + 20 * g + k), zcel E (zan ad g qs) (zkn μ g) (10 + 20 * g + k)) ∈ (zL12 E qs)[k]? := by
  intro k hk
  have h1 : g = 1 ∨ g = 2 := by omega
  have h2 : k = 0 ∨ k = 1 ∨ k = 2 ∨ k = 3 ∨ k = 4 ∨ k = 5 ∨ k = 6 ∨ k = 7 ∨ k = 8 ∨ k = 9 ∨ k = 10 ∨ k = 11 := by omega
  rcases h1 with rfl | rfl
  · rcases h2 with rfl | rfl | rfl | rfl | rfl | rfl | rfl | rfl | rfl | rfl | rfl | rfl <;> exact rfl
  · rcases h2 with rfl | rfl | rfl | rfl | rfl | rfl | rfl | rfl | rfl | rfl | rfl | rfl <;> exact rfl
theorem zpl_nb (hg : g < 3) (hg1 : 1 ≤ g) (h0 : zg μ (g + 2) ≠ 1) {p : Nat} (h : p ∈ zpl μ) : ¬ (10 + 20 * g ≤ p ∧ p ≤ 21 + 20 * g) := by
  have t0 : ∀ p ∈ zS0, ¬ (30 ≤ p ∧ p ≤ 41) ∧ ¬ (50 ≤ p ∧ p ≤ 61) := by decide
  have t1 : ∀ p ∈ zB0, ¬ (50 ≤ p ∧ p ≤ 61) := by decide
  have t2 : ∀ p ∈ zB1, ¬ (30 ≤ p ∧ p ≤ 41) := by decide
  unfold zpl at h
  rcases List.mem_append.mp h with h | h
  · have := t0 p h
    omega
  · rcases List.mem_append.mp h with h | h
    · by_cases z : zg μ 3 = 1
      · rw [if_pos z] at h
        have := t1 p h
        have hne : g ≠ 1 := fun e => h0 (by rw [e]; exact z)
        omega
      · rw [if_neg z] at h; cases h
    · by_cases z : zg μ 4 = 1
      · rw [if_pos z] at h
        have := t2 p h
        have hne : g ≠ 2 := fun e => h0 (by rw [e]; exact z)
        omega
      · rw [if_neg z] at h; cases h
theorem zpl_kn (hg : g < 3) (hg1 : 1 ≤ g) (h0 : zg μ (g + 2) ≠ 1) : ∃ A C : List Nat, zpl μ = A ++ C ∧ zpl (zkn μ g) = A ++ (zBg g ++ C) := by
  have hself : zg (zkn μ g) (g + 2) = 1 := by
    show (if g + 2 = g then 512 else if g + 2 = g + 2 then 1 else _) = 1
    rw [if_neg (by omega), if_pos rfl]
  rcases (show g = 1 ∨ g = 2 by omega) with rfl | rfl
  · refine ⟨zS0, if zg μ 4 = 1 then zB1 else [], ?_, ?_⟩
    · unfold zpl
      rw [if_neg (show ¬ zg μ 3 = 1 from h0)]
      rfl
    · unfold zpl
      rw [if_pos (show zg (zkn μ 1) 3 = 1 from hself), zg_kn (k := 4) (by decide) (by decide) (by decide) (by decide)]
      rfl
  · refine ⟨zS0 ++ (if zg μ 3 = 1 then zB0 else []), [], ?_, ?_⟩
    · unfold zpl
      rw [if_neg (show ¬ zg μ 4 = 1 from h0), List.append_assoc]
    · unfold zpl
      rw [if_pos (show zg (zkn μ 2) 4 = 1 from hself), zg_kn (k := 3) (by decide) (by decide) (by decide) (by decide), List.append_assoc]
      rfl
theorem zkept {i2 : Nat} {H : Heap} (hg : g < 3) (hg1 : 1 ≤ g) (h0 : zg μ (g + 2) ≠ 1) (hAS : zAS E ad) (hD0 : va_D (zA E) (zws E ad μ)) (hi2 : (zpl μ)[i2]? = some 2)
    (hP : va_P (zD E) vwCl ((zws E ad μ ++ zL12 E qs).set i2 (ad 2, .inl (zcy E 5, 2, .inr (.inr (.inr (.inr (va_up (fun i => if zr μ 2 i = 0 then none else some (ad (30 + 20 * i))) (g - 1) (some (qs 0))))))))) H)
    (hD : va_D (zA E) ((zws E ad μ ++ zL12 E qs).set i2 (ad 2, .inl (zcy E 5, 2, .inr (.inr (.inr (.inr (va_up (fun i => if zr μ 2 i = 0 then none else some (ad (30 + 20 * i))) (g - 1) (some (qs 0)))))))))) : zWd E (zan ad g qs) (zkn μ g) H := by
  obtain ⟨A, C, hA, hA1⟩ := zpl_kn (μ := μ) hg hg1 h0
  have hlw : (zws E ad μ).length = A.length + C.length := by rw [zws_len, hA, List.length_append]
  have hi2A : i2 < (zpl μ).length := (List.getElem?_eq_some_iff.mp hi2).1
  have hBl : (zBg g).length = 12 := rfl
  have key : ∀ (k : Nat) (x : Nat × va_E), (zws E (zan ad g qs) (zkn μ g))[k]? = some x → ((zws E ad μ ++ zL12 E qs).set i2 (ad 2, .inl (zcy E 5, 2, .inr (.inr (.inr (.inr (va_up (fun i => if zr μ 2 i = 0 then none else some (ad (30 + 20 * i))) (g - 1) (some (qs 0)))))))))[if k < A.length then k else if k < A.length + 12 then A.length + C.length + (k - A.length) else k - 12]? = some x := by
    intro k x hx
    unfold zws at hx
    rw [List.getElem?_map, hA1] at hx
    have old : ∀ k' : Nat, (zpl μ)[k']? = (A ++ (zBg g ++ C))[k]? → ((zws E ad μ ++ zL12 E qs).set i2 (ad 2, .inl (zcy E 5, 2, .inr (.inr (.inr (.inr (va_up (fun i => if zr μ 2 i = 0 then none else some (ad (30 + 20 * i))) (g - 1) (some (qs 0)))))))))[k']? = some x := by
      intro k' hk'
      rw [← hk'] at hx
      cases hp : (zpl μ)[k']? with
      | none => rw [hp] at hx; cases hx
      | some p =>
        rw [hp] at hx
        have hx : (zan ad g qs p, zcel E (zan ad g qs) (zkn μ g) p) = x := Option.some.inj hx
        subst hx
        have hpm := List.mem_of_getElem? hp
        have hnb := zpl_nb hg hg1 h0 hpm
        have hkl : k' < (zpl μ).length := (List.getElem?_eq_some_iff.mp hp).1
        rw [zan_out hnb]
        by_cases h2 : p = 2
        · subst h2
          have : k' = i2 := zpl_once hD0 hp hi2
          subst this
          rw [List.getElem?_set_self (by rw [List.length_append, zws_len]; omega), zcel_kn2 hg hg1]
        · have hne : i2 ≠ k' := fun e => h2 (by rw [← e, hi2] at hp; exact (Option.some.inj hp).symm)
          rw [List.getElem?_set_ne hne, List.getElem?_append_left (by rw [zws_len]; exact hkl), zcel_kn hg hg1 (zpl_lt hpm) hnb h2]
          unfold zws
          rw [List.getElem?_map, hp]
          rfl
    by_cases h1 : k < A.length
    · rw [if_pos h1]
      refine old k ?_
      rw [hA, List.getElem?_append_left h1, List.getElem?_append_left h1]
    · rw [if_neg h1]
      by_cases h2 : k < A.length + 12
      · rw [if_pos h2]
        rw [List.getElem?_append_right (by omega), List.getElem?_append_left (by rw [hBl]; omega)] at hx
        have hb : (zBg g)[k - A.length]? = some (10 + 20 * g + (k - A.length)) := by
          unfold zBg
          rw [List.getElem?_map, List.getElem?_range (by omega)]
          rfl
        rw [hb] at hx
        have hx : (zan ad g qs (10 + 20 * g + (k - A.length)), zcel E (zan ad g qs) (zkn μ g) (10 + 20 * g + (k - A.length))) = x := Option.some.inj hx
        have hm := zcel_new (E := E) (μ := μ) (ad := ad) (qs := qs) hg hg1 (k - A.length) (by omega)
        rw [hx] at hm
        have hne : i2 ≠ A.length + C.length + (k - A.length) := by rw [hA, List.length_append] at hi2A; omega
        rw [List.getElem?_set_ne hne, List.getElem?_append_right (by omega), hlw, Nat.add_sub_cancel_left]
        exact hm
      · rw [if_neg h2]
        refine old (k - 12) ?_
        rw [hA, List.getElem?_append_right (by omega), List.getElem?_append_right (by omega), List.getElem?_append_right (by omega), hBl]
        congr 1
        omega
  refine ⟨hP.by _ key, hD.by _ key (fun i j hi hj hij => ?_), hAS.of (fun p hp => zan_out (by omega))⟩
  rw [zws_len, hA1, List.length_append, List.length_append, hBl] at hi hj
  by_cases h1 : i < A.length <;> by_cases h2 : j < A.length <;> by_cases h3 : i < A.length + 12 <;> by_cases h4 : j < A.length + 12 <;> simp only [h1, h2, h3, h4, if_true, if_false] at hij <;> omega
end KN
