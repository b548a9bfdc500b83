/-! the learnt clause as a list -/
def rowL (a : Nat → Nat → Int32) (p : Nat) (xs : List Int32) : Prop := a p 1 = nI xs.length ∧ ∀ i, i < xs.length → a (p + 1) i = xs.getD i 0
theorem rowL.putc {a : Nat → Nat → Int32} {xs : List Int32} (h : rowL a 73 xs) (hl : xs.length < 30) (l : Int32) : rowL (k_putc a l) 73 (xs ++ [l]) := by
  have ec : (a 73 1).toNatClampNeg = xs.length := by rw [h.1]; exact nI_clamp (by omega)
  unfold k_putc k_put
  rw [ec, if_pos hl]
  refine ⟨?_, fun i hi => ?_⟩
  · rw [zup_i (by decide), zup_same, h.1, nI_add, List.length_append]; rfl
  · rw [zup_p (by decide), zup_p (by decide)]
    rw [List.length_append] at hi
    have hi : i < xs.length + 1 := hi
    by_cases e : i = xs.length
    · subst e; rw [zup_same]; simp
    · rw [zup_i e, h.2 i (by omega)]
      simp [List.getD_eq_getElem?_getD, List.getElem?_append_left (show i < xs.length by omega)]
theorem k_putc_of {κ a : Nat → Nat → Int32} (h : kOf κ a) (l : Int32) : kOf κ (k_putc a l) := fun p h1 h2 => by
  unfold k_putc
  split
  · unfold k_put
    funext j
    rw [zup_p h1, zup_p h1, zup_p h2]; exact congrFun (h p h1 h2) j
  · exact h p h1 h2
section LI
variable {κ β : Nat → Nat → Int32} {V : Nat}
theorem l_inner {l : Nat} (hB : ∀ v, 1 ≤ v → v ≤ V → k_otB κ (nI l) v = (decide (¬ β 112 v = 0) && decide (β 106 v = nI l))) (hl : ∀ v, 1 ≤ v → v ≤ V → (if κ 3 6 &&& kb (nI v) = 0 then nI v else -(nI v)) = a_litOf β v) : ∀ m v a xs, 1 ≤ v → v + m ≤ V + 1 → kOf κ a → rowL a 73 xs → xs.length + (a_inL β l m v).length ≤ 30 → rowL (zit (k_otF κ (nI l)) v m a) 73 (xs ++ a_inL β l m v) ∧ kOf κ (zit (k_otF κ (nI l)) v m a)
  | 0, v, a, xs, h1, h2, h3, h4, h5 => by
    unfold a_inL zit; rw [List.append_nil]; exact ⟨h4, h3⟩
  | m + 1, v, a, xs, h1, h2, h3, h4, h5 => by
    unfold a_inL at h5 ⊢
    unfold zit
    have hb := hB v h1 (by omega)
    by_cases hc : ¬ β 112 v = 0 ∧ β 106 v = nI l
    · rw [if_pos hc] at h5 ⊢
      rw [decide_eq_true hc.1, decide_eq_true hc.2] at hb
      have e : k_otF κ (nI l) v a = k_putc a (a_litOf β v) := by
        unfold k_otF; rw [hb, hl v h1 (by omega)]; rfl
      rw [e, ← List.append_assoc]
      rw [List.length_append] at h5
      have h5 : xs.length + (1 + (a_inL β l m (v + 1)).length) ≤ 30 := h5
      exact l_inner hB hl m (v + 1) _ _ (by omega) (by omega) (k_putc_of h3 _) (h4.putc (by omega) _) (by rw [List.length_append]; show xs.length + 1 + _ ≤ 30; omega)
    · rw [if_neg hc, List.nil_append] at h5 ⊢
      have hb' : k_otB κ (nI l) v = false := by
        rw [hb, Bool.and_eq_false_iff]
        rcases Classical.em (β 112 v = 0) with y | y
        · exact .inl (decide_eq_false (fun c => c y))
        · exact .inr (decide_eq_false (fun c => hc ⟨y, c⟩))
      have e : k_otF κ (nI l) v a = a := by unfold k_otF; rw [hb']; rfl
      rw [e]
      exact l_inner hB hl m (v + 1) a xs (by omega) (by omega) h3 h4 h5
theorem l_outer (hV : kV κ = V) (hV2 : aV β = V) (hB : ∀ l, 1 ≤ l → l ≤ 60 → ∀ v, 1 ≤ v → v ≤ V → k_otB κ (nI l) v = (decide (¬ β 112 v = 0) && decide (β 106 v = nI l))) (hl : ∀ v, 1 ≤ v → v ≤ V → (if κ 3 6 &&& kb (nI v) = 0 then nI v else -(nI v)) = a_litOf β v) : ∀ n a xs, n ≤ 60 → kOf κ a → rowL a 73 xs → xs.length + (a_outL β n).length ≤ 30 → rowL (k_otL κ n a) 73 (xs ++ a_outL β n) ∧ kOf κ (k_otL κ n a)
  | 0, a, xs, h0, h1, h2, h3 => by
    unfold a_outL k_otL; rw [List.append_nil]; exact ⟨h2, h1⟩
  | n + 1, a, xs, h0, h1, h2, h3 => by
    unfold a_outL at h3 ⊢
    unfold k_otL
    rw [List.length_append] at h3
    rw [hV2] at h3 ⊢
    rw [hV]
    obtain ⟨r1, r2⟩ := l_inner (V := V) (hB (n + 1) (by omega) (by omega)) hl V 1 a xs (Nat.le_refl _) (by omega) h1 h2 (by omega)
    rw [← List.append_assoc]
    exact l_outer hV hV2 hB hl n _ _ (by omega) r2 r1 (by rw [List.length_append]; omega)
def zPl (β : Nat → Nat → Int32) (l v : Nat) : Bool := decide (¬ β 112 v = 0) && decide (β 106 v = nI l)
def zQl (β : Nat → Nat → Int32) : Nat → Nat → Bool
  | 0, _ => false
  | n + 1, v => zPl β (n + 1) v || zQl β n v
theorem zQl_iff {v : Nat} : ∀ n, zQl β n v = true ↔ ∃ l, 1 ≤ l ∧ l ≤ n ∧ zPl β l v = true
  | 0 => ⟨fun h => (by cases h), fun ⟨l, a, b, _⟩ => absurd b (by omega)⟩
  | n + 1 => by
    unfold zQl
    rw [Bool.or_eq_true, zQl_iff n]
    constructor
    · rintro (a | ⟨l, a, b, c⟩)
      · exact ⟨n + 1, by omega, Nat.le_refl _, a⟩
      · exact ⟨l, a, by omega, c⟩
    · rintro ⟨l, a, b, c⟩
      rcases Nat.eq_or_lt_of_le b with e | e
      · subst e; exact .inl c
      · exact .inr ⟨l, a, by omega, c⟩
theorem zcnt_or {p q : Nat → Bool} (h : ∀ v, p v = true → q v = false) : ∀ m k, zcnt (fun v => p v || q v) k m = zcnt p k m + zcnt q k m
  | 0, k => rfl
  | m + 1, k => by
    unfold zcnt
    rw [zcnt_or h m (k + 1)]
    cases e : p k with
    | true => rw [h k e]; simp only [Bool.true_or, cond_true, cond_false]; omega
    | false => simp only [Bool.false_or, cond_false]; omega
theorem l_inLen (l : Nat) : ∀ m v, (a_inL β l m v).length = zcnt (zPl β l) v m
  | 0, v => rfl
  | m + 1, v => by
    unfold a_inL zcnt
    rw [List.length_append, l_inLen l m (v + 1)]
    unfold zPl
    by_cases h1 : β 112 v = 0
    · simp [h1]
    · by_cases h2 : β 106 v = nI l <;> simp [h1, h2]
theorem l_outLen : ∀ n, n ≤ 60 → (a_outL β n).length = zcnt (zQl β n) 1 (aV β)
  | 0, _ => (zcnt_zero.mpr (fun j _ _ => rfl)).symm
  | n + 1, hn => by
    unfold a_outL
    rw [List.length_append, l_inLen, l_outLen n (by omega)]
    refine (zcnt_or (fun v hv => ?_) _ _).symm
    cases e : zQl β n v with
    | false => rfl
    | true =>
      obtain ⟨l, a, b, c⟩ := (zQl_iff n).mp e
      unfold zPl at hv c
      rw [Bool.and_eq_true, decide_eq_true_eq, decide_eq_true_eq] at hv c
      have := (nI_eq (by omega) (by omega)).mp (hv.2.symm.trans c.2)
      omega
theorem l_len {w : Nat} (hw : w ≤ 60) (h : ∀ v, 1 ≤ v → v ≤ aV β → ¬ β 112 v = 0 → ∃ l, 1 ≤ l ∧ l ≤ w ∧ β 106 v = nI l) : (a_outL β w).length = a_cnt β := by
  rw [l_outLen w hw]
  unfold a_cnt
  refine zcnt_congr (fun v a b => ?_)
  rw [Bool.eq_iff_iff, zQl_iff, decide_eq_true_eq]
  unfold zPl
  constructor
  · rintro ⟨l, -, -, c⟩
    rw [Bool.and_eq_true, decide_eq_true_eq] at c; exact c.1
  · intro c
    obtain ⟨l, x, y, z⟩ := h v a (by omega) c
    exact ⟨l, x, y, by rw [decide_eq_true c, decide_eq_true z]; rfl⟩
theorem a_litOf_zv {v : Nat} (h : v ≤ 30) : zv (a_litOf β v) = v := by
  unfold a_litOf
  split
  · exact zvm h
  · exact zvn h
theorem l_inMem {l : Nat} {e : Int32} : ∀ m v, e ∈ a_inL β l m v → ∃ u, v ≤ u ∧ u < v + m ∧ ¬ β 112 u = 0 ∧ β 106 u = nI l ∧ e = a_litOf β u
  | 0, v, h => by cases h
  | m + 1, v, h => by
    unfold a_inL at h
    rcases List.mem_append.mp h with a | a
    · split at a
      · next hc => exact ⟨v, Nat.le_refl _, by omega, hc.1, hc.2, List.mem_singleton.mp a⟩
      · cases a
    · obtain ⟨u, b, c, d⟩ := l_inMem m (v + 1) a
      exact ⟨u, by omega, by omega, d⟩
theorem l_outMem {e : Int32} : ∀ n, e ∈ a_outL β n → ∃ l, 1 ≤ l ∧ l ≤ n ∧ ∃ u, 1 ≤ u ∧ u ≤ aV β ∧ ¬ β 112 u = 0 ∧ β 106 u = nI l ∧ e = a_litOf β u
  | 0, h => by cases h
  | n + 1, h => by
    unfold a_outL at h
    rcases List.mem_append.mp h with a | a
    · obtain ⟨u, b, c, d⟩ := l_inMem _ _ a
      exact ⟨n + 1, by omega, Nat.le_refl _, u, b, by omega, d⟩
    · obtain ⟨l, b, c, d⟩ := l_outMem n a
      exact ⟨l, b, by omega, d⟩
/-- no variable twice; the levels fall -/
theorem l_inPw (hV : aV β ≤ 30) {l : Nat} : ∀ m v, v + m ≤ aV β + 1 → (a_inL β l m v).Pairwise (fun a b => ¬ zv a = zv b)
  | 0, v, h => List.Pairwise.nil
  | m + 1, v, h => by
    unfold a_inL
    refine List.pairwise_append.mpr ⟨?_, l_inPw hV m (v + 1) (by omega), fun a ha b hb => ?_⟩
    · split
      · exact List.pairwise_singleton _ _
      · exact List.Pairwise.nil
    · obtain ⟨u, b1, b2, -, -, b5⟩ := l_inMem _ _ hb
      split at ha
      · rw [List.mem_singleton.mp ha, b5, a_litOf_zv (by omega), a_litOf_zv (by omega)]; omega
      · cases ha
theorem l_outPw (hV : aV β ≤ 30) : ∀ n, n ≤ 60 → (a_outL β n).Pairwise (fun a b => ¬ zv a = zv b ∧ β 106 (zv b) ≤ β 106 (zv a))
  | 0, _ => List.Pairwise.nil
  | n + 1, hn => by
    unfold a_outL
    refine List.pairwise_append.mpr ⟨?_, l_outPw hV n (by omega), fun a ha b hb => ?_⟩
    · refine List.Pairwise.imp_of_mem ?_ (l_inPw hV _ _ (by omega))
      intro a b ha hb hne
      obtain ⟨u, a1, a2, -, a4, a5⟩ := l_inMem _ _ ha
      obtain ⟨u', b1, b2, -, b4, b5⟩ := l_inMem _ _ hb
      refine ⟨hne, ?_⟩
      rw [a5, b5, a_litOf_zv (by omega), a_litOf_zv (by omega), a4, b4]
      exact Int32.le_refl _
    · obtain ⟨u, a1, a2, -, a4, a5⟩ := l_inMem _ _ ha
      obtain ⟨l, l1, l2, u', b1, b2, -, b4, b5⟩ := l_outMem _ hb
      rw [a5, b5, a_litOf_zv (by omega), a_litOf_zv (by omega), a4, b4]
      refine ⟨fun e => ?_, nI_le (by omega) (by omega)⟩
      subst e
      have := (nI_eq (by omega) (by omega)).mp (a4.symm.trans b4)
      omega
end LI
