/-! the end of a statement; words -/
section WO
variable {b κ κ' α α' : Nat → Nat → Int32} {m j : Nat}
theorem rdR.endS (h : rdR b κ α m j) (h0 : α 100 25 = 0) : (κ 5 7 = -2 ∧ j < m ∧ a_endS α 100 25 = 0 ∧ rdR b (k_adv κ) (a_endS α) m (j + 1)) ∨ (¬ κ 5 7 = -2 ∧ a_endS α 100 25 = nI 1 + nI 8 * nI (tkP b j) ∧ ¬ a_endS α 100 25 = 0) := by
  have C := h.chr
  by_cases e : κ 5 7 = -2
  · left
    have hj := h.lt (by rw [e]; decide)
    obtain ⟨lt, tk⟩ := h.1.tok.1 hj
    have b59 : b 77 (tkP b j) = nI 59 := (tok_kind lt).2.1.mp (tk ▸ e)
    have eo : k_eot b (tkP b j) = tkP b j + 1 := by
      unfold k_eot
      rw [if_neg (by unfold k_dg; rw [b59]; decide), if_neg (by unfold k_lt; rw [b59]; decide)]
    have ee : a_endS α = zup α 100 24 (nI (k_eot b (tkP b j))) := by unfold a_endS; rw [if_pos h0, if_pos (C.2.1.mpr e), eo, h.2.2.2]
    refine ⟨e, hj, ?_, by rw [ee]; exact h.adv hj⟩
    rw [ee, zup_i (by decide)]; exact h0
  · right
    have ee : a_endS α 100 25 = nI 1 + nI 8 * nI (tkP b j) := by
      unfold a_endS a_fails
      rw [if_pos h0, if_neg (fun x => e (C.2.1.mp x)), zup_i (by decide), a_here_at (.inr (by decide)), if_pos h0, zup_same, h.2.2.2]
    exact ⟨e, ee, by rw [ee]; exact (flt_tab _ h.pl).1⟩
theorem endS_st (h : ¬ α 100 25 = 0) : a_endS α 100 25 = α 100 25 := by unfold a_endS; rw [if_neg h, zup_i (by decide)]
/-- the value of a word's first letters -/
def wF (d : Nat → Nat) : Nat → Nat
  | 0 => 0
  | k + 1 => 27 * wF d k + d k
def wG (d : Nat → Nat) (k : Nat) : Nat := if k ≤ 7 then wF d k else 0
theorem let_is {i : Nat} (h : a_let α i = true) : ∃ d, 1 ≤ d ∧ d ≤ 26 ∧ α 121 i = nI (96 + d) := by
  unfold a_let at h
  rw [Bool.and_eq_true, decide_eq_true_eq, decide_eq_true_eq] at h
  obtain ⟨j, hj, e⟩ := nI_of (x := α 121 i) (Int32.not_lt.mpr (Int32.le_trans (by decide) h.1))
  rw [e] at h ⊢
  have a := (nI_leI (by decide) hj).mp h.1
  have b := (nI_leI hj (by decide)).mp h.2
  exact ⟨j - 96, by omega, by omega, congrArg nI (by omega)⟩
theorem let_tab : ∀ d < 27, (nI (96 + d)).toInt64 - 96 = Int64.ofNat d := by decide +kernel
theorem wo_step (x : Nat) {d : Nat} (h : d < 27) : 27 * Int64.ofNat x + (nI (96 + d)).toInt64 - 96 = Int64.ofNat (27 * x + d) := by
  rw [Int64.ofNat_add, Int64.ofNat_mul, Int64.sub_eq_add_neg, Int64.add_assoc, ← Int64.sub_eq_add_neg, let_tab d h]; rfl
theorem wo_is {p : Nat} {d : Nat → Nat} (hd : ∀ k, a_let α (p + k) = true → α 121 (p + k) = nI (96 + d k) ∧ d k < 27) : ∀ m k, a_woL α p m (p + k) (Int64.ofNat (wG d k)) = Int64.ofNat (wG d (zspan (a_let α) m (p + k) - p))
  | 0, k => by show Int64.ofNat (wG d k) = Int64.ofNat (wG d (p + k - p)); rw [Nat.add_sub_cancel_left]
  | m + 1, k => by
    show (bif a_let α (p + k) then a_woL α p m (p + k + 1) (if p + k - p < 7 then 27 * Int64.ofNat (wG d k) + (α 121 (p + k)).toInt64 - 96 else 0) else Int64.ofNat (wG d k)) = Int64.ofNat (wG d ((bif a_let α (p + k) then zspan (a_let α) m (p + k + 1) else p + k) - p))
    cases e : a_let α (p + k) with
    | false => show Int64.ofNat (wG d k) = Int64.ofNat (wG d (p + k - p)); rw [Nat.add_sub_cancel_left]
    | true =>
      obtain ⟨d1, d2⟩ := hd k e
      show a_woL α p m (p + k + 1) (if p + k - p < 7 then 27 * Int64.ofNat (wG d k) + (α 121 (p + k)).toInt64 - 96 else 0) = Int64.ofNat (wG d (zspan (a_let α) m (p + k + 1) - p))
      have ih := wo_is hd m (k + 1)
      rw [← Nat.add_assoc] at ih
      rw [← ih]
      refine congrArg _ ?_
      rw [Nat.add_sub_cancel_left]
      by_cases h : k < 7
      · rw [if_pos h, d1, wo_step _ d2]
        unfold wG
        rw [if_pos (by omega), if_pos (by omega)]; rfl
      · rw [if_neg h]
        unfold wG
        rw [if_neg (by omega)]; rfl
theorem wF_pos {d : Nat → Nat} (h : ∀ k, 1 ≤ d k) (k : Nat) : 1 ≤ wF d (k + 1) := by
  have := h k
  show 1 ≤ 27 * wF d k + d k
  omega
theorem wF_up {d : Nat → Nat} (h : ∀ k, d k ≤ 26) : ∀ k, wF d k + 1 ≤ 27 ^ k
  | 0 => Nat.le_refl _
  | k + 1 => by
    have := wF_up h k
    have h1 := h k
    show 27 * wF d k + d k + 1 ≤ 27 ^ k * 27
    omega
/-- the last letter -/
theorem wF_last {d : Nat → Nat} (h1 : ∀ k, 1 ≤ d k) (h2 : ∀ k, d k ≤ 26) {n W : Nat} (hW : 0 < W) (e : wF d n = W) : ∃ k, n = k + 1 ∧ d k = W % 27 ∧ wF d k = W / 27 := by
  cases n with
  | zero => have : (0 : Nat) = W := e; omega
  | succ k =>
    have e : 27 * wF d k + d k = W := e
    have a := h1 k
    have c := h2 k
    exact ⟨k, rfl, by omega, by omega⟩
theorem wF_zero {d : Nat → Nat} (h1 : ∀ k, 1 ≤ d k) {n : Nat} (e : wF d n = 0) : n = 0 := by
  cases n with
  | zero => rfl
  | succ k => have := wF_pos h1 k; omega
theorem w_grow {d : Nat → Nat} (h1 : ∀ k, 1 ≤ d k) (h2 : ∀ k, d k ≤ 26) {n : Nat} : wF d n = 151331 ↔ n = 4 ∧ d 0 = 7 ∧ d 1 = 18 ∧ d 2 = 15 ∧ d 3 = 23 := by
  constructor
  · intro e
    obtain ⟨k1, rfl, a1, e⟩ := wF_last h1 h2 (by decide) e
    obtain ⟨k2, rfl, a2, e⟩ := wF_last h1 h2 (by decide) e
    obtain ⟨k3, rfl, a3, e⟩ := wF_last h1 h2 (by decide) e
    obtain ⟨k4, rfl, a4, e⟩ := wF_last h1 h2 (by decide) e
    have := wF_zero h1 e
    subst this
    exact ⟨rfl, a4, a3, a2, a1⟩
  · rintro ⟨rfl, a, c, e, f⟩
    show 27 * (27 * (27 * (27 * 0 + d 0) + d 1) + d 2) + d 3 = 151331
    omega
theorem w_assume {d : Nat → Nat} (h1 : ∀ k, 1 ≤ d k) (h2 : ∀ k, d k ≤ 26) {n : Nat} : wF d n = 24835928 ↔ n = 6 ∧ d 0 = 1 ∧ d 1 = 19 ∧ d 2 = 19 ∧ d 3 = 21 ∧ d 4 = 13 ∧ d 5 = 5 := by
  constructor
  · intro e
    obtain ⟨k1, rfl, a1, e⟩ := wF_last h1 h2 (by decide) e
    obtain ⟨k2, rfl, a2, e⟩ := wF_last h1 h2 (by decide) e
    obtain ⟨k3, rfl, a3, e⟩ := wF_last h1 h2 (by decide) e
    obtain ⟨k4, rfl, a4, e⟩ := wF_last h1 h2 (by decide) e
    obtain ⟨k5, rfl, a5, e⟩ := wF_last h1 h2 (by decide) e
    obtain ⟨k6, rfl, a6, e⟩ := wF_last h1 h2 (by decide) e
    have := wF_zero h1 e
    subst this
    exact ⟨rfl, a6, a5, a4, a3, a2, a1⟩
  · rintro ⟨rfl, a, c, e, f, g, i⟩
    show 27 * (27 * (27 * (27 * (27 * (27 * 0 + d 0) + d 1) + d 2) + d 3) + d 4) + d 5 = 24835928
    omega
theorem w_phase {d : Nat → Nat} (h1 : ∀ k, 1 ≤ d k) (h2 : ∀ k, d k ≤ 26) {n : Nat} : wF d n = 8661767 ↔ n = 5 ∧ d 0 = 16 ∧ d 1 = 8 ∧ d 2 = 1 ∧ d 3 = 19 ∧ d 4 = 5 := by
  constructor
  · intro e
    obtain ⟨k1, rfl, a1, e⟩ := wF_last h1 h2 (by decide) e
    obtain ⟨k2, rfl, a2, e⟩ := wF_last h1 h2 (by decide) e
    obtain ⟨k3, rfl, a3, e⟩ := wF_last h1 h2 (by decide) e
    obtain ⟨k4, rfl, a4, e⟩ := wF_last h1 h2 (by decide) e
    obtain ⟨k5, rfl, a5, e⟩ := wF_last h1 h2 (by decide) e
    have := wF_zero h1 e
    subst this
    exact ⟨rfl, a5, a4, a3, a2, a1⟩
  · rintro ⟨rfl, a, c, e, f, g⟩
    show 27 * (27 * (27 * (27 * (27 * 0 + d 0) + d 1) + d 2) + d 3) + d 4 = 8661767
    omega
theorem wG_is {d : Nat → Nat} (h2 : ∀ k, d k ≤ 26) {n W : Nat} (hW : 0 < W) (hW2 : W < 2 ^ 63) : Int64.ofNat (wG d n) = Int64.ofNat W ↔ n ≤ 7 ∧ wF d n = W := by
  have lt : wG d n < 2 ^ 63 := by
    unfold wG
    split
    · rename_i x
      have := wF_up h2 n
      have h27 : 27 ^ n ≤ 27 ^ 7 := Nat.pow_le_pow_right (by decide) x
      have : (27 : Nat) ^ 7 < 2 ^ 63 := by decide
      omega
    · decide
  constructor
  · intro e
    have e := congrArg Int64.toInt e
    rw [Int64.toInt_ofNat_of_lt lt, Int64.toInt_ofNat_of_lt hW2] at e
    have e : wG d n = W := by omega
    unfold wG at e
    split at e
    · rename_i x; exact ⟨x, e⟩
    · omega
  · rintro ⟨x, e⟩
    unfold wG
    rw [if_pos x, e]
end WO
