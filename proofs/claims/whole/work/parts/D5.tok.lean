/-! the tokens of a text -/
section TK
variable {κ : Nat → Nat → Int32}
theorem zspan_rng (P : Nat → Bool) : ∀ m p, p ≤ zspan P m p ∧ zspan P m p ≤ p + m ∧ (∀ i, p ≤ i → i < zspan P m p → P i = true) ∧ (zspan P m p < p + m → P (zspan P m p) = false)
  | 0, p => ⟨Nat.le_refl _, Nat.le_refl _, fun i a b => absurd (show i < p from b) (by omega), fun h => absurd (show p < p + 0 from h) (by omega)⟩
  | m + 1, p => by
    unfold zspan
    cases e : P p with
    | true =>
      obtain ⟨a, b, c, d⟩ := zspan_rng P m (p + 1)
      show p ≤ zspan P m (p + 1) ∧ zspan P m (p + 1) ≤ p + (m + 1) ∧ (∀ i, p ≤ i → i < zspan P m (p + 1) → P i = true) ∧ (zspan P m (p + 1) < p + (m + 1) → P (zspan P m (p + 1)) = false)
      refine ⟨by omega, by omega, fun i x y => ?_, fun x => d (by omega)⟩
      by_cases ei : i = p
      · subst ei; exact e
      · exact c i (by omega) y
    | false =>
      show p ≤ p ∧ p ≤ p + (m + 1) ∧ (∀ i, p ≤ i → i < p → P i = true) ∧ (p < p + (m + 1) → P p = false)
      exact ⟨Nat.le_refl _, by omega, fun i x y => by omega, fun _ => e⟩
/-- where the tokens begin; the last one at the end -/
def tkP (κ : Nat → Nat → Int32) : Nat → Nat
  | 0 => zspan (k_bl κ) (kLen κ - 0) 0
  | j + 1 => if tkP κ j < kLen κ then zspan (k_bl κ) (kLen κ - k_eot κ (tkP κ j)) (k_eot κ (tkP κ j)) else tkP κ j
theorem eot_rng {f : Nat} (h : f < kLen κ) : f < k_eot κ f ∧ k_eot κ f ≤ kLen κ := by
  unfold k_eot
  split
  · have := zspan_rng (k_dg κ) (kLen κ - (f + 1)) (f + 1); omega
  · split
    · have := zspan_rng (k_lt κ) (kLen κ - (f + 1)) (f + 1); omega
    · omega
theorem bl_no {f : Nat} (h : k_bl κ f = true) : k_dg κ f = false ∧ k_lt κ f = false := by
  unfold k_bl at h
  unfold k_dg k_lt
  rw [Bool.or_eq_true, decide_eq_true_eq, decide_eq_true_eq] at h
  rcases h with h | h <;> rw [h] <;> decide
theorem bl_eot {f : Nat} (h : k_bl κ f = true) : k_eot κ f = f + 1 := by
  obtain ⟨a, b⟩ := bl_no h
  unfold k_eot
  rw [if_neg (by rw [a]; decide), if_neg (by rw [b]; decide)]
/-- a digit's value -/
theorem dg_is {i : Nat} (h : k_dg κ i = true) : ∃ d, d ≤ 9 ∧ κ 77 i = nI (48 + d) := by
  unfold k_dg at h
  rw [Bool.and_eq_true, decide_eq_true_eq, decide_eq_true_eq] at h
  obtain ⟨j, hj, e⟩ := nI_of (x := κ 77 i) (Int32.not_lt.mpr (Int32.le_trans (by decide) h.1))
  rw [e] at h ⊢
  have a := (nI_leI (by decide) hj).mp h.1
  have b := (nI_leI hj (by decide)).mp h.2
  exact ⟨j - 48, by omega, congrArg nI (by omega)⟩
theorem tok_tab : ∀ d < 10, ∀ e < 10, (nI (48 + d) - nI 48).toInt8.toInt32 = nI d ∧ nI (48 + d) - nI 48 = nI d ∧ (nI 10 * (nI (48 + d) - nI 48) + nI (48 + e) - nI 48).toInt8.toInt32 = nI (10 * d + e) ∧ nI 10 * (nI (48 + d) - nI 48) + nI (48 + e) - nI 48 = nI (10 * d + e) := by decide +kernel
theorem tok_8 {f : Nat} (h : f < kLen κ) : (k_tokOf κ f (k_eot κ f)).toInt8.toInt32 = k_tokOf κ f (k_eot κ f) := by
  unfold k_tokOf
  by_cases e : k_dg κ f = true
  · rw [if_pos e]
    obtain ⟨d, d1, d2⟩ := dg_is e
    by_cases e1 : k_eot κ f - f = 1
    · rw [if_pos e1, d2, (tok_tab d (by omega) 0 (by decide)).1, (tok_tab d (by omega) 0 (by decide)).2.1]
    · rw [if_neg e1]
      by_cases e2 : k_eot κ f - f = 2
      · have eq : k_eot κ f = zspan (k_dg κ) (kLen κ - (f + 1)) (f + 1) := by unfold k_eot; rw [if_pos e]
        have r := (zspan_rng (k_dg κ) (kLen κ - (f + 1)) (f + 1)).2.2.1 (f + 1) (Nat.le_refl _) (by rw [← eq]; omega)
        obtain ⟨d', d3, d4⟩ := dg_is r
        rw [if_pos e2, d2, d4, (tok_tab d (by omega) d' (by omega)).2.2.1, (tok_tab d (by omega) d' (by omega)).2.2.2]
      · rw [if_neg e2]; decide
  · rw [if_neg e]
    split
    · split
      · decide
      · split
        · decide
        · split <;> decide
    · split
      · decide
      · split <;> decide
theorem pl_16 : ∀ p < 401, (nI p).toInt16.toInt32 = nI p := by decide +kernel
theorem sr_loop (hL : kLen κ ≤ 400) : ∀ n f (κ' : Nat → Nat → Int32) j, κ' 77 = κ 77 → κ' 5 5 = κ 5 5 → kLen κ - f ≤ n → f ≤ kLen κ → zspan (k_bl κ) (kLen κ - f) f = tkP κ j → κ' 5 3 = nI j → j ≤ f → (∀ i, i < j → tkP κ i < kLen κ ∧ κ' 78 i = k_tokOf κ (tkP κ i) (k_eot κ (tkP κ i)) ∧ κ' 79 i = nI (tkP κ i)) →
    ∃ m, m ≤ kLen κ ∧ tkP κ m = kLen κ ∧ k_srL n f κ' 5 3 = nI m ∧ (∀ i, i < m → tkP κ i < kLen κ ∧ k_srL n f κ' 78 i = k_tokOf κ (tkP κ i) (k_eot κ (tkP κ i)) ∧ k_srL n f κ' 79 i = nI (tkP κ i)) ∧ ∀ p i, ¬ (p = 78 ∨ p = 79 ∨ (p = 5 ∧ i = 3)) → k_srL n f κ' p i = κ' p i
  | 0, f, κ', j, e7, e5, hn, hf, hz, h3, hj, hi => by
    have : f = kLen κ := by omega
    subst this
    rw [Nat.sub_self] at hz
    exact ⟨j, hj, hz.symm, h3, hi, fun _ _ _ => rfl⟩
  | n + 1, f, κ', j, e7, e5, hn, hf, hz, h3, hj, hi => by
    have eL : kLen κ' = kLen κ := by unfold kLen; rw [e5]
    have eB : k_bl κ' = k_bl κ := by funext i; unfold k_bl; rw [e7]
    have eD : k_dg κ' = k_dg κ := by funext i; unfold k_dg; rw [e7]
    have eT : k_lt κ' = k_lt κ := by funext i; unfold k_lt; rw [e7]
    have eE : ∀ i, k_eot κ' i = k_eot κ i := fun i => by unfold k_eot; rw [eD, eT, eL]
    unfold k_srL
    rw [eL, eE]
    by_cases lt : f < kLen κ
    · rw [if_pos lt]
      unfold k_srF
      rw [eB]
      cases b : k_bl κ f with
      | true =>
        rw [if_pos rfl, bl_eot b]
        refine sr_loop hL n (f + 1) κ' j e7 e5 (by omega) (by omega) ?_ h3 (by omega) hi
        rw [← hz, show kLen κ - f = (kLen κ - (f + 1)) + 1 from by omega]
        show _ = (bif k_bl κ f then zspan (k_bl κ) (kLen κ - (f + 1)) (f + 1) else f)
        rw [b]; rfl
      | false =>
        rw [if_neg (by decide)]
        have ef : tkP κ j = f := by
          rw [← hz, show kLen κ - f = (kLen κ - (f + 1)) + 1 from by omega]
          show (bif k_bl κ f then zspan (k_bl κ) (kLen κ - (f + 1)) (f + 1) else f) = f
          rw [b]; rfl
        obtain ⟨r1, r2⟩ := eot_rng lt
        have eW : ∀ k a b, k_isW κ' k a b = k_isW κ k a b := fun k a b => by unfold k_isW k_wB; rw [e7]
        have eTk : k_tokOf κ' f (k_eot κ f) = k_tokOf κ f (k_eot κ f) := by unfold k_tokOf; rw [eD, eT, e7, eW, eW, eW]
        rw [eE, eTk]
        have k3 : (κ' 5 3).toNatClampNeg = j := by rw [h3]; exact nI_clamp (by omega)
        have a8 : ∀ i, k_kt κ' (k_tokOf κ f (k_eot κ f)) (nI f) 78 i = if i = j then k_tokOf κ f (k_eot κ f) else κ' 78 i := fun i => by
          unfold k_kt
          rw [k3, zup_p (by decide), zup_p (by decide), tok_8 lt]
          by_cases e : i = j
          · subst e; rw [zup_same, if_pos rfl]
          · rw [zup_i e, if_neg e]
        have a9 : ∀ i, k_kt κ' (k_tokOf κ f (k_eot κ f)) (nI f) 79 i = if i = j then nI f else κ' 79 i := fun i => by
          unfold k_kt
          rw [k3, zup_p (by decide), pl_16 f (by omega)]
          by_cases e : i = j
          · subst e; rw [zup_same, if_pos rfl]
          · rw [zup_i e, if_neg e, zup_p (by decide)]
        have fr : ∀ p i, ¬ (p = 78 ∨ p = 79 ∨ (p = 5 ∧ i = 3)) → k_kt κ' (k_tokOf κ f (k_eot κ f)) (nI f) p i = κ' p i := fun p i x => by unfold k_kt; exact ((if_neg (by omega)).trans (if_neg (by omega))).trans (if_neg (by omega))
        obtain ⟨m, m1, m2, m3, m4, m5⟩ := sr_loop hL n (k_eot κ f) (k_kt κ' (k_tokOf κ f (k_eot κ f)) (nI f)) (j + 1) ((funext fun i => fr 77 i (by omega)).trans e7) ((fr 5 5 (by omega)).trans e5) (by omega) r2 (by
          show _ = (if tkP κ j < kLen κ then zspan (k_bl κ) (kLen κ - k_eot κ (tkP κ j)) (k_eot κ (tkP κ j)) else tkP κ j)
          rw [ef, if_pos lt]) (by unfold k_kt; rw [zup_same, h3, nI_add]) (by omega) (fun i hi' => by
          rw [a8, a9]
          by_cases e : i = j
          · subst e; rw [if_pos rfl, if_pos rfl, ef]; exact ⟨lt, rfl, rfl⟩
          · rw [if_neg e, if_neg e]; exact hi i (by omega))
        exact ⟨m, m1, m2, m3, m4, fun p i x => (m5 p i x).trans (fr p i x)⟩
    · rw [if_neg lt]
      have : f = kLen κ := by omega
      subst this
      rw [Nat.sub_self] at hz
      exact ⟨j, hj, hz.symm, h3, hi, fun _ _ _ => rfl⟩
end TK
