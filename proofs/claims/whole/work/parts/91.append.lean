/-! a clause more, in both stores -/
theorem mR.zero {f : Nat → Int32} : mR (nI 0) (nI 0) 0 f := ⟨kz_n0, kz_n0, fun v _ _ => by
  rw [kt_n0]; exact ⟨⟨fun x => absurd x (by decide), fun ⟨k, a, _⟩ => absurd a (by omega)⟩, ⟨fun x => absurd x (by decide), fun ⟨k, a, _⟩ => absurd a (by omega)⟩⟩⟩
theorem mR.snoc {m1 m2 : Int32} {n : Nat} {f : Nat → Int32} (h : mR m1 m2 n f) (hl : lok 30 (f n)) : (0 < f n → mR (m1 ||| kb (f n)) m2 (n + 1) f) ∧ (¬ 0 < f n → mR m1 (m2 ||| kb (f n)) (n + 1) f) := by
  obtain ⟨u, h1, h2, e, d⟩ := lok_two hl
  have N := zv_tab (v := u) (by omega) h1
  have ekb : kb (f n) = kb (nI u) := by have := kb_lok hl (Nat.le_refl _); rwa [e] at this
  have S : ∀ x, (∃ k, k < n + 1 ∧ f k = x) ↔ (f n = x ∨ ∃ k, k < n ∧ f k = x) := fun x => by
    constructor
    · rintro ⟨k, a, b⟩
      by_cases ek : k = n
      · subst ek; exact .inl b
      · exact .inr ⟨k, by omega, b⟩
    · rintro (a | ⟨k, a, b⟩)
      · exact ⟨n, by omega, a⟩
      · exact ⟨k, by omega, b⟩
  refine ⟨fun hp => ?_, fun hp => ?_⟩
  · have hn : f n = nI u := by
      rcases d with d | d
      · exact d
      · rw [d] at hp; exact absurd hp N.2.1
    refine ⟨kz_or h.1 (by rw [ekb]; exact kz_kb h1 h2), h.2.1, fun v a b => ?_⟩
    rw [kt_or, ekb, kt_kb h1 h2 a b, S, S, hn, Bool.or_eq_true, decide_eq_true_eq, (h.2.2 v a b).1, (h.2.2 v a b).2]
    refine ⟨⟨fun x => x.elim .inr (fun x => .inl (by rw [x])), fun x => x.elim (fun x => .inr ?_) .inl⟩, ⟨.inr, fun x => x.elim (fun x => ?_) id⟩⟩
    · have := congrArg zv x; rwa [zvn h2, zvn b] at this
    · exfalso
      have := congrArg zv x; rw [zvn h2, zvm b] at this
      subst this; exact N.2.2.2.2.1 x
  · have hn : f n = -(nI u) := by
      rcases d with d | d
      · rw [d] at hp; exact absurd N.1 hp
      · exact d
    refine ⟨h.1, kz_or h.2.1 (by rw [ekb]; exact kz_kb h1 h2), fun v a b => ?_⟩
    rw [kt_or, ekb, kt_kb h1 h2 a b, S, S, hn, Bool.or_eq_true, decide_eq_true_eq, (h.2.2 v a b).1, (h.2.2 v a b).2]
    refine ⟨⟨.inr, fun x => x.elim (fun x => ?_) id⟩, ⟨fun x => x.elim .inr (fun x => .inl (by rw [x])), fun x => x.elim (fun x => .inr ?_) .inl⟩⟩
    · exfalso
      have := congrArg zv x; rw [zvm h2, zvn b] at this
      subst this; exact N.2.2.2.2.1 x.symm
    · have := congrArg zv x; rwa [zvm h2, zvm b] at this
section AP
variable {κ : Nat → Nat → Int32} {p n f : Nat} {g : Nat → Int32}
theorem k_ap_loop (hp : 16 ≤ p) (a0 : Nat → Nat → Int32) : ∀ m, (∀ i, i < m → a0 (p + 1) i = g i) → (∀ i, i < m → lok 30 (g i)) → a0 12 n = nI 0 → a0 13 n = nI 0 →
    let a := zit (k_apF p n f) 0 m a0
    mR (a 12 n) (a 13 n) m g ∧ (∀ k, k < m → a 16 (f + k) = g k) ∧ (∀ q j, ¬ (q = 12 ∧ j = n) → ¬ (q = 13 ∧ j = n) → ¬ (q = 16 ∧ f ≤ j ∧ j < f + m) → a q j = a0 q j)
  | 0, _, _, e1, e2 => by
    refine ⟨?_, fun k hk => by omega, fun q j _ _ _ => rfl⟩
    show mR (a0 12 n) (a0 13 n) 0 g
    rw [e1, e2]; exact mR.zero
  | m + 1, hg, hl, e1, e2 => by
    have ih := k_ap_loop hp a0 m (fun i hi => hg i (by omega)) (fun i hi => hl i (by omega)) e1 e2
    intro a
    have ea : a = k_apF p n f m (zit (k_apF p n f) 0 m a0) := by
      show zit (k_apF p n f) 0 (m + 1) a0 = _
      rw [zit_succ, Nat.zero_add]
    revert ih
    generalize zit (k_apF p n f) 0 m a0 = b at ea
    intro ih
    have ih : mR (b 12 n) (b 13 n) m g ∧ (∀ k, k < m → b 16 (f + k) = g k) ∧ (∀ q j, ¬ (q = 12 ∧ j = n) → ¬ (q = 13 ∧ j = n) → ¬ (q = 16 ∧ f ≤ j ∧ j < f + m) → b q j = a0 q j) := ih
    obtain ⟨i1, i2, i3⟩ := ih
    have eb : b (p + 1) m = g m := by
      rw [i3 (p + 1) m (by omega) (by omega) (by omega)]; exact hg m (by omega)
    have sn := i1.snoc (hl m (by omega))
    unfold k_apF at ea
    rw [eb] at ea
    by_cases h0 : 0 < g m
    · rw [if_pos h0] at ea
      rw [ea]
      refine ⟨?_, fun k hk => ?_, fun q j c1 c2 c3 => ?_⟩
      · rw [zup_same, zup_p (by decide), zup_p (by decide)]; exact sn.1 h0
      · rw [zup_p (by decide)]
        by_cases ek : k = m
        · subst ek; rw [zup_same]
        · rw [zup_i (by omega)]; exact i2 k (by omega)
      · rw [show zup (zup b 16 (f + m) (g m)) 12 n (b 12 n ||| kb (g m)) q j = zup b 16 (f + m) (g m) q j from if_neg c1]
        rw [show zup b 16 (f + m) (g m) q j = b q j from if_neg (fun c => c3 ⟨c.1, by omega, by omega⟩)]
        exact i3 q j c1 c2 (fun c => c3 ⟨c.1, c.2.1, by omega⟩)
    · rw [if_neg h0] at ea
      rw [ea]
      refine ⟨?_, fun k hk => ?_, fun q j c1 c2 c3 => ?_⟩
      · rw [zup_same, zup_p (by decide), zup_p (by decide)]; exact sn.2 h0
      · rw [zup_p (by decide)]
        by_cases ek : k = m
        · subst ek; rw [zup_same]
        · rw [zup_i (by omega)]; exact i2 k (by omega)
      · rw [show zup (zup b 16 (f + m) (g m)) 13 n (b 13 n ||| kb (g m)) q j = zup b 16 (f + m) (g m) q j from if_neg c2]
        rw [show zup b 16 (f + m) (g m) q j = b q j from if_neg (fun c => c3 ⟨c.1, by omega, by omega⟩)]
        exact i3 q j c1 c2 (fun c => c3 ⟨c.1, c.2.1, by omega⟩)
theorem k_app_is {m : Nat} {bo : Bool} (hp : 16 ≤ p) (hg : ∀ i, i < m → κ (p + 1) i = g i) (hl : ∀ i, i < m → lok 30 (g i)) :
    mR (k_app κ p n m bo 12 n) (k_app κ p n m bo 13 n) m g ∧ (∀ k, k < m → k_app κ p n m bo 16 (kS κ n + k) = g k) ∧ k_app κ p n m bo 14 n = zbo bo ∧ k_app κ p n m bo 11 5 = nI (n + 1) ∧ k_app κ p n m bo 15 (n + 1) = nI (kS κ n + m) ∧ k_app κ p n m bo 11 6 = κ 11 6 + zbo (!bo) ∧
    ∀ q j, ¬ ((q = 12 ∨ q = 13 ∨ q = 14) ∧ j = n) → ¬ (q = 16 ∧ kS κ n ≤ j ∧ j < kS κ n + m) → ¬ (q = 11 ∧ (j = 5 ∨ j = 6)) → ¬ (q = 15 ∧ j = n + 1) → k_app κ p n m bo q j = κ q j := by
  have H := k_ap_loop (n := n) (f := kS κ n) (g := g) hp (zup (zup κ 12 n (nI 0)) 13 n (nI 0)) m (fun i hi => by rw [zup_p (by omega), zup_p (by omega)]; exact hg i hi) hl (by rw [zup_p (by decide), zup_same]) (zup_same _ _ _ _)
  have H : mR (zit (k_apF p n (kS κ n)) 0 m (zup (zup κ 12 n (nI 0)) 13 n (nI 0)) 12 n) (zit (k_apF p n (kS κ n)) 0 m (zup (zup κ 12 n (nI 0)) 13 n (nI 0)) 13 n) m g ∧ (∀ k, k < m → zit (k_apF p n (kS κ n)) 0 m (zup (zup κ 12 n (nI 0)) 13 n (nI 0)) 16 (kS κ n + k) = g k) ∧ (∀ q j, ¬ (q = 12 ∧ j = n) → ¬ (q = 13 ∧ j = n) → ¬ (q = 16 ∧ kS κ n ≤ j ∧ j < kS κ n + m) → zit (k_apF p n (kS κ n)) 0 m (zup (zup κ 12 n (nI 0)) 13 n (nI 0)) q j = zup (zup κ 12 n (nI 0)) 13 n (nI 0) q j) := H
  unfold k_app
  generalize zit (k_apF p n (kS κ n)) 0 m (zup (zup κ 12 n (nI 0)) 13 n (nI 0)) = a at H
  obtain ⟨h1, h2, h3⟩ := H
  have e116 : a 11 6 = κ 11 6 := by rw [h3 11 6 (by omega) (by omega) (by omega), zup_p (by decide), zup_p (by decide)]
  unfold k_apE
  refine ⟨?_, fun k hk => ?_, ?_, ?_, ?_, ?_, fun q j c1 c2 c3 c4 => ?_⟩
  · rw [zup_p (by decide), zup_p (by decide), zup_p (by decide), zup_p (by decide), zup_p (by decide), zup_p (by decide), zup_p (by decide), zup_p (by decide)]; exact h1
  · rw [zup_p (by decide), zup_p (by decide), zup_p (by decide), zup_p (by decide)]; exact h2 k hk
  · rw [zup_p (by decide), zup_p (by decide), zup_p (by decide), zup_same]
  · rw [zup_p (by decide), zup_same]
  · rw [zup_same]
  · rw [zup_p (by decide), zup_i (by decide), zup_same, e116]
  · rw [show zup (zup (zup (zup a 14 n (zbo bo)) 11 6 (a 11 6 + zbo (!bo))) 11 5 (nI (n + 1))) 15 (n + 1) (nI (kS κ n + m)) q j = zup (zup (zup a 14 n (zbo bo)) 11 6 (a 11 6 + zbo (!bo))) 11 5 (nI (n + 1)) q j from if_neg c4]
    rw [show zup (zup (zup a 14 n (zbo bo)) 11 6 (a 11 6 + zbo (!bo))) 11 5 (nI (n + 1)) q j = zup (zup a 14 n (zbo bo)) 11 6 (a 11 6 + zbo (!bo)) q j from if_neg (fun c => c3 ⟨c.1, .inl c.2⟩)]
    rw [show zup (zup a 14 n (zbo bo)) 11 6 (a 11 6 + zbo (!bo)) q j = zup a 14 n (zbo bo) q j from if_neg (fun c => c3 ⟨c.1, .inr c.2⟩)]
    rw [show zup a 14 n (zbo bo) q j = a q j from if_neg (fun c => c1 ⟨.inr (.inr c.1), c.2⟩)]
    rw [h3 q j (fun c => c1 ⟨.inl c.1, c.2⟩) (fun c => c1 ⟨.inr (.inl c.1), c.2⟩) c2]
    rw [show zup (zup κ 12 n (nI 0)) 13 n (nI 0) q j = zup κ 12 n (nI 0) q j from if_neg (fun c => c1 ⟨.inr (.inl c.1), c.2⟩)]
    exact if_neg (fun c => c1 ⟨.inl c.1, c.2⟩)
end AP
