/-! keep and back, as calls -/
theorem ro1 {A A' C K D L L' p q r : Nat} (h1 : A ≤ C + K + L + (p + q) + r) (h2 : A' + q ≤ A + L') : A' ≤ C + (K + D) + L + (p + L') + r := by omega
theorem ro1' {A A' C K D L L' p q r : Nat} (h1 : A ≤ C + K + L + r + (p + q)) (h2 : A' + q ≤ A + L') : A' ≤ C + (K + D) + L + r + (p + L') := by omega
theorem ro2 {A C K L n r : Nat} (h : A ≤ C + K + L + 0 + r) : A + n ≤ C + K + L + (n + 512) + r := by omega
theorem ro2' {A C K L n r : Nat} (h : A ≤ C + K + L + r + 0) : A + n ≤ C + K + L + r + (n + 512) := by omega
theorem ro3 {A C K L n r : Nat} (h : A ≤ C + K + L + 0 + r) : A + n ≤ C + K + L + (n + 2 * 512) + r := by omega
theorem ro3' {A C K L n r : Nat} (h : A ≤ C + K + L + r + 0) : A + n ≤ C + K + L + r + (n + 2 * 512) := by omega
section KQ
variable {E : zEnv} {κ κ' α α' A A' : Nat → Nat → Int32} {τ τ' : (Nat → Nat → Int64) × (Nat → Nat)} {k : Nat}
theorem rmI.k1 {S : Nat} (h : rmI k τ) (h3 : τ.2 3 = 1) (hL : 512 ≤ τ.2 1) : rmI (k + 1) (k_rmTg τ 1 S) := by
  obtain ⟨f1, -, -, -, f5⟩ := rmg_F (τ := τ) (g := 1) (S := S) (by decide)
  obtain ⟨g1, g2⟩ := f5 hL
  obtain ⟨r1, r2, r3⟩ := h
  rw [if_pos h3] at r2 r3
  refine ⟨by rw [f1 0 (by decide) (by decide) (by decide)]; exact r1, ?_, ?_⟩
  · rw [f1 3 (by decide) (by decide) (by decide), if_pos h3, f1 0 (by decide) (by decide) (by decide), f1 4 (by decide) (by decide) (by decide), f1 2 (by decide) (by decide) (by decide), Nat.mul_succ]
    exact ro1 r2 g1
  · rw [f1 3 (by decide) (by decide) (by decide), if_pos h3, f1 0 (by decide) (by decide) (by decide), f1 4 (by decide) (by decide) (by decide), f1 2 (by decide) (by decide) (by decide), Nat.mul_succ]
    exact ro1 r3 g2
theorem rmI.k2 {S : Nat} (h : rmI k τ) (h3 : τ.2 4 = 1) (hL : 512 ≤ τ.2 2) : rmI (k + 1) (k_rmTg τ 2 S) := by
  obtain ⟨f1, -, -, -, f5⟩ := rmg_F (τ := τ) (g := 2) (S := S) (by decide)
  obtain ⟨g1, g2⟩ := f5 hL
  obtain ⟨r1, r2, r3⟩ := h
  rw [if_pos (c := τ.2 4 = 1) h3] at r2 r3
  refine ⟨by rw [f1 0 (by decide) (by decide) (by decide)]; exact r1, ?_, ?_⟩
  · rw [f1 4 (by decide) (by decide) (by decide), if_pos (c := τ.2 4 = 1) h3, f1 0 (by decide) (by decide) (by decide), f1 3 (by decide) (by decide) (by decide), f1 1 (by decide) (by decide) (by decide), Nat.mul_succ]
    exact ro1' r2 g1
  · rw [f1 4 (by decide) (by decide) (by decide), if_pos (c := τ.2 4 = 1) h3, f1 0 (by decide) (by decide) (by decide), f1 3 (by decide) (by decide) (by decide), f1 1 (by decide) (by decide) (by decide), Nat.mul_succ]
    exact ro1' r3 g2
theorem nT1 : (k_nT τ 1).2 1 = 512 ∧ (k_nT τ 1).2 3 = 1 ∧ (k_nT τ 1).2 5 = τ.2 5 + 12 ∧ (k_nT τ 1).2 6 = τ.2 6 + 2190 ∧ (k_nT τ 1).2 0 = τ.2 0 ∧ (k_nT τ 1).2 2 = τ.2 2 ∧ (k_nT τ 1).2 4 = τ.2 4 := ⟨rfl, rfl, rfl, rfl, rfl, rfl, rfl⟩
theorem nT2 : (k_nT τ 2).2 2 = 512 ∧ (k_nT τ 2).2 4 = 1 ∧ (k_nT τ 2).2 5 = τ.2 5 + 12 ∧ (k_nT τ 2).2 6 = τ.2 6 + 2190 ∧ (k_nT τ 2).2 0 = τ.2 0 ∧ (k_nT τ 2).2 1 = τ.2 1 ∧ (k_nT τ 2).2 3 = τ.2 3 := ⟨rfl, rfl, rfl, rfl, rfl, rfl, rfl⟩
theorem rmI.n1 (h : rmI k τ) (h3 : τ.2 3 = 0) : rmI k (k_nT τ 1) := by
  obtain ⟨r1, r2, r3⟩ := h
  obtain ⟨e1, e2, e3, e4, e5, e6, e7⟩ := nT1 (τ := τ)
  rw [if_neg (by rw [h3]; decide)] at r2 r3
  unfold rmI
  rw [e1, e2, e3, e4, e5, e6, e7, if_pos (c := 1 = 1) rfl, if_pos (c := 1 = 1) rfl, Nat.add_mul]
  exact ⟨r1, ro2 r2, ro3 r3⟩
theorem rmI.n2 (h : rmI k τ) (h3 : τ.2 4 = 0) : rmI k (k_nT τ 2) := by
  obtain ⟨r1, r2, r3⟩ := h
  obtain ⟨e1, e2, e3, e4, e5, e6, e7⟩ := nT2 (τ := τ)
  rw [if_neg (c := τ.2 4 = 1) (by rw [h3]; decide)] at r2 r3
  unfold rmI
  rw [e1, e2, e3, e4, e5, e6, e7, if_pos (c := 1 = 1) rfl, if_pos (c := 1 = 1) rfl, Nat.add_mul]
  exact ⟨r1, ro2' r2, ro3' r3⟩
theorem keep_fin {s : Nat} (hs : s ≤ 1) (h : zI k κ α τ) (hnew : stR (kSh κ' (s + 1)) (aSh α' (s + 1)) (tSh τ' (s + 1))) (ek : ∀ x, ¬ (30 + 20 * s ≤ x ∧ x ≤ 41 + 20 * s) → ¬ x = 2 → κ' x = κ x) (e2 : ¬ κ' 2 s = 0) (e2' : κ' 2 (1 - s) = κ 2 (1 - s))
    (ea : ∀ p i, ¬ (p = 100 ∧ i = 0) → ¬ (p = 103 ∧ 13326 * s ≤ i ∧ i < 13326 * s + 13326) → ¬ (p = 104 ∧ i = s) → α' p i = α p i) (e4 : ¬ α' 104 s = 0) (t1 : τ'.2 (s + 3) = 1) (t2 : 512 ≤ τ'.2 (s + 1)) (t3 : ∀ j, ¬ j = s + 1 → ¬ j = s + 3 → ¬ j = 5 → ¬ j = 6 → τ'.2 j = τ.2 j) (rm : rmI (k + 1) τ') (h8 : α' 103 (13326 * s + 2) = α 101 2) : zI (k + 1) κ' α' τ' := by
  obtain ⟨h1, h2, h3, h4, ⟨-, hB⟩, h6⟩ := h
  have st := h1.of (κ' := κ') (α' := α') (τ' := τ') (fun p a b => ek p (by omega) (by omega)) (fun j _ => ea 101 j (by omega) (by omega) (by omega)) (t3 0 (by omega) (by omega) (by omega) (by omega))
  have tx := h2.fr (κ' := κ') (α' := α') (fun p j hp => by rw [ek p (by omega) (by omega)]) (fun p j hp => ea p j (by omega) (by omega) (by omega))
  have e9 : α' 119 0 = nI 0 := (ea 119 0 (by omega) (by omega) (by omega)).trans h6
  have oth : ∀ g, 1 ≤ g → g ≤ 2 → ¬ g = s + 1 → kpR κ α τ g → kpR κ' α' τ' g := fun g g1 g2 gs x => by
    have eg : g - 1 = 1 - s := by omega
    unfold kpR
    rw [eg, e2', ea 104 (1 - s) (by omega) (by omega) (by omega), t3 (g + 2) (by omega) (by omega) (by omega) (by omega), t3 g (by omega) (by omega) (by omega) (by omega)]
    unfold kpR at x
    rw [eg] at x
    refine x.imp id (fun ⟨a, b, c, d, f⟩ => ⟨a, b, c, d, f.of (fun p p1 p2 => ?_) (fun j hj => ?_) (t3 g (by omega) (by omega) (by omega) (by omega))⟩)
    · funext j
      show κ' (p + 20 * g) j = κ (p + 20 * g) j
      rw [ek (p + 20 * g) (by omega) (by omega)]
    · show α' 103 (13326 * (g - 1) + j) = α 103 (13326 * (g - 1) + j)
      refine ea 103 _ (by omega) (fun y => ?_) (by omega)
      have : s = 0 ∧ g = 2 ∨ s = 1 ∧ g = 1 := by omega
      rcases this with ⟨rfl, rfl⟩ | ⟨rfl, rfl⟩ <;> omega
  have own : kpR κ' α' τ' (s + 1) := .inr ⟨e2, e4, t1, t2, hnew⟩
  have hs2 : s = 0 ∨ s = 1 := by omega
  rcases hs2 with rfl | rfl
  · exact ⟨st, tx, own, oth 2 (by decide) (by decide) (by decide) h4, ⟨rm, by rw [ea 101 2 (by omega) (by omega) (by omega)]; exact hB.1, by rw [show α' 103 2 = α 101 2 from h8]; exact hB.1, by rw [ea 103 13328 (by omega) (by omega) (by omega)]; exact hB.2.2⟩, e9⟩
  · exact ⟨st, tx, oth 1 (by decide) (by decide) (by decide) h3, own, ⟨rm, by rw [ea 101 2 (by omega) (by omega) (by omega)]; exact hB.1, by rw [ea 103 2 (by omega) (by omega) (by omega)]; exact hB.2.1, by rw [show α' 103 13328 = α 101 2 from h8]; exact hB.1⟩, e9⟩
theorem a_keep_is {s : Nat} (hs : s ≤ 1) : a_keep α (nI s) = (nI 1, zup (zit (a_keF s) 0 13326 (a0 α)) 104 s (nI 1)) := by
  unfold a_keep
  have hs2 : s = 0 ∨ s = 1 := by omega
  rcases hs2 with rfl | rfl <;> rfl
theorem y_keep (h : zI k κ α τ) (n : Int32) : zCall E zI k κ α τ mX8_keep mX9_keep [.int n] := by
  by_cases e : n < 0 ∨ ¬ n < nI 2
  · have ea : a_keep α n = (nI 0, a0 α) := by
      unfold a_keep
      rw [if_neg]
      intro x
      simp only [Bool.and_eq_true, decide_eq_true_eq] at x
      rcases e with e | e
      · exact absurd x.1 (Int32.not_le.mpr e)
      · exact e (Int32.lt_of_le_of_lt x.2 (by decide))
    refine .mk (fun d => s_keepOut d e) (fun d => t_keep d n) (by decide) (by decide) (by rw [ea]) ?_
    rw [ea]; exact h.a0
  · have n1 : ¬ n < 0 := fun x => e (.inl x)
    have n2 : n < nI 2 := Classical.byContradiction (fun x => e (.inr x))
    obtain ⟨s, hs0, rfl⟩ := nI_of n1
    have hs1 := (nI_ltI hs0 (by decide)).mp n2
    have hs : s ≤ 1 := by omega
    obtain ⟨r1, r2⟩ := ke_row (s := s) 13326 (a0 α)
    have ea := a_keep_is (α := α) hs
    generalize zit (a_keF s) 0 13326 (a0 α) = β at r1 r2 ea
    have fa : ∀ p i, ¬ (p = 100 ∧ i = 0) → ¬ (p = 103 ∧ 13326 * s ≤ i ∧ i < 13326 * s + 13326) → ¬ (p = 104 ∧ i = s) → zup β 104 s (nI 1) p i = α p i := fun p i x y z => (if_neg z).trans ((r2 p i y).trans (a0_p x))
    have ns : ∀ j, j < 13326 → aSh (zup β 104 s (nI 1)) (s + 1) 101 j = α 101 j := fun j hj => by
      show zup β 104 s (nI 1) 103 (13326 * (s + 1 - 1) + j) = _
      rw [Nat.add_sub_cancel, zup_p (by decide), r1 j hj, a0_p (by omega)]
    have ns2 : zup β 104 s (nI 1) 103 (13326 * s + 2) = α 101 2 := by rw [zup_p (by decide), r1 2 (by decide), a0_p (by omega)]
    have st0 : stR (kSh κ 0) α (tSh τ 0) := h.1.of (fun _ _ _ => rfl) (fun _ _ => rfl) rfl
    have n104 : ¬ zup β 104 s (nI 1) 104 s = 0 := by rw [zup_same]; decide
    have hs2 : s = 0 ∨ s = 1 := by omega
    rcases hs2 with rfl | rfl
    · rcases h.2.2.1 with ⟨k0, -, k2⟩ | ⟨k0, -, k2, k3, k4⟩
      · -- a new one
        have k2 : τ.2 3 = 0 := k2
        have st1 : stR (kSh (k_nK κ 1) 0) α (tSh (k_nT τ 1) 0) := h.1.of (fun p a b => funext fun j => by
          show (if 10 + 20 * 1 ≤ p + 20 * 0 ∧ _ then _ else if p + 20 * 0 = 2 ∧ j + 1 = 1 then 1 else κ (p + 20 * 0) j) = κ p j
          rw [if_neg (by omega), if_neg (by omega)]; rfl) (fun _ _ => rfl) rfl
        obtain ⟨N, S, t, u, c, c1, c2, c3, c4, c5, c6, c7, c8, c9, c10⟩ := st1.cp
        have c' : kCp κ τ 0 N S t u := by
          unfold kCp at c ⊢
          have e0 : ∀ p, 10 ≤ p → p ≤ 21 → k_nK κ 1 (p + 20 * 0) = κ (p + 20 * 0) := fun p a b => funext fun j => by
            show (if 10 + 20 * 1 ≤ p + 20 * 0 ∧ _ then _ else if p + 20 * 0 = 2 ∧ j + 1 = 1 then 1 else κ (p + 20 * 0) j) = _
            rw [if_neg (by omega), if_neg (by omega)]
          rw [e0 11 (by decide) (by decide), e0 15 (by decide) (by decide), e0 14 (by decide) (by decide), e0 17 (by decide) (by decide), e0 19 (by decide) (by decide), e0 10 (by decide) (by decide)] at c
          exact c
        obtain ⟨q1, q2⟩ := st1.copied (g := 1) (A' := aSh (zup β 104 0 (nI 1)) 1) (by decide) (by decide) (by decide) c1 c2 c3 c4 c5 c6 c7 c8 c9 c10 ns c.2.1.2.1 (by rw [nT1.1]; decide)
        obtain ⟨f1, f2, -⟩ := rmg_F (τ := k_nT τ 1) (g := 1) (S := S) (by decide)
        refine .mk (fun d => s_keepN0 d k0 (by rw [k2]; decide) c') (fun d => t_keep d _) (by decide) (by decide) (by rw [ea]) ?_
        rw [ea]
        refine keep_fin (s := 0) (by decide) h q1 (fun x x1 x2 => (q2 x (by omega)).trans (funext fun j => ?_)) ?_ ?_ fa n104 ?_ ?_ (fun j j1 j2 j3 j4 => ?_) ((h.2.2.2.2.1.1.n1 k2).k1 nT1.2.1 (by rw [nT1.1]; decide)) ns2
        · show (if 10 + 20 * 1 ≤ x ∧ x ≤ 21 + 20 * 1 then _ else if x = 2 ∧ j + 1 = 1 then 1 else κ x j) = κ x j
          rw [if_neg (by omega), if_neg (by omega)]
        · rw [q2 2 (by omega)]; show ¬ (1 : Int32) = 0; decide
        · rw [q2 2 (by omega)]; rfl
        · rw [f1 3 (by decide) (by decide) (by decide)]; rfl
        · exact Nat.le_trans (by rw [nT1.1]; decide) f2
        · rw [f1 j (by omega) (by omega) (by omega)]
          show (if j = 1 then 512 else if j = 1 + 2 then 1 else if j = 5 then _ else if j = 6 then _ else τ.2 j) = τ.2 j
          rw [if_neg (by omega), if_neg (by omega), if_neg (by omega), if_neg (by omega)]
      · have k2 : τ.2 3 = 1 := k2
        obtain ⟨N, S, t, u, c, c1, c2, c3, c4, c5, c6, c7, c8, c9, c10⟩ := st0.cp
        have hL : τ.2 1 ≤ 24000 := k4.1.1.2.2.2.2.2.2.2.2
        obtain ⟨q1, q2⟩ := st0.copied (g := 1) (A' := aSh (zup β 104 0 (nI 1)) 1) (by decide) (by decide) (by decide) c1 c2 c3 c4 c5 c6 c7 c8 c9 c10 ns c.2.1.2.1 hL
        obtain ⟨f1, f2, -⟩ := rmg_F (τ := τ) (g := 1) (S := S) (by decide)
        refine .mk (fun d => s_keep0 d k0 k2 c hL) (fun d => t_keep d _) (by decide) (by decide) (by rw [ea]) ?_
        rw [ea]
        refine keep_fin (s := 0) (by decide) h q1 (fun x x1 x2 => q2 x (by omega)) (by rw [q2 2 (by omega)]; exact k0) (by rw [q2 2 (by omega)]) fa n104 ?_ (Nat.le_trans k3 f2) (fun j j1 j2 j3 j4 => f1 j (by omega) (by omega) (by omega)) (h.2.2.2.2.1.1.k1 k2 k3) ns2
        rw [f1 3 (by decide) (by decide) (by decide)]; exact k2
    · rcases h.2.2.2.1 with ⟨k0, -, k2⟩ | ⟨k0, -, k2, k3, k4⟩
      · have k2 : τ.2 4 = 0 := k2
        have st1 : stR (kSh (k_nK κ 2) 0) α (tSh (k_nT τ 2) 0) := h.1.of (fun p a b => funext fun j => by
          show (if 10 + 20 * 2 ≤ p + 20 * 0 ∧ _ then _ else if p + 20 * 0 = 2 ∧ j + 1 = 2 then 1 else κ (p + 20 * 0) j) = κ p j
          rw [if_neg (by omega), if_neg (by omega)]; rfl) (fun _ _ => rfl) rfl
        obtain ⟨N, S, t, u, c, c1, c2, c3, c4, c5, c6, c7, c8, c9, c10⟩ := st1.cp
        have c' : kCp κ τ 0 N S t u := by
          unfold kCp at c ⊢
          have e0 : ∀ p, 10 ≤ p → p ≤ 21 → k_nK κ 2 (p + 20 * 0) = κ (p + 20 * 0) := fun p a b => funext fun j => by
            show (if 10 + 20 * 2 ≤ p + 20 * 0 ∧ _ then _ else if p + 20 * 0 = 2 ∧ j + 1 = 2 then 1 else κ (p + 20 * 0) j) = _
            rw [if_neg (by omega), if_neg (by omega)]
          rw [e0 11 (by decide) (by decide), e0 15 (by decide) (by decide), e0 14 (by decide) (by decide), e0 17 (by decide) (by decide), e0 19 (by decide) (by decide), e0 10 (by decide) (by decide)] at c
          exact c
        obtain ⟨q1, q2⟩ := st1.copied (g := 2) (A' := aSh (zup β 104 1 (nI 1)) 2) (by decide) (by decide) (by decide) c1 c2 c3 c4 c5 c6 c7 c8 c9 c10 ns c.2.1.2.1 (by rw [nT2.1]; decide)
        obtain ⟨f1, f2, -⟩ := rmg_F (τ := k_nT τ 2) (g := 2) (S := S) (by decide)
        refine .mk (fun d => s_keepN1 d k0 (by rw [k2]; decide) c') (fun d => t_keep d _) (by decide) (by decide) (by rw [ea]) ?_
        rw [ea]
        refine keep_fin (s := 1) (by decide) h q1 (fun x x1 x2 => (q2 x (by omega)).trans (funext fun j => ?_)) ?_ ?_ fa n104 ?_ ?_ (fun j j1 j2 j3 j4 => ?_) ((h.2.2.2.2.1.1.n2 k2).k2 nT2.2.1 (by rw [nT2.1]; decide)) ns2
        · show (if 10 + 20 * 2 ≤ x ∧ x ≤ 21 + 20 * 2 then _ else if x = 2 ∧ j + 1 = 2 then 1 else κ x j) = κ x j
          rw [if_neg (by omega), if_neg (by omega)]
        · rw [q2 2 (by omega)]; show ¬ (1 : Int32) = 0; decide
        · rw [q2 2 (by omega)]; rfl
        · rw [f1 4 (by decide) (by decide) (by decide)]; rfl
        · exact Nat.le_trans (by rw [nT2.1]; decide) f2
        · rw [f1 j (by omega) (by omega) (by omega)]
          show (if j = 2 then 512 else if j = 2 + 2 then 1 else if j = 5 then _ else if j = 6 then _ else τ.2 j) = τ.2 j
          rw [if_neg (by omega), if_neg (by omega), if_neg (by omega), if_neg (by omega)]
      · have k2 : τ.2 4 = 1 := k2
        obtain ⟨N, S, t, u, c, c1, c2, c3, c4, c5, c6, c7, c8, c9, c10⟩ := st0.cp
        have hL : τ.2 2 ≤ 24000 := k4.1.1.2.2.2.2.2.2.2.2
        obtain ⟨q1, q2⟩ := st0.copied (g := 2) (A' := aSh (zup β 104 1 (nI 1)) 2) (by decide) (by decide) (by decide) c1 c2 c3 c4 c5 c6 c7 c8 c9 c10 ns c.2.1.2.1 hL
        obtain ⟨f1, f2, -⟩ := rmg_F (τ := τ) (g := 2) (S := S) (by decide)
        refine .mk (fun d => s_keep1 d k0 k2 c hL) (fun d => t_keep d _) (by decide) (by decide) (by rw [ea]) ?_
        rw [ea]
        refine keep_fin (s := 1) (by decide) h q1 (fun x x1 x2 => q2 x (by omega)) (by rw [q2 2 (by omega)]; exact k0) (by rw [q2 2 (by omega)]) fa n104 ?_ (Nat.le_trans k3 f2) (fun j j1 j2 j3 j4 => f1 j (by omega) (by omega) (by omega)) (h.2.2.2.2.1.1.k2 k2 k3) ns2
        rw [f1 4 (by decide) (by decide) (by decide)]; exact k2
theorem y_back (h : zI k κ α τ) (n : Int32) : zCall E zI k κ α τ mX8_back mX9_back [.int n] := by
  by_cases e : n < 0 ∨ ¬ n < nI 2
  · have ea : a_back α n = (nI 0, a0 α) := by
      unfold a_back
      rw [if_neg]
      rintro ⟨x, -⟩
      simp only [Bool.and_eq_true, decide_eq_true_eq] at x
      rcases e with e | e
      · exact absurd x.1 (Int32.not_le.mpr e)
      · exact e (Int32.lt_of_le_of_lt x.2 (by decide))
    refine .mk (fun d => s_backOut d e) (fun d => t_back d n) (by decide) (by decide) (by rw [ea]) ?_
    rw [ea]; exact h.a0
  · have n1 : ¬ n < 0 := fun x => e (.inl x)
    have n2 : n < nI 2 := Classical.byContradiction (fun x => e (.inr x))
    obtain ⟨s, hs0, rfl⟩ := nI_of n1
    have hs1 := (nI_ltI hs0 (by decide)).mp n2
    have hs : s ≤ 1 := by omega
    have hin : (decide (nI 0 ≤ nI s) && decide (nI s ≤ nI 1)) = true := by
      have hs2 : s = 0 ∨ s = 1 := by omega
      rcases hs2 with rfl | rfl <;> rfl
    have kp : kpR κ α τ (s + 1) := by
      have hs2 : s = 0 ∨ s = 1 := by omega
      rcases hs2 with rfl | rfl
      · exact h.2.2.1
      · exact h.2.2.2.1
    rcases kp with ⟨k0, k1, k2⟩ | ⟨k0, k1, k2, k3, k4⟩
    · rw [Nat.add_sub_cancel] at k0 k1
      have ea : a_back α (nI s) = (nI 0, a0 α) := by
        unfold a_back
        rw [if_neg]
        rintro ⟨-, x⟩
        rw [nI_clamp hs0] at x; exact x k1
      refine .mk (fun d => s_backNo d hs1 k0) (fun d => t_back d _) (by decide) (by decide) (by rw [ea]) ?_
      rw [ea]; exact h.a0
    · rw [Nat.add_sub_cancel] at k0 k1
      have ea : a_back α (nI s) = (nI 1, zit (a_baF s) 0 13326 (a0 α)) := by
        unfold a_back
        rw [nI_clamp hs0, if_pos ⟨hin, k1⟩]
      obtain ⟨r1, r2⟩ := ba_row (s := s) 13326 (a0 α)
      generalize zit (a_baF s) 0 13326 (a0 α) = β at r1 r2 ea
      have fa : ∀ p i, ¬ (p = 100 ∧ i = 0) → ¬ p = 101 → β p i = α p i := fun p i x y => (r2 p i (by omega)).trans (a0_p x)
      obtain ⟨N, S, t, u, c, c1, c2, c3, c4, c5, c6, c7, c8, c9, c10⟩ := k4.cp
      have hL : τ.2 0 ≤ 24000 := h.1.1.1.2.2.2.2.2.2.2.2
      obtain ⟨q1, q2⟩ := k4.copied (g := 0) (A' := β) (by decide) (by omega) (by omega) c1 c2 c3 c4 c5 c6 c7 c8 c9 c10 (fun j hj => by
        rw [r1 j hj, a0_p (by omega)]
        show α 103 (13326 * s + j) = α 103 (13326 * (s + 1 - 1) + j)
        rw [Nat.add_sub_cancel]) c.2.1.2.1 hL
      obtain ⟨f1, f2, -, -, f5⟩ := rmg_F (τ := τ) (g := 0) (S := S) (by decide)
      have tg : tG τ (k_rmTg τ 0 S) := ⟨fun j a b c => f1 j a b c, f2, f5⟩
      have fin : zI (k + 1) (k_cpA κ τ 0 (s + 1) N S t u) β (k_rmTg τ 0 S) := h.fr2 (q1.of (fun _ _ _ => rfl) (fun _ _ => rfl) rfl) (h.2.1.fr (fun p j hp => by rw [q2 p (by omega)]) (fun p j hp => fa p j (by omega) (by omega))) (fun p j hp => by rw [q2 p (by omega)]) (fun p j hp => fa p j (by omega) (by omega)) tg (by
        rw [r1 2 (by decide), a0_p (by omega)]
        have hs2 : s = 0 ∨ s = 1 := by omega
        rcases hs2 with rfl | rfl
        · exact h.2.2.2.2.1.2.2.1
        · exact h.2.2.2.2.1.2.2.2)
      have hs2 : s = 0 ∨ s = 1 := by omega
      rcases hs2 with rfl | rfl
      · refine .mk (fun d => s_back0 d k0 k2 c hL) (fun d => t_back d _) (by decide) (by decide) (by rw [ea]) ?_
        rw [ea]; exact fin
      · refine .mk (fun d => s_back1 d k0 k2 c hL) (fun d => t_back d _) (by decide) (by decide) (by rw [ea]) ?_
        rw [ea]; exact fin
end KQ
