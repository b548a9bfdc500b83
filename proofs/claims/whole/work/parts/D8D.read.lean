/-! the reader over told lines -/
/-- the two masks of a row's part -/
def pM (g : Nat → Int32) (a n : Nat) : Int32 := zit (fun i x => if 0 < g i then x ||| kb (g i) else x) a n (nI 0)
def nM (g : Nat → Int32) (a n : Nat) : Int32 := zit (fun i x => if 0 < g i then x else x ||| kb (g i)) a n (nI 0)
section RQ
variable {κ α α' a : Nat → Nat → Int32} {τ : (Nat → Nat → Int64) × (Nat → Nat)} {p q : Int32} {g g' : Nat → Int32}
theorem pM_s (s n : Nat) : pM g s (n + 1) = (if 0 < g (s + n) then pM g s n ||| kb (g (s + n)) else pM g s n) ∧ nM g s (n + 1) = (if 0 < g (s + n) then nM g s n else nM g s n ||| kb (g (s + n))) := by
  unfold pM nM
  rw [zit_succ, zit_succ]
  exact ⟨rfl, rfl⟩
theorem pM_0 (s : Nat) : pM g s 0 = nI 0 ∧ nM g s 0 = nI 0 := ⟨rfl, rfl⟩
theorem pM_cg {s : Nat} : ∀ n, (∀ i, i < n → g (s + i) = g' (s + i)) → pM g s n = pM g' s n ∧ nM g s n = nM g' s n
  | 0, _ => by rw [(pM_0 s).1, (pM_0 s).2, (pM_0 (g := g') s).1, (pM_0 (g := g') s).2]; exact ⟨rfl, rfl⟩
  | n + 1, h => by
    obtain ⟨i1, i2⟩ := pM_cg n (fun i hi => h i (by omega))
    rw [(pM_s s n).1, (pM_s s n).2, (pM_s (g := g') s n).1, (pM_s (g := g') s n).2, i1, i2, h n (by omega)]
    exact ⟨rfl, rfl⟩
theorem pM_mR {s : Nat} : ∀ n, (∀ i, i < n → lok 30 (g (s + i))) → mR (pM g s n) (nM g s n) n (fun i => g (s + i))
  | 0, _ => mR.zero
  | n + 1, h => by
    have ih := pM_mR n (fun i hi => h i (by omega))
    obtain ⟨x, y⟩ := ih.snoc (h n (by omega))
    rw [(pM_s s n).1, (pM_s s n).2]
    by_cases e : 0 < g (s + n)
    · rw [if_pos e, if_pos e]; exact x e
    · rw [if_neg e, if_neg e]; exact y e
theorem zcnt_sft (P : Nat → Bool) (s n : Nat) : zcnt P s n = zcnt (fun i => P (s + i)) 0 n := by
  have := zcnt_sh P s n 0
  rw [Nat.zero_add] at this
  rw [this]
  exact zcnt_congr (fun j _ _ => by rw [Nat.add_comm])
theorem ng_sft {s : Nat} : ∀ n (β : Nat → Nat → Int32), zit (a_ngF g) s n β = zit (a_ngF (fun i => g (s + i))) 0 n β
  | 0, β => rfl
  | n + 1, β => by
    rw [zit_succ, zit_succ, ng_sft n β, Nat.zero_add]; rfl
/-- the last one that stands alone -/
theorem rdL_is : ∀ n s l, (∃ j, s ≤ j ∧ j < s + n ∧ a_tr α (α 118 j) = 0) → ∃ j, s ≤ j ∧ j < s + n ∧ zit (a_rdF α) s n l = α 118 j ∧ a_tr α (α 118 j) = 0
  | 0, s, l, ⟨j, h1, h2, _⟩ => by omega
  | n + 1, s, l, ⟨j, h1, h2, h3⟩ => by
    rw [zit_succ]
    unfold a_rdF
    by_cases e : a_tr α (α 118 (s + n)) = 0
    · rw [if_pos e]; exact ⟨s + n, by omega, by omega, rfl, e⟩
    · rw [if_neg e]
      have : j < s + n := by
        rcases Nat.lt_or_ge j (s + n) with x | x
        · exact x
        · have : j = s + n := by omega
          subst this; exact absurd h3 e
      obtain ⟨i, i1, i2, i3, i4⟩ := rdL_is n s l ⟨j, h1, this, h3⟩
      exact ⟨i, i1, by omega, i3, i4⟩
/-- a told line looked at, both alike -/
theorem rl_sim {k i s S : Nat} (hs : aF α' k = s) (hS : aF α' (k + 1) - aF α' k = S) (hm : mR (a 75 i) (a 76 i) S (fun x => α' 118 (s + x))) (hf : ∀ x, x < S → lok 30 (α' 118 (s + x))) (hd : ∀ x y, x < y → y < S → ¬ zv (α' 118 (s + x)) = zv (α' 118 (s + y))) (has : asR p q (α' 105)) (mo : Bool) :
    (a_rdH α' k = 2 ∧ k_acF a i (p, q, mo) = none) ∨ (¬ a_rdH α' k = 2 ∧ ∃ p' q', k_acF a i (p, q, mo) = some (p', q', mo || Nat.beq (a_rdH α' k) 1) ∧ asR p' q' (a_rdA α' k 105) ∧ ∀ x, x = 101 ∨ x = 118 ∨ x = 119 → a_rdA α' k x = α' x) := by
  obtain ⟨f1, f2⟩ := ac_F (a := a) (i := i) (dr := mo) hm hf hd has
  have eC : a_rdC α' k = zcnt (fun x => decide (ztr (α' 105) (α' 118 (s + x)) = 0)) 0 S := by unfold a_rdC; rw [hs] at hS ⊢; rw [hS]; exact zcnt_sft _ s S
  have eT : a_rdT α' k = true ↔ ∃ x, x < S ∧ 0 < ztr (α' 105) (α' 118 (s + x)) := by
    unfold a_rdT
    rw [hs] at hS ⊢
    rw [hS, zfind_isSome]
    constructor
    · rintro ⟨j, j1, j2, j3⟩
      exact ⟨j - s, by omega, by rw [show s + (j - s) = j from by omega]; exact of_decide_eq_true j3⟩
    · rintro ⟨x, x1, x2⟩
      exact ⟨s + x, by omega, by omega, decide_eq_true x2⟩
  unfold a_rdH a_rdA
  cases hT : a_rdT α' k with
  | true =>
    right
    rw [if_pos rfl, if_neg (fun x => absurd x.1 (by decide))]
    refine ⟨by decide, p, q, ?_, has, fun _ _ => rfl⟩
    show _ = some (p, q, mo || false)
    rw [Bool.or_false]; exact f1 (eT.mp hT)
  | false =>
    have ns : ∀ x, x < S → ¬ 0 < ztr (α' 105) (α' 118 (s + x)) := fun x hx y => by
      have := eT.mpr ⟨x, hx, y⟩
      rw [hT] at this; exact absurd this (by decide)
    obtain ⟨g0, g1, g2⟩ := f2 ns
    rw [if_neg (show ¬ (false = true) by decide)]
    rw [← eC] at g0 g1 g2
    by_cases z0 : a_rdC α' k = 0
    · left
      exact ⟨by unfold a_how; rw [if_pos z0], g0 z0⟩
    · right
      by_cases z1 : a_rdC α' k = 1
      · have eh : a_how (a_rdC α' k) = 1 := by unfold a_how; rw [if_neg z0, if_pos z1]
        have c1 : zcnt (fun x => decide (ztr (α' 105) (α' 118 (s + x)) = 0)) 0 S = 1 := by rw [← eC]; exact z1
        obtain ⟨c, -, c2, c3, -⟩ := zcnt_one c1
        have L := rdL_is (α := α') S s (nI 0) ⟨s + c, by omega, by omega, of_decide_eq_true c3⟩
        obtain ⟨j, j1, j2, j3, j4⟩ := L
        have eL : a_rdL α' k = α' 118 (s + (j - s)) := by unfold a_rdL; rw [hs] at hS ⊢; rw [hS, j3, show s + (j - s) = j from by omega]
        rw [eh, if_pos ⟨rfl, z1⟩, eL]
        refine ⟨by decide, p ||| a 75 i &&& mOp (a 75 i) (a 76 i) p q, q ||| a 76 i &&& mOp (a 75 i) (a 76 i) p q, ?_, ?_, fun x hx => funext fun y => a_comes_at (by omega)⟩
        · show _ = some (_, _, mo || true); rw [Bool.or_true]; exact g1 z1
        · exact ac_put hm hf hd has c1 (k := j - s) (by omega) (by show ztr (α' 105) (α' 118 (s + (j - s))) = 0; rw [show s + (j - s) = j from by omega]; exact j4) (fun u => a_comes_105 u)
      · have eh : a_how (a_rdC α' k) = 0 := by unfold a_how; rw [if_neg z0, if_neg z1]
        rw [eh, if_neg (fun x => z1 x.2)]
        refine ⟨by decide, p, q, ?_, has, fun _ _ => rfl⟩
        show _ = some (p, q, mo || false)
        rw [Bool.or_false]; exact g2 z0 z1
/-- the first K told lines stand in the reader's rows, from T on -/
def rdQ (a α : Nat → Nat → Int32) (T K : Nat) : Prop := ∀ k, k < K → a 75 (T + k) = pM (α 118) (aF α k) (aF α (k + 1) - aF α k) ∧ a 76 (T + k) = nM (α 118) (aF α k) (aF α (k + 1) - aF α k)
theorem aRd.mR {R k : Nat} (h : aRd α R) (hk : k < R) : mR (pM (α 118) (aF α k) (aF α (k + 1) - aF α k)) (nM (α 118) (aF α k) (aF α (k + 1) - aF α k)) (aF α (k + 1) - aF α k) (fun i => α 118 (aF α k + i)) := pM_mR _ (fun i hi => h.2.2.2 k hk _ (by omega) (by omega))
theorem pR_sim {T K R : Nat} (hK : K ≤ R) (hR : aRd α R) (hR2 : aRd2 α R) (hQ : rdQ a α T K) : ∀ m j mo (α' : Nat → Nat → Int32) p q, j + m = K → α' 118 = α 118 → α' 119 = α 119 → α' 101 = α 101 → asR p q (α' 105) →
    ((a_pR m j mo α').1 = true ∧ k_acI a m (T + j) (p, q, mo) = none) ∨ (∃ mo' β p' q', a_pR m j mo α' = (false, mo', β) ∧ k_acI a m (T + j) (p, q, mo) = some (p', q', mo') ∧ asR p' q' (β 105) ∧ ∀ x, x = 101 ∨ x = 118 ∨ x = 119 → β x = α x)
  | 0, j, mo, α', p, q, _, e8, e9, e1, has => .inr ⟨mo, α', p, q, rfl, rfl, has, fun x hx => by rcases hx with rfl | rfl | rfl <;> assumption⟩
  | m + 1, j, mo, α', p, q, hm, e8, e9, e1, has => by
    have eF : ∀ k, aF α' k = aF α k := fun k => by unfold aF; rw [e9]
    obtain ⟨q1, q2⟩ := hQ j (by omega)
    have M := hR.mR (k := j) (by omega)
    rw [← q1, ← q2] at M
    have S := rl_sim (α' := α') (a := a) (k := j) (i := T + j) (s := aF α j) (S := aF α (j + 1) - aF α j) (p := p) (q := q) (eF j) (by rw [eF, eF]) (by rw [e8]; exact M) (fun x hx => by rw [e8]; exact hR.2.2.2 j (by omega) _ (by omega) (by omega)) (fun x y hx hy => by rw [e8]; exact hR2 j (by omega) _ _ (by omega) (by omega) (by omega)) has mo
    unfold a_pR
    show (_ ∧ (match k_acF a (T + j) (p, q, mo) with | none => none | some y => k_acI a m (T + j + 1) y) = none) ∨ (∃ mo' β p' q', _ ∧ (match k_acF a (T + j) (p, q, mo) with | none => none | some y => k_acI a m (T + j + 1) y) = some (p', q', mo') ∧ _ ∧ _)
    rcases S with ⟨o, kk⟩ | ⟨o, p', q', kk, as', ee⟩
    · rw [if_pos o, kk]; exact .inl ⟨rfl, rfl⟩
    · rw [if_neg o, kk]
      exact pR_sim hK hR hR2 hQ m (j + 1) (mo || Nat.beq (a_rdH α' j) 1) (a_rdA α' j) p' q' (by omega) ((ee 118 (by omega)).trans e8) ((ee 119 (by omega)).trans e9) ((ee 101 (by omega)).trans e1) as'
theorem acL_cg {b : Nat → Nat → Int32} {n : Nat} (h : ∀ i, i < n → a 75 i = b 75 i ∧ a 76 i = b 76 i) : ∀ f x, k_acL a n f x = k_acL b n f x := by
  have I : ∀ m i x, i + m ≤ n → k_acI a m i x = k_acI b m i x := by
    intro m
    induction m with
    | zero => intro i x _; rfl
    | succ m ih =>
      intro i x hi
      obtain ⟨h1, h2⟩ := h i (by omega)
      have eF : k_acF a i x = k_acF b i x := by unfold k_acF k_acS k_acO; rw [h1, h2]
      show (match k_acF a i x with | none => none | some y => k_acI a m (i + 1) y) = (match k_acF b i x with | none => none | some y => k_acI b m (i + 1) y)
      rw [eF]
      cases k_acF b i x with
      | none => rfl
      | some y => exact ih (i + 1) y (by omega)
  intro f
  induction f with
  | zero => intro x; rfl
  | succ f ih =>
    intro x
    show (if x.2.2 = true then (match k_acI a n 0 (x.1, x.2.1, false) with | none => true | some y => k_acL a n f y) else false) = (if x.2.2 = true then (match k_acI b n 0 (x.1, x.2.1, false) with | none => true | some y => k_acL b n f y) else false)
    rw [I n 0 _ (by omega)]
    cases k_acI b n 0 (x.1, x.2.1, false) with
    | none => rfl
    | some y =>
      show (if x.2.2 = true then k_acL a n f y else false) = (if x.2.2 = true then k_acL b n f y else false)
      rw [ih y]
theorem rf_sim2 (h : stR κ α τ) (hT : rdT κ α a) {K R : Nat} (hK : K ≤ R) (hR : aRd α R) (hR2 : aRd2 α R) (hQ : rdQ a α (zcnt (zNl α) 0 (aN α)) K) : ∀ n (α' : Nat → Nat → Int32) p q, (∀ x, x = 101 ∨ x = 118 ∨ x = 119 → α' x = α x) → asR p q (α' 105) → (a_rf 0 K n α').1 = k_acL a (zcnt (zNl α) 0 (aN α) + K) n (p, q, true)
  | 0, α', p, q, _, _ => rfl
  | n + 1, α', p, q, e, has => by
    have eN : aN α' = aN α := by unfold aN; rw [e 101 (by omega)]
    have C := pC_sim h hT (aN α) 0 false α' p q (Nat.zero_add _) (e 101 (by omega)) has
    have co := a_pC_off (aN α) 0 false α'
    show (match a_pC (aN α') 0 false α' with
      | (true, _, β) => (true, β)
      | (false, mo, β) => match a_pL 0 0 mo β with
        | (true, _, γ) => (true, γ)
        | (false, mo, γ) => match a_pR K 0 mo γ with
          | (true, _, δ) => (true, δ)
          | (false, true, δ) => a_rf 0 K n δ
          | (false, false, δ) => (false, δ)).1 = (match k_acI a (zcnt (zNl α) 0 (aN α) + K) 0 (p, q, false) with | none => true | some y => k_acL a (zcnt (zNl α) 0 (aN α) + K) n y)
    rw [eN, acI_add]
    rcases C with ⟨c1, c2⟩ | ⟨mo, β, p', q', c1, c2, c3, c4⟩
    · have c2 : k_acI a (zcnt (zNl α) 0 (aN α)) 0 (p, q, false) = none := c2
      rw [c2]
      generalize a_pC (aN α) 0 false α' = X at c1
      obtain ⟨x, y, z⟩ := X
      have c1 : x = true := c1
      subst c1; rfl
    · have c2 : k_acI a (zcnt (zNl α) 0 (aN α)) 0 (p, q, false) = some (p', q', mo) := c2
      rw [c1] at co
      have co : zoff aSc α' β := co
      rw [c1, c2]
      show (match a_pR K 0 mo β with
          | (true, _, δ) => (true, δ)
          | (false, true, δ) => a_rf 0 K n δ
          | (false, false, δ) => (false, δ)).1 = (match k_acI a K (0 + zcnt (zNl α) 0 (aN α)) (p', q', mo) with | none => true | some y => k_acL a (zcnt (zNl α) 0 (aN α) + K) n y)
      rw [Nat.zero_add]
      rcases pR_sim hK hR hR2 hQ K 0 mo β p' q' (Nat.zero_add _) ((co 118 (by decide)).trans (e 118 (by omega))) ((co 119 (by decide)).trans (e 119 (by omega))) c4 c3 with ⟨d1, d2⟩ | ⟨mo', γ, p2, q2, d1, d2, d3, d4⟩
      · have d2 : k_acI a K (zcnt (zNl α) 0 (aN α)) (p', q', mo) = none := d2
        rw [d2]
        generalize a_pR K 0 mo β = X at d1
        obtain ⟨x, y, z⟩ := X
        have d1 : x = true := d1
        subst d1; rfl
      · have d2 : k_acI a K (zcnt (zNl α) 0 (aN α)) (p', q', mo) = some (p2, q2, mo') := d2
        rw [d1, d2]
        cases mo' with
        | true => exact rf_sim2 h hT hK hR hR2 hQ n γ p2 q2 d4 d3
        | false => show false = _; exact acL_f.symm
end RQ
