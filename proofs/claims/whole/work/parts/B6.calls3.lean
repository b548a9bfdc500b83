/-! literals: phase, add, assume -/
theorem lit_tab : ∀ n : Nat, n < 31 → Int32.ofInt (-(n : Int)) = -(nI n) ∧ Int32.ofInt n = nI n ∧ (nI n).toInt = n ∧ (-(nI n)).toInt = -(n : Int) := by decide +kernel
section C3
variable {E : zEnv} {κ κ' α α' : Nat → Nat → Int32} {τ τ' : (Nat → Nat → Int64) × (Nat → Nat)} {k : Nat}
theorem k_hasLit_lok {V : Nat} {l : Int32} (hV : κ 10 4 = nI V) (h30 : V ≤ 30) : k_hasLit κ l = true ↔ lok V l := by
  unfold k_hasLit
  rw [hV]
  simp only [Bool.and_eq_true, decide_eq_true_eq, Int32.le_iff_toInt_le]
  rw [(lit_tab V (by omega)).2.2.1, (lit_tab V (by omega)).2.2.2]
  constructor
  · rintro ⟨a, b, c⟩
    have e := Int32.ofInt_toInt l
    generalize l.toInt = i at b c e
    rcases Int.lt_trichotomy i 0 with x | x | x
    · obtain ⟨n, rfl⟩ : ∃ n : Nat, i = -(n : Int) := ⟨i.natAbs, by omega⟩
      rw [(lit_tab n (by omega)).1] at e
      exact ⟨n, by omega, by omega, .inr e.symm⟩
    · subst x; exact absurd e.symm a
    · obtain ⟨n, rfl⟩ : ∃ n : Nat, i = (n : Int) := ⟨i.natAbs, by omega⟩
      rw [(lit_tab n (by omega)).2.1] at e
      exact ⟨n, by omega, by omega, .inl e.symm⟩
  · rintro ⟨v, a, b, c⟩
    have N := zv_tab (v := v) (by omega) a
    have T := lit_tab v (by omega)
    rcases c with rfl | rfl
    · exact ⟨N.2.2.1, by rw [T.2.2.1]; omega, by rw [T.2.2.1]; omega⟩
    · exact ⟨N.2.2.2.1, by rw [T.2.2.2]; omega, by rw [T.2.2.2]; omega⟩
theorem stR.lit (h : stR κ α τ) (l : Int32) : k_hasLit κ l = a_isLit α l := by
  have hW := h.1.1.2.1
  rw [Bool.eq_iff_iff, k_hasLit_lok (h.1.2.1.1.trans hW.1.1) hW.1.2, a_isLit_lok hW.1.1 hW.1.2]
theorem setPh {l : Int32} (hl : lok 30 l) (h : phR κ α) (ek : κ' 10 5 = k_setPhase κ l 10 5) (ea : ∀ j, 33 ≤ j → j ≤ 62 → α' 101 j = if j = 32 + zv l then (if 0 < l then nI 1 else nI 0) else α 101 j) : phR κ' α' := by
  obtain ⟨u, u1, u2, eu, d⟩ := lok_two hl
  have N := zv_tab (v := u) (by omega) u1
  have ekb : kb l = kb (nI u) := by have := kb_lok hl (Nat.le_refl _); rwa [eu] at this
  intro v v1 v2
  rw [ek, ea (32 + v) (by omega) (by omega), eu]
  unfold k_setPhase
  rw [zup_same, ekb]
  by_cases e : v = u
  · subst e
    rw [if_pos (show 32 + v = 32 + v from rfl)]
    by_cases p : 0 < l
    · rw [if_pos p, if_pos p, kt_or, kt_kb u1 u2 u1 u2]
      exact .inl ⟨by simp, rfl⟩
    · rw [if_neg p, if_neg p, kt_and, kt_xn _ (by omega) u1, kt_kb u1 u2 u1 u2]
      exact .inr ⟨by simp, rfl⟩
  · rw [if_neg (show ¬ 32 + v = 32 + u by omega)]
    have e' : ¬ u = v := fun x => e x.symm
    by_cases p : 0 < l
    · rw [if_pos p, kt_or, kt_kb u1 u2 v1 v2, decide_eq_false e', Bool.or_false]; exact h v v1 v2
    · rw [if_neg p, kt_and, kt_xn _ (by omega) v1, kt_kb u1 u2 v1 v2, decide_eq_false e', Bool.not_false, Bool.and_true]; exact h v v1 v2
theorem y_phase (h : zI k κ α τ) (l : Int32) : zCall E zI k κ α τ mX8_phase mX9_phase [.int l] := by
  have hW := h.1.1.1.2.1
  have eh := h.1.lit l
  have cond : (k_hasLit κ l = true ∧ ¬ k_phaseOf κ (zab l) = decide (0 < l)) ↔ (a_isLit α l = true ∧ ¬ α 101 (32 + zv l) = (if 0 < l then nI 1 else nI 0)) := by
    rw [eh]
    refine and_congr_right (fun hl => ?_)
    have hl := (a_isLit_lok hW.1.1 hW.1.2).mp hl
    obtain ⟨g1, g2, g3, -⟩ := hl.is hW.1.2
    have h30 : zv l ≤ 30 := by have := hW.1.2; omega
    unfold k_phaseOf
    rw [g3]
    rcases h.1.1.2.2.1 (zv l) g1 h30 with ⟨x, y⟩ | ⟨x, y⟩
    · rw [y, decide_eq_true ((kt_niff _ g1 h30).mpr x)]
      by_cases p : 0 < l
      · rw [if_pos p, decide_eq_true p]; exact ⟨fun z => absurd rfl z, fun z => absurd rfl z⟩
      · rw [if_neg p, decide_eq_false p]; exact ⟨fun _ => by decide, fun _ => by decide⟩
    · rw [y, decide_eq_false (fun z => z ((kt_iff _ g1 h30).mpr x))]
      by_cases p : 0 < l
      · rw [if_pos p, decide_eq_true p]; exact ⟨fun _ => by decide, fun _ => by decide⟩
      · rw [if_neg p, decide_eq_false p]; exact ⟨fun z => absurd rfl z, fun z => absurd rfl z⟩
  by_cases e : k_hasLit κ l = true ∧ ¬ k_phaseOf κ (zab l) = decide (0 < l)
  · have ek : k_phase κ l = (nI 1, k_setPhase κ l) := by unfold k_phase; rw [if_pos e]
    have ea : a_phase α l = (nI 1, zup (a0 α) 101 (32 + zv l) (if 0 < l then nI 1 else nI 0)) := by unfold a_phase; rw [if_pos (cond.mp e)]
    have hl := (a_isLit_lok hW.1.1 hW.1.2).mp (cond.mp e).1
    obtain ⟨g1, g2, -⟩ := hl.is hW.1.2
    have h30 : zv l ≤ 30 := by have := hW.1.2; omega
    refine .mk (fun d => s_phase d l) (fun d => t_phase d l hW.1.1 hW.1.2) (by decide) (by decide) (by rw [ek, ea]) ?_
    rw [ek, ea]
    show zI (k + 1) (k_setPhase κ l) (zup (a0 α) 101 (32 + zv l) (if 0 < l then nI 1 else nI 0)) τ
    have fa : ∀ p i, ¬ (p = 100 ∧ i = 0) → ¬ (p = 101 ∧ i = 32 + zv l) → zup (a0 α) 101 (32 + zv l) (if 0 < l then nI 1 else nI 0) p i = α p i := fun p i x y => (if_neg y).trans (a0_p x)
    have fk : ∀ p i, ¬ (p = 10 ∧ i = 5) → k_setPhase κ l p i = κ p i := fun p i x => k_setPhase_at x
    have eV : aV (zup (a0 α) 101 (32 + zv l) (if 0 < l then nI 1 else nI 0)) = aV α := by unfold aV; rw [fa 101 0 (by omega) (by omega)]
    refine h.fr (h.1.small (fun p j x _ _ _ => fk p j (by omega)) (fun j hj => fa 101 j (by omega) (by omega)) (setPh (hl.mono hW.1.2) h.1.1.2.2.1 rfl (fun j a b => ?_)) ?_ (h.1.2.2.2.2.1.eq (fun j => fk 17 j (by omega)) (fun j => fk 18 j (by omega)) (fa 101 4 (by omega) (by omega)) (fun j _ => fa 101 _ (by omega) (by omega)) (by omega)) (h.1.2.2.2.2.2.eq (fun j => fk 19 j (by omega)) (fun j => fk 20 j (by omega)) (fa 101 3 (by omega) (by omega)) (fun j _ => fa 101 _ (by omega) (by omega)) (by omega))) (h.2.1.fr (fun p j hp => fk p j (by omega)) (fun p j hp => fa p j (by omega) (by omega))) (fun p i hp => fk p i (by omega)) (fun p i hp => fa p i (by omega) (by omega)) tG.rf (fa 101 2 (by omega) (by omega))
    · by_cases x : j = 32 + zv l
      · rw [if_pos x, x, zup_same]
      · rw [if_neg x, fa 101 j (by omega) (by omega)]
    · rw [fk 10 6 (by omega), fa 101 5 (by omega) (by omega)]; exact h.1.1.2.2.2.2.1.1
  · have ek : k_phase κ l = (nI 0, κ) := by unfold k_phase; rw [if_neg e]
    have ea : a_phase α l = (nI 0, a0 α) := by unfold a_phase; rw [if_neg (fun x => e (cond.mpr x))]
    refine .mk (fun d => s_phase d l) (fun d => t_phase d l hW.1.1 hW.1.2) (by decide) (by decide) (by rw [ek, ea]) ?_
    rw [ek, ea]; exact h.a0
/-- one more in a row: both alike -/
theorem rwR.more {p i b D : Nat} {l : Int32} (hp : p = 17 ∨ p = 19) (h : rwR κ p α i b) (hD : α 101 i = nI D) (hl : lok (aV α) l) (hV : aV α ≤ 30) (h8 : D < 8) (hn : kt (κ p 2) (zv l) = false) (ei : α' 101 i = nI (D + 1)) (eD : α' 101 (b + D) = l) (eb : ∀ j, j < D → α' 101 (b + j) = α 101 (b + j)) (eV : aV α' = aV α) : rwR (k_put κ p l) p α' i b := by
  obtain ⟨D', d1, d2, d3, d4, d5, d6⟩ := h
  have e : D' = D := (nI_eq (by omega) (by omega)).mp (d3.symm.trans hD)
  subst e
  obtain ⟨u, u1, u2, eu, -⟩ := lok_two (hl.mono hV)
  have ekb : kb l = kb (nI u) := by have := kb_lok (hl.mono hV) (Nat.le_refl _); rwa [eu] at this
  have hno : ¬ ∃ j, j < D' ∧ zv (α 101 (b + j)) = u := fun x => by
    have := (d5 u u1 u2).mpr x; rw [← eu, hn] at this; exact absurd this (by decide)
  have kp : ∀ j, ¬ j = D' → k_put κ p l (p + 1) j = κ (p + 1) j := fun j hj => by
    unfold k_put
    rw [zup_p (by omega), zup_p (by omega), d2, nI_clamp (show D' < 2 ^ 31 by omega), zup_i hj]
  refine ⟨D' + 1, by omega, ?_, ei, fun j hj => ?_, fun v v1 v2 => ?_, fun x y hx hy => ?_⟩
  · unfold k_put; rw [zup_i (by decide), zup_same, d2, nI_add]
  · by_cases ej : j = D'
    · subst ej
      rw [eD, eV]
      refine ⟨?_, hl⟩
      unfold k_put
      rw [zup_p (by omega), zup_p (by omega), d2, nI_clamp (show j < 2 ^ 31 by omega), zup_same]
    · rw [kp j ej, eb j (by omega), eV]; exact d4 j (by omega)
  · have e2 : k_put κ p l p 2 = κ p 2 ||| kb (nI u) := by unfold k_put; rw [zup_same, ekb]
    rw [e2, kt_or, kt_kb u1 u2 v1 v2, Bool.or_eq_true, decide_eq_true_eq, d5 v v1 v2]
    constructor
    · rintro (⟨j, a, c⟩ | x)
      · exact ⟨j, by omega, by rw [eb j a]; exact c⟩
      · exact ⟨D', by omega, by rw [eD, eu]; exact x⟩
    · rintro ⟨j, a, c⟩
      by_cases ej : j = D'
      · subst ej; rw [eD, eu] at c; exact .inr c
      · rw [eb j (by omega)] at c; exact .inl ⟨j, by omega, c⟩
  · by_cases ey : y = D'
    · subst ey
      rw [eD, eb x hx, eu]
      exact fun z => hno ⟨x, hx, z⟩
    · rw [eb x (by omega), eb y (by omega)]; exact d6 x y hx (by omega)
theorem more_cond {p i b D : Nat} {l : Int32} (h : stR κ α τ) (hr : rwR κ p α i b) (hD : α 101 i = nI D) (hD8 : D ≤ 8) : ((k_hasLit κ l && (decide ((κ p 1).toNatClampNeg < 8) && decide (κ p 2 &&& kb l = 0))) = true ↔ ¬ (α 101 i = nI 8 ∨ a_isLit α l = false ∨ ¬ zfind (fun k => decide (zab (α 101 (b + k)) = zab l)) 0 (α 101 i).toNatClampNeg = none)) ∧ ((k_hasLit κ l && (decide ((κ p 1).toNatClampNeg < 8) && decide (κ p 2 &&& kb l = 0))) = true → lok (aV α) l ∧ D < 8 ∧ kt (κ p 2) (zv l) = false ∧ κ p 1 = nI D) := by
  obtain ⟨D', d1, d2, d3, d4, d5, d6⟩ := hr
  have e : D' = D := (nI_eq (by omega) (by omega)).mp (d3.symm.trans hD)
  subst e
  have hW := h.1.1.2.1
  have hV := hW.1.2
  rw [h.lit l, d2, hD, nI_clamp (show D' < 2 ^ 31 by omega)]
  simp only [Bool.and_eq_true, decide_eq_true_eq]
  have key : lok (aV α) l → ((κ p 2 &&& kb l = 0) ↔ kt (κ p 2) (zv l) = false) ∧ (zfind (fun k => decide (zab (α 101 (b + k)) = zab l)) 0 D' = none ↔ kt (κ p 2) (zv l) = false) := fun hl => by
    obtain ⟨g1, g2, g3, -⟩ := hl.is hV
    have h30 : zv l ≤ 30 := by omega
    have ekb : kb l = kb (nI (zv l)) := kb_lok (hl.mono hV) (Nat.le_refl _)
    refine ⟨by rw [ekb]; exact kt_iff _ g1 h30, ?_, ?_⟩
    · intro z
      cases x : kt (κ p 2) (zv l) with
      | false => rfl
      | true =>
        obtain ⟨j, a, c⟩ := (d5 _ g1 h30).mp x
        have := zfind_none z j (Nat.zero_le _) (by omega)
        have hj := (d4 j a).2.is hV
        rw [hj.2.2.1, g3, c] at this
        exact absurd this (by simp)
    · intro z
      refine zfind_isn (fun j _ hj => ?_)
      have hj' := (d4 j (by omega)).2.is hV
      rw [hj'.2.2.1, g3]
      refine decide_eq_false (fun x => ?_)
      have := (nI_eq (by omega) (by omega)).mp x
      have := (d5 _ g1 h30).mpr ⟨j, by omega, this⟩
      rw [z] at this; exact absurd this (by decide)
  refine ⟨⟨?_, ?_⟩, ?_⟩
  · rintro ⟨a, c, d⟩
    have hl := (a_isLit_lok hW.1.1 hV).mp a
    obtain ⟨k1, k2⟩ := key hl
    rintro (x | x | x)
    · have := (nI_eq (by omega) (by omega)).mp x; omega
    · rw [a] at x; exact absurd x (by decide)
    · exact x (k2.mpr (k1.mp d))
  · intro x
    have a : a_isLit α l = true := by
      cases y : a_isLit α l with
      | true => rfl
      | false => exact absurd (.inr (.inl y)) x
    have hl := (a_isLit_lok hW.1.1 hV).mp a
    obtain ⟨k1, k2⟩ := key hl
    refine ⟨a, ?_, k1.mpr (k2.mp (Classical.byContradiction (fun z => x (.inr (.inr z)))))⟩
    rcases Nat.lt_or_ge D' 8 with y | y
    · exact y
    · exact absurd (.inl (congrArg nI (by omega))) x
  · rintro ⟨a, c, d⟩
    have hl := (a_isLit_lok hW.1.1 hV).mp a
    exact ⟨hl, c, (key hl).1.mp d, trivial⟩
theorem y_add (h : zI k κ α τ) (l : Int32) : zCall E zI k κ α τ mX8_add mX9_add [.int l] := by
  have hr := h.1.2.2.2.2.1
  have hr0 := hr
  obtain ⟨D, d1, d2, d3, d4, d5, d6⟩ := hr
  obtain ⟨c1, c2⟩ := more_cond (l := l) h.1 hr0 d3 d1
  by_cases e : (k_hasLit κ l && (decide ((κ 17 1).toNatClampNeg < 8) && decide (κ 17 2 &&& kb l = 0))) = true
  · obtain ⟨hl, h8, hn, -⟩ := c2 e
    have ek : k_more κ 17 l = (nI (D + 1), k_put κ 17 l) := by unfold k_more; rw [if_pos e, d2, nI_add]
    have ea : a_add α l = (nI (D + 1), zup (zup (a0 α) 101 (24 + D) l) 101 4 (nI (D + 1))) := by
      unfold a_add
      rw [if_neg (c1.mp e), d3, nI_clamp (show D < 2 ^ 31 by omega)]
    refine .mk (fun d => s_add d l d2 d1) (fun d => t_add d l d3 d1) (by decide) (by decide) (by rw [ek, ea]) ?_
    rw [ek, ea]
    show zI (k + 1) (k_put κ 17 l) (zup (zup (a0 α) 101 (24 + D) l) 101 4 (nI (D + 1))) τ
    have fa : ∀ p i, ¬ (p = 100 ∧ i = 0) → ¬ (p = 101 ∧ (i = 4 ∨ i = 24 + D)) → zup (zup (a0 α) 101 (24 + D) l) 101 4 (nI (D + 1)) p i = α p i := fun p i x y => ((if_neg (by omega)).trans (if_neg (by omega))).trans (a0_p x)
    have fk : ∀ p i, ¬ (p = 17 ∨ p = 18) → k_put κ 17 l p i = κ p i := fun p i x => by unfold k_put; exact ((if_neg (by omega)).trans (if_neg (by omega))).trans (if_neg (by omega))
    have eV : aV (zup (zup (a0 α) 101 (24 + D) l) 101 4 (nI (D + 1))) = aV α := by unfold aV; rw [fa 101 0 (by omega) (by omega)]
    refine h.fr (h.1.small (fun p j x y _ _ => fk p j (by omega)) (fun j hj => fa 101 j (by omega) (by omega)) (fun v a b => ?_) ?_ (hr0.more (.inl rfl) d3 hl h.1.1.1.2.1.1.2 h8 hn (zup_same _ _ _ _) ?_ (fun j hj => fa 101 _ (by omega) (by omega)) eV) (h.1.2.2.2.2.2.eq (fun j => fk 19 j (by omega)) (fun j => fk 20 j (by omega)) (fa 101 3 (by omega) (by omega)) (fun j _ => fa 101 _ (by omega) (by omega)) (by omega))) (h.2.1.fr (fun p j hp => fk p j (by omega)) (fun p j hp => fa p j (by omega) (by omega))) (fun p i hp => fk p i (by omega)) (fun p i hp => fa p i (by omega) (by omega)) tG.rf (fa 101 2 (by omega) (by omega))
    · rw [fk 10 5 (by omega), fa 101 (32 + v) (by omega) (by omega)]; exact h.1.1.2.2.1 v a b
    · rw [fk 10 6 (by omega), fa 101 5 (by omega) (by omega)]; exact h.1.1.2.2.2.2.1.1
    · rw [zup_i (by omega), zup_same]
  · have ek : k_more κ 17 l = (-1, κ) := by unfold k_more; rw [if_neg e]
    have ea : a_add α l = (-1, a0 α) := by
      unfold a_add
      rw [if_pos (Classical.byContradiction (fun x => e (c1.mpr x)))]
    refine .mk (fun d => s_add d l d2 d1) (fun d => t_add d l d3 d1) (by decide) (by decide) (by rw [ek, ea]) ?_
    rw [ek, ea]; exact h.a0
theorem y_assume (h : zI k κ α τ) (l : Int32) : zCall E zI k κ α τ mX8_assume mX9_assume [.int l] := by
  have hr := h.1.2.2.2.2.2
  have hr0 := hr
  obtain ⟨D, d1, d2, d3, d4, d5, d6⟩ := hr
  obtain ⟨c1, c2⟩ := more_cond (l := l) h.1 hr0 d3 d1
  by_cases e : (k_hasLit κ l && (decide ((κ 19 1).toNatClampNeg < 8) && decide (κ 19 2 &&& kb l = 0))) = true
  · obtain ⟨hl, h8, hn, -⟩ := c2 e
    have ek : k_more κ 19 l = (nI (D + 1), k_put κ 19 l) := by unfold k_more; rw [if_pos e, d2, nI_add]
    have ea : a_assume α l = (nI (D + 1), zup (zup (a0 α) 101 (16 + D) l) 101 3 (nI (D + 1))) := by
      unfold a_assume
      rw [if_neg (c1.mp e), d3, nI_clamp (show D < 2 ^ 31 by omega)]
    refine .mk (fun d => s_assume d l d2 d1) (fun d => t_assume d l d3 d1) (by decide) (by decide) (by rw [ek, ea]) ?_
    rw [ek, ea]
    show zI (k + 1) (k_put κ 19 l) (zup (zup (a0 α) 101 (16 + D) l) 101 3 (nI (D + 1))) τ
    have fa : ∀ p i, ¬ (p = 100 ∧ i = 0) → ¬ (p = 101 ∧ (i = 3 ∨ i = 16 + D)) → zup (zup (a0 α) 101 (16 + D) l) 101 3 (nI (D + 1)) p i = α p i := fun p i x y => ((if_neg (by omega)).trans (if_neg (by omega))).trans (a0_p x)
    have fk : ∀ p i, ¬ (p = 19 ∨ p = 20) → k_put κ 19 l p i = κ p i := fun p i x => by unfold k_put; exact ((if_neg (by omega)).trans (if_neg (by omega))).trans (if_neg (by omega))
    have eV : aV (zup (zup (a0 α) 101 (16 + D) l) 101 3 (nI (D + 1))) = aV α := by unfold aV; rw [fa 101 0 (by omega) (by omega)]
    refine h.fr (h.1.small (fun p j x y _ _ => fk p j (by omega)) (fun j hj => fa 101 j (by omega) (by omega)) (fun v a b => ?_) ?_ (h.1.2.2.2.2.1.eq (fun j => fk 17 j (by omega)) (fun j => fk 18 j (by omega)) (fa 101 4 (by omega) (by omega)) (fun j _ => fa 101 _ (by omega) (by omega)) (by omega)) (hr0.more (.inr rfl) d3 hl h.1.1.1.2.1.1.2 h8 hn (zup_same _ _ _ _) ?_ (fun j hj => fa 101 _ (by omega) (by omega)) eV)) (h.2.1.fr (fun p j hp => fk p j (by omega)) (fun p j hp => fa p j (by omega) (by omega))) (fun p i hp => fk p i (by omega)) (fun p i hp => fa p i (by omega) (by omega)) tG.rf (fa 101 2 (by omega) (by omega))
    · rw [fk 10 5 (by omega), fa 101 (32 + v) (by omega) (by omega)]; exact h.1.1.2.2.1 v a b
    · rw [fk 10 6 (by omega), fa 101 5 (by omega) (by omega)]; exact h.1.1.2.2.2.2.1.1
    · rw [zup_i (by omega), zup_same]
  · have ek : k_more κ 19 l = (-1, κ) := by unfold k_more; rw [if_neg e]
    have ea : a_assume α l = (-1, a0 α) := by
      unfold a_assume
      rw [if_pos (Classical.byContradiction (fun x => e (c1.mpr x)))]
    refine .mk (fun d => s_assume d l d2 d1) (fun d => t_assume d l d3 d1) (by decide) (by decide) (by rw [ek, ea]) ?_
    rw [ek, ea]; exact h.a0
end C3
