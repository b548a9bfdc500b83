/-! all models: both alike -/
section WO
variable {E : zEnv} {κ α : Nat → Nat → Int32} {τ : (Nat → Nat → Int64) × (Nat → Nat)} {k : Nat}
theorem held_is {p m : Int32} {w i : Nat} (hw : w < 64) (hi : i < 64) : ∀ n, n ≤ 12 → (lb (zit (k_hdF p m w) 1 n 0) i = true ↔ ∃ v, 1 ≤ v ∧ v ≤ n ∧ ((kt p v = true ∧ (64 * w + i).testBit (v - 1) = true) ∨ (kt p v = false ∧ kt m v = true ∧ (64 * w + i).testBit (v - 1) = false)))
  | 0, _ => by
    show lb 0 i = true ↔ _
    rw [lb_0]
    exact ⟨fun x => absurd x (by decide), fun ⟨v, a, b, _⟩ => by omega⟩
  | n + 1, hn => by
    have ih := held_is (p := p) (m := m) hw hi n (by omega)
    rw [zit_succ]
    generalize zit (k_hdF p m w) 1 n 0 = h at ih
    have c := lb_col (v := 1 + n) (w := w) (i := i) (by omega) (by omega) hw hi
    have step : lb (k_hdF p m w (1 + n) h) i = true ↔ (lb h i = true ∨ ((kt p (1 + n) = true ∧ (64 * w + i).testBit (1 + n - 1) = true) ∨ (kt p (1 + n) = false ∧ kt m (1 + n) = true ∧ (64 * w + i).testBit (1 + n - 1) = false))) := by
      unfold k_hdF
      cases x : kt p (1 + n) with
      | true =>
        rw [if_neg ((kt_niff _ (by omega) (by omega)).mpr x), lb_or, c, Bool.or_eq_true]
        exact ⟨fun y => y.imp id (fun z => .inl ⟨rfl, z⟩), fun y => y.imp id (fun z => z.elim (fun u => u.2) (fun u => absurd u.1 (by decide)))⟩
      | false =>
        rw [if_pos ((kt_iff _ (by omega) (by omega)).mpr x)]
        cases y : kt m (1 + n) with
        | false =>
          rw [if_pos ((kt_iff _ (by omega) (by omega)).mpr y)]
          exact ⟨.inl, fun z => z.elim id (fun u => u.elim (fun a => absurd a.1 (by decide)) (fun a => absurd a.2.1 (by decide)))⟩
        | true =>
          rw [if_neg ((kt_niff _ (by omega) (by omega)).mpr y), lb_or, lb_xn _ hi, c, Bool.or_eq_true, Bool.not_eq_true']
          exact ⟨fun z => z.imp id (fun u => .inr ⟨rfl, rfl, u⟩), fun z => z.imp id (fun u => u.elim (fun a => absurd a.1 (by decide)) (fun a => a.2.2))⟩
    rw [step, ih]
    constructor
    · rintro (⟨v, a, b, d⟩ | d)
      · exact ⟨v, a, by omega, d⟩
      · exact ⟨1 + n, by omega, by omega, d⟩
    · rintro ⟨v, a, b, d⟩
      by_cases e : v = 1 + n
      · subst e; exact .inr d
      · exact .inl ⟨v, a, by omega, d⟩
theorem mb_lit {s : Nat} {l : Int32} (hs : s < 2 ^ 31) (hl : lok 12 l) : a_mb (nI s) l = true ↔ (∃ v, 1 ≤ v ∧ v ≤ 12 ∧ ((l = nI v ∧ s.testBit (v - 1) = true) ∨ (l = -(nI v) ∧ s.testBit (v - 1) = false))) := by
  obtain ⟨v, h1, h2, d⟩ := hl
  have N := zv_tab (v := v) (by omega) h1
  have T1 := zv_tab1 v (by omega)
  have inj : ∀ u, 1 ≤ u → u ≤ 12 → (nI v = nI u ↔ v = u) := fun u a b => nI_eq (by omega) (by omega)
  unfold a_mb
  rcases d with rfl | rfl
  · rw [T1.1, decide_eq_true N.1, beq_iff_eq, decide_eq_true_eq, mb_is hs h1 h2]
    constructor
    · exact fun x => ⟨v, h1, h2, .inl ⟨rfl, x⟩⟩
    · rintro ⟨u, a, b, ⟨c, d⟩ | ⟨c, d⟩⟩
      · rw [(inj u a b).mp c]; exact d
      · exfalso
        have := congrArg zv c; rw [zvn (by omega), zvm (by omega)] at this
        subst this; exact N.2.2.2.2.1 c
  · rw [T1.2.1, decide_eq_false N.2.1, beq_iff_eq, decide_eq_false_iff_not, mb_is hs h1 h2, Bool.not_eq_true]
    constructor
    · exact fun x => ⟨v, h1, h2, .inr ⟨rfl, x⟩⟩
    · rintro ⟨u, a, b, ⟨c, d⟩ | ⟨c, d⟩⟩
      · exfalso
        have := congrArg zv c; rw [zvm (by omega), zvn (by omega)] at this
        subst this; exact N.2.2.2.2.1 c.symm
      · have := congrArg zv c; rw [zvm (by omega), zvm (by omega)] at this
        rw [this]; exact d
theorem held_cl (h : stR κ α τ) (h12 : aV α ≤ 12) {c w i : Nat} (hc : c < aN α) (hw : w < 64) (hi : i < 64) : lb (k_held (κ 12 c) (κ 13 c) w) i = (zfind (fun j => a_mb (nI (64 * w + i)) (aL α c j)) 0 (aS α c)).isSome := by
  have hW := h.1.1.2.1
  obtain ⟨m1, -, -, -⟩ := h.1.1.1.2 c hc
  have hd := h.1.1.2.2.1 c hc
  have lk : ∀ j, j < aS α c → lok 12 (aL α c j) := fun j hj => (hW.2.2.2 c hc j hj).mono h12
  unfold k_held
  rw [Bool.eq_iff_iff, held_is hw hi 12 (Nat.le_refl _), zfind_isSome]
  constructor
  · rintro ⟨v, v1, v2, ⟨a, b⟩ | ⟨a, b, d⟩⟩
    · obtain ⟨j, j1, j2⟩ := ((m1.2.2 v v1 (by omega)).1).mp a
      exact ⟨j, Nat.zero_le _, by omega, (mb_lit (by omega) (lk j j1)).mpr ⟨v, v1, v2, .inl ⟨j2, b⟩⟩⟩
    · obtain ⟨j, j1, j2⟩ := ((m1.2.2 v v1 (by omega)).2).mp b
      exact ⟨j, Nat.zero_le _, by omega, (mb_lit (by omega) (lk j j1)).mpr ⟨v, v1, v2, .inr ⟨j2, d⟩⟩⟩
  · rintro ⟨j, -, j1, j2⟩
    obtain ⟨v, v1, v2, ⟨a, b⟩ | ⟨a, b⟩⟩ := (mb_lit (by omega) (lk j (by omega))).mp j2
    · exact ⟨v, v1, v2, .inl ⟨((m1.2.2 v v1 (by omega)).1).mpr ⟨j, by omega, a⟩, b⟩⟩
    · refine ⟨v, v1, v2, .inr ⟨?_, ((m1.2.2 v v1 (by omega)).2).mpr ⟨j, by omega, a⟩, b⟩⟩
      cases x : kt (κ 12 c) v with
      | false => rfl
      | true =>
        obtain ⟨j', j3, j4⟩ := ((m1.2.2 v v1 (by omega)).1).mp x
        have ez : zv (aL α c j) = zv (aL α c j') := by rw [a, j4, zvn (by omega), zvm (by omega)]
        have ej : j = j' := by
          rcases Nat.lt_trichotomy j j' with z | z | z
          · exact absurd ez (hd j j' z j3)
          · exact z
          · exact absurd ez.symm (hd j' j z (by omega))
        subst ej
        exact absurd (j4.symm.trans a) (zv_tab (v := v) (by omega) v1).2.2.2.2.1
/-- told clauses hold in a world, so far -/
def toldH (α : Nat → Nat → Int32) (s m : Nat) : Bool := (zfind (fun c => !a_holds α (nI s) c) 0 m).isNone
theorem toldH_iff {s m : Nat} : toldH α s m = true ↔ ∀ c, c < m → a_holds α (nI s) c = true := by
  unfold toldH
  constructor
  · intro h c hc
    cases e : zfind (fun c => !a_holds α (nI s) c) 0 m with
    | some x => rw [e] at h; exact absurd h (by simp)
    | none =>
      have := zfind_none e c (Nat.zero_le _) (by omega)
      cases y : a_holds α (nI s) c with
      | true => rfl
      | false => rw [y] at this; exact absurd this (by decide)
  · intro h
    rw [zfind_isn (fun c _ hc => by rw [h c (by omega)]; rfl)]; rfl
theorem sift_loop (h : stR κ α τ) (h12 : aV α ≤ 12) {U : Nat} (hU : U ≤ 64) (τ0 : (Nat → Nat → Int64) × (Nat → Nat)) : ∀ m, m ≤ aN α → ∀ w, w < U → ∀ i, i < 64 → lb ((zit (k_sfF κ U) 0 m τ0).1 82 w) i = (lb (τ0.1 82 w) i && toldH α (64 * w + i) m)
  | 0, _, w, hw, i, hi => by
    have : toldH α (64 * w + i) 0 = true := toldH_iff.mpr (fun c hc => by omega)
    rw [this, Bool.and_true]; rfl
  | m + 1, hm, w, hw, i, hi => by
    have ih := sift_loop h h12 hU τ0 m (by omega) w hw i hi
    rw [zit_succ, Nat.zero_add]
    generalize zit (k_sfF κ U) 0 m τ0 = τ1 at ih
    have st : toldH α (64 * w + i) (m + 1) = (toldH α (64 * w + i) m && a_holds α (nI (64 * w + i)) m) := by
      rw [Bool.eq_iff_iff, Bool.and_eq_true, toldH_iff, toldH_iff]
      constructor
      · exact fun x => ⟨fun c hc => x c (by omega), x m (by omega)⟩
      · rintro ⟨x, y⟩ c hc
        by_cases e : c = m
        · subst e; exact y
        · exact x c (by omega)
    have lp := h.lp (c := m) (by omega)
    unfold k_sfF
    rw [st]
    by_cases e : κ 14 m = 0
    · rw [if_pos e]
      have el : a_learnt α m = false := by rw [← lp]; exact decide_eq_false (fun x => x e)
      have eh : a_holds α (nI (64 * w + i)) m = lb (k_held (κ 12 m) (κ 13 m) w) i := by
        unfold a_holds; rw [el, Bool.false_or, held_cl h h12 (by omega) (by omega) hi]
      show lb (if 82 = 82 ∧ w < U then τ1.1 82 w &&& k_held (κ 12 m) (κ 13 m) w else τ1.1 82 w) i = _
      rw [if_pos ⟨rfl, hw⟩, lb_and, ih, eh, Bool.and_assoc]
    · rw [if_neg e]
      have el : a_learnt α m = true := by rw [← lp]; exact decide_eq_true e
      have eh : a_holds α (nI (64 * w + i)) m = true := by unfold a_holds; rw [el]; rfl
      rw [eh, Bool.and_true]; exact ih
theorem use_tab : ∀ V < 13, k_use V ≤ 64 ∧ 2 ^ V ≤ 64 * k_use V ∧ (6 ≤ V → 2 ^ V = 64 * k_use V) ∧ 1 ≤ k_use V := by decide
/-- the worlds that are left are the models -/
theorem sift_is (h : stR κ α τ) (h12 : aV α ≤ 12) {w i : Nat} (hw : w < k_use (aV α)) (hi : i < 64) : lb ((k_sift κ τ).1 82 w) i = (decide (64 * w + i < 2 ^ aV α) && a_isModel α (nI (64 * w + i))) := by
  obtain ⟨u1, u2, u3, u4⟩ := use_tab (aV α) (by omega)
  unfold k_sift
  rw [h.1.V, h.1.1.1.n, sift_loop h h12 u1 _ (aN α) (Nat.le_refl _) w hw i hi]
  refine congrArg (fun b => b && a_isModel α (nI (64 * w + i))) ?_
  show lb (if 82 = 82 ∧ w < k_use (aV α) then k_ful (aV α) else τ.1 82 w) i = _
  rw [if_pos ⟨rfl, hw⟩]
  by_cases e : aV α < 6
  · have e1 : k_use (aV α) = 1 := by unfold k_use; rw [show aV α - 6 = 0 from by omega]
    have e2 : w = 0 := by omega
    subst e2
    rw [Nat.mul_zero, Nat.zero_add]; exact ful_tab _ e i hi
  · have : k_ful (aV α) = -1 := by unfold k_ful; rw [if_neg e]
    rw [this, lb_m1 hi, decide_eq_true (by rw [u3 (by omega)]; omega)]
def moQ (α : Nat → Nat → Int32) (s : Nat) : Bool := decide (s < 2 ^ aV α) && a_isModel α (nI s)
theorem many_loop (h : stR κ α τ) (h12 : aV α ≤ 12) : ∀ m, m ≤ k_use (aV α) → zit (k_hmF (k_sift κ τ)) 0 m (nI 0) = nI (zcnt (moQ α) 0 (64 * m))
  | 0, _ => rfl
  | m + 1, hm => by
    rw [zit_succ, Nat.zero_add, many_loop h h12 m (by omega)]
    unfold k_hmF
    rw [lb_pop, nI_add]
    refine congrArg nI ?_
    rw [Nat.mul_succ, zcnt_add, Nat.zero_add]
    refine congrArg _ ?_
    rw [show 64 * m = 0 + 64 * m from (Nat.zero_add _).symm, zcnt_sh (moQ α) (64 * m) 64 0]
    refine zcnt_congr (fun i _ hi => ?_)
    rw [sift_is h h12 (by omega) (by omega), Nat.add_comm (64 * m) i]; rfl
theorem many_is (h : stR κ α τ) (h12 : aV α ≤ 12) : k_many (k_sift κ τ) (k_use (aV α)) = nI (zcnt (fun s => a_isModel α (nI s)) 0 (2 ^ aV α)) := by
  obtain ⟨u1, u2, u3, u4⟩ := use_tab (aV α) (by omega)
  unfold k_many
  rw [many_loop h h12 _ (Nat.le_refl _)]
  refine congrArg nI ?_
  rw [show 64 * k_use (aV α) = 2 ^ aV α + (64 * k_use (aV α) - 2 ^ aV α) from by omega, zcnt_add]
  rw [show zcnt (moQ α) (0 + 2 ^ aV α) (64 * k_use (aV α) - 2 ^ aV α) = 0 from zcnt_zero.mpr (fun j a b => by unfold moQ; rw [decide_eq_false (by omega)]; rfl), Nat.add_zero]
  exact zcnt_congr (fun j a b => by unfold moQ; rw [decide_eq_true (by omega)]; rfl)
theorem k_sift_g : tG τ (k_sift κ τ) := by
  have e : (k_sift κ τ).2 = τ.2 := k_sift_2
  unfold tG; rw [e]
  exact tG.rf (τ := τ)
theorem zI_wo (h : zI k κ α τ) : zI (k + 1) (k_wK κ) (a0 α) (k_wT κ τ) := by
  have fk : ∀ p, ¬ p = 7 → k_wK κ p = κ p := fun p hp => by
    unfold k_wK
    split
    · exact funext fun j => zup_p hp
    · rfl
  have ft : tG τ (k_wT κ τ) ∧ (k_wT κ τ).2 0 = τ.2 0 := by
    unfold k_wT
    split
    · exact ⟨k_sift_g, congrFun (k_sift_2 (κ := κ) (τ := τ)) 0⟩
    · exact ⟨tG.rf, rfl⟩
  exact h.same (fun p hp => fk p (by omega)) (fun p hp => funext fun j => a0_p (by omega)) (a0_p (by omega)) (a0_p (by omega)) ft.1 ft.2
theorem y_models (h : zI k κ α τ) : zCall E zI k κ α τ mX8_models mX9_models [] := by
  have hW := h.1.1.1.2.1
  have kW := h.1.1.1.2.2.2
  have eV := h.1.1.V
  refine .mk (fun d => s_models d (by rw [eV, h.1.1.2.1.1]; exact hW.1.1) (by rw [eV]; exact hW.1.2) kW.1.1 kW.1.2) (fun d => t_models d hW) (by decide) (by decide) ?_ (zI_wo h)
  unfold k_models a_models
  rw [eV]
  by_cases e : aV α ≤ 12
  · rw [if_pos e, if_pos e]; exact many_is h.1 e
  · rw [if_neg e, if_neg e]
theorem alike_is (h : stR κ α τ) (h12 : aV α ≤ 12) {v : Nat} (v1 : 1 ≤ v) (v2 : v ≤ 12) (so : Bool) : k_alike (k_sift κ τ) (k_use (aV α)) v so = true ↔ ∀ s, s < 2 ^ aV α → a_isModel α (nI s) = true → s.testBit (v - 1) = so := by
  obtain ⟨u1, u2, u3, u4⟩ := use_tab (aV α) (by omega)
  have wd : ∀ w, w < k_use (aV α) → (k_alB (k_sift κ τ) v so w = false ↔ ∀ i, i < 64 → moQ α (64 * w + i) = true → (64 * w + i).testBit (v - 1) = so) := fun w hw => by
    unfold k_alB
    rw [decide_eq_false_iff_not, Classical.not_not, lb_zero]
    refine forall_congr' (fun i => forall_congr' (fun hi => ?_))
    rw [lb_and, sift_is h h12 hw hi]
    have c := lb_col (v := v) (w := w) (i := i) v1 v2 (by omega) hi
    have e : lb (bif so then k_col v w ^^^ (-1) else k_col v w) i = !((64 * w + i).testBit (v - 1) == so) := by
      cases so with
      | true => show lb (k_col v w ^^^ (-1)) i = _; rw [lb_xn _ hi, c]; cases (64 * w + i).testBit (v - 1) <;> rfl
      | false => show lb (k_col v w) i = _; rw [c]; cases (64 * w + i).testBit (v - 1) <;> rfl
    rw [e]
    show (moQ α (64 * w + i) && _) = false ↔ _
    cases moQ α (64 * w + i) with
    | false => exact ⟨fun _ x => absurd x (by decide), fun _ => rfl⟩
    | true =>
      rw [Bool.true_and, Bool.not_eq_false', beq_iff_eq]
      exact ⟨fun x _ => x, fun x => x rfl⟩
  unfold k_alike
  constructor
  · intro x s hs hm
    cases e : zfind (k_alB (k_sift κ τ) v so) 0 (k_use (aV α)) with
    | some y => rw [e] at x; exact absurd x (by simp)
    | none =>
      have hw : s / 64 < k_use (aV α) := by omega
      have := (wd (s / 64) hw).mp (zfind_none e (s / 64) (Nat.zero_le _) (by omega)) (s % 64) (Nat.mod_lt _ (by decide))
      rw [show 64 * (s / 64) + s % 64 = s from by omega] at this
      exact this (by unfold moQ; rw [decide_eq_true hs, hm]; rfl)
  · intro x
    rw [zfind_isn (fun w _ hw => (wd w (by omega)).mpr (fun i hi hm => ?_))]
    · rfl
    · unfold moQ at hm
      rw [Bool.and_eq_true, decide_eq_true_eq] at hm
      exact x _ hm.1 hm.2
theorem allA_loop {τ' : (Nat → Nat → Int64) × (Nat → Nat)} {U : Nat} {so : Bool} : ∀ m, m ≤ 30 → kz (zit (k_aaF τ' U so) 1 m (nI 0)) ∧ ∀ v, 1 ≤ v → v ≤ 30 → (kt (zit (k_aaF τ' U so) 1 m (nI 0)) v = true ↔ v ≤ m ∧ k_alike τ' U v so = true)
  | 0, _ => ⟨kz_n0, fun v v1 _ => by
    show kt (nI 0) v = true ↔ _
    rw [kt_n0]; exact ⟨fun x => absurd x (by decide), fun x => by omega⟩⟩
  | m + 1, hm => by
    obtain ⟨i1, i2⟩ := allA_loop (τ' := τ') (U := U) (so := so) m (by omega)
    rw [zit_succ]
    generalize zit (k_aaF τ' U so) 1 m (nI 0) = x at i1 i2
    unfold k_aaF
    cases e : k_alike τ' U (1 + m) so with
    | false =>
      refine ⟨kz_or i1 kz_n0, fun v v1 v2 => ?_⟩
      show kt (x ||| nI 0) v = true ↔ _
      rw [kt_or, kt_n0, Bool.or_false, i2 v v1 v2]
      refine ⟨fun y => ⟨by omega, y.2⟩, fun y => ⟨?_, y.2⟩⟩
      rcases Nat.lt_or_ge m v with z | z
      · have : v = 1 + m := by omega
        subst this; rw [e] at y; exact absurd y.2 (by decide)
      · exact z
    | true =>
      refine ⟨kz_or i1 (kz_kb (by omega) (by omega)), fun v v1 v2 => ?_⟩
      show kt (x ||| kb (nI (1 + m))) v = true ↔ _
      rw [kt_or, kt_kb (by omega) (by omega) v1 v2, Bool.or_eq_true, decide_eq_true_eq, i2 v v1 v2]
      constructor
      · rintro (y | y)
        · exact ⟨by omega, y.2⟩
        · subst y; exact ⟨by omega, e⟩
      · rintro ⟨y, z⟩
        by_cases ev : 1 + m = v
        · exact .inr ev
        · exact .inl ⟨by omega, z⟩
theorem fx_loop {so : Bool} (h12 : aV α ≤ 12) : ∀ m, m ≤ 2 ^ aV α → ((zit (a_fxF α so) 0 m (false, nI (2 ^ aV α - 1))).1 = true ↔ ∃ s, s < m ∧ a_isModel α (nI s) = true) ∧ kz (zit (a_fxF α so) 0 m (false, nI (2 ^ aV α - 1))).2 ∧ ∀ v, 1 ≤ v → v ≤ 30 → (kt (zit (a_fxF α so) 0 m (false, nI (2 ^ aV α - 1))).2 v = true ↔ v ≤ aV α ∧ ∀ s, s < m → a_isModel α (nI s) = true → s.testBit (v - 1) = so)
  | 0, _ => by
    refine ⟨⟨fun x => absurd (show false = true from x) (by decide), fun ⟨s, x, _⟩ => absurd x (by omega)⟩, fun i hi => ?_, fun v v1 v2 => ?_⟩
    · show (nI (2 ^ aV α - 1)).toBitVec.getLsbD i = false
      rw [show (nI (2 ^ aV α - 1)).toBitVec = BitVec.ofNat 32 (2 ^ aV α - 1) from rfl, BitVec.getLsbD_ofNat, Nat.testBit_two_pow_sub_one, decide_eq_false (show ¬ i < aV α by omega), Bool.and_false]
    · show kt (nI (2 ^ aV α - 1)) v = true ↔ _
      rw [kt_nI v1 (by omega), Nat.testBit_two_pow_sub_one, decide_eq_true_eq]
      exact ⟨fun x => ⟨by omega, fun s hs => by omega⟩, fun x => by omega⟩
  | m + 1, hm => by
    have hp : 2 ^ aV α ≤ 4096 := Nat.pow_le_pow_right (by decide) (show aV α ≤ 12 from h12)
    obtain ⟨i1, i2, i3⟩ := fx_loop (so := so) h12 m (by omega)
    rw [zit_succ, Nat.zero_add]
    generalize zit (a_fxF α so) 0 m (false, nI (2 ^ aV α - 1)) = x at i1 i2 i3
    unfold a_fxF
    by_cases e : a_isModel α (nI m) = true
    · rw [if_pos e]
      refine ⟨⟨fun _ => ⟨m, by omega, e⟩, fun _ => rfl⟩, kz_and i2 _, fun v v1 v2 => ?_⟩
      show kt (x.2 &&& (if so = true then nI m else nI m ^^^ (-1))) v = true ↔ _
      have b : kt (if so = true then nI m else nI m ^^^ (-1)) v = (m.testBit (v - 1) == so) := by
        cases so with
        | true => rw [if_pos rfl, kt_nI v1 (by omega)]; cases m.testBit (v - 1) <;> rfl
        | false => rw [if_neg (by decide), kt_xn _ (by omega) v1, kt_nI v1 (by omega)]; cases m.testBit (v - 1) <;> rfl
      rw [kt_and, b, Bool.and_eq_true, i3 v v1 v2, beq_iff_eq]
      constructor
      · rintro ⟨⟨a, c⟩, d⟩
        refine ⟨a, fun s hs hq => ?_⟩
        by_cases es : s = m
        · subst es; exact d
        · exact c s (by omega) hq
      · rintro ⟨a, c⟩
        exact ⟨⟨a, fun s hs hq => c s (by omega) hq⟩, c m (by omega) e⟩
    · rw [if_neg e]
      refine ⟨i1.trans ⟨fun ⟨s, a, c⟩ => ⟨s, by omega, c⟩, fun ⟨s, a, c⟩ => ⟨s, ?_, c⟩⟩, i2, fun v v1 v2 => (i3 v v1 v2).trans (and_congr_right (fun _ => ⟨fun z s hs hq => z s ?_ hq, fun z s hs hq => z s (by omega) hq⟩))⟩
      · rcases Nat.lt_or_ge s m with y | y
        · exact y
        · have : s = m := by omega
          subst this; exact absurd c e
      · rcases Nat.lt_or_ge s m with y | y
        · exact y
        · have : s = m := by omega
          subst this; exact absurd hq e
theorem y_fixed (h : zI k κ α τ) (so : Bool) : zCall E zI k κ α τ mX8_fixed mX9_fixed [.int (zbo so)] := by
  have hW := h.1.1.1.2.1
  have kW := h.1.1.1.2.2.2
  have eV := h.1.1.V
  refine .mk (fun d => s_fixed d so (by rw [eV, h.1.1.2.1.1]; exact hW.1.1) (by rw [eV]; exact hW.1.2) kW.1.1 kW.1.2) (fun d => t_fixed d so hW) (by decide) (by decide) ?_ (zI_wo h)
  unfold k_fixed a_fixed
  rw [eV]
  by_cases e : aV α ≤ 12
  · have hp : 2 ^ aV α ≤ 4096 := Nat.pow_le_pow_right (by decide) (show aV α ≤ 12 from e)
    obtain ⟨f1, f2, f3⟩ := fx_loop (α := α) (so := so) e (2 ^ aV α) (Nat.le_refl _)
    rw [if_pos e, if_pos e, many_is h.1 e, pk_sub (Nat.one_le_two_pow)]
    have zc := zcnt_le (fun s => a_isModel α (nI s)) (2 ^ aV α) 0
    by_cases hm : ∃ s, s < 2 ^ aV α ∧ a_isModel α (nI s) = true
    · have nz : ¬ nI (zcnt (fun s => a_isModel α (nI s)) 0 (2 ^ aV α)) = 0 := fun x => by
        have x := (nI_eq (b := 0) (by omega) (by decide)).mp x
        obtain ⟨s, s1, s2⟩ := hm
        have := zcnt_zero.mp x s (Nat.zero_le _) (by omega)
        rw [s2] at this; exact absurd this (by decide)
      rw [if_neg nz, if_pos (f1.mpr hm)]
      obtain ⟨a1, a2⟩ := allA_loop (τ' := k_sift κ τ) (U := k_use (aV α)) (so := so) (aV α) (by omega)
      refine kz_ext a1 f2 (fun v v1 v2 => ?_)
      rw [Bool.eq_iff_iff]
      refine (a2 v v1 v2).trans (Iff.trans (and_congr_right (fun hv => ?_)) (f3 v v1 v2).symm)
      exact alike_is h.1 e v1 (by omega) so
    · have z0 : nI (zcnt (fun s => a_isModel α (nI s)) 0 (2 ^ aV α)) = 0 := by
        rw [zcnt_zero.mpr (fun s _ hs => ?_)]
        · rfl
        · cases x : a_isModel α (nI s) with
          | false => rfl
          | true => exact absurd ⟨s, by omega, x⟩ hm
      rw [if_pos z0, if_neg (fun x => hm (f1.mp x))]
  · rw [if_neg e, if_neg e]
end WO
