/-! what follows: both alike -/
section FO
variable {E : zEnv} {κ κ' α α' : Nat → Nat → Int32} {τ τ' : (Nat → Nat → Int64) × (Nat → Nat)} {T : Nat → Int32} {L : Nat → Nat} {R : Nat → Int32} {t k : Nat}
def zFo (κ α : Nat → Nat → Int32) (T : Nat → Int32) (L : Nat → Nat) (R : Nat → Int32) (t : Nat) : Prop := cR κ α ∧ aW α ∧ aWd α ∧ κ 11 5 = nI (kN κ) ∧ aT α T L R t 0 ∧ kT κ T L R t 0 ∧ tW (aV α) T t
theorem cR.fr (h : cR κ α) (ek : ∀ p, 11 ≤ p → p ≤ 16 → κ' p = κ p) (ea : α' 101 = α 101) : cR κ' α' := by
  obtain ⟨x, y⟩ := h.of (κ' := κ') ek
  unfold cR aN aS aL
  rw [ea]
  exact ⟨x, y⟩
theorem a_first_mono (h : aT α T L R t 0) (hw : tW 30 T t) (hW : aW α) {T' : Nat → Int32} {L' : Nat → Nat} {R' : Nat → Int32} {t' : Nat} (h' : aT α' T' L' R' t' 0) (hw' : tW 30 T' t') (ea : α' 101 = α 101) (hT : ∀ i, i < t → ∃ j, j < t' ∧ T' j = T i) (hs : (a_first α 0).isSome = true) : (a_first α' 0).isSome = true := by
  cases e : a_first α 0 with
  | none => rw [e] at hs; exact absurd hs (by decide)
  | some c =>
    obtain ⟨c1, c2, c3⟩ := a_first_is e
    have hW' : aW α' := by unfold aW aV aN aS aL at *; rw [ea]; exact hW
    have eN : aN α' = aN α := by unfold aN; rw [ea]
    have eS : aS α' c = aS α c := by unfold aS; rw [ea]
    have eL : aL α' c = aL α c := by unfold aL; rw [ea]
    have o0 := (a_open0 hW c1).mp c3
    have o1 : a_open α' c = 0 := (a_open0 hW' (by rw [eN]; exact c1)).mpr (fun j hj => by
      rw [eS] at hj
      rw [eL]
      obtain ⟨i, i1, i2⟩ := (h.fls hw (hW.lok30 c1 hj)).mp (o0 j hj)
      obtain ⟨m, m1, m2⟩ := hT i i1
      exact (h'.fls hw' (hW.lok30 c1 hj)).mpr ⟨m, m1, m2.trans i2⟩)
    cases e' : a_first α' 0 with
    | some _ => rfl
    | none => exact absurd o1 (a_first_no e' (by rw [eN]; exact c1) (by unfold a_gone at c2 ⊢; rw [ea]; exact c2))
theorem fo_both : ∀ n t κ α T L R, t + n = 30 → zFo κ α T L R t → kdOK n κ ∧ ∃ (T' : Nat → Int32) (t' : Nat), t' ≤ 30 ∧ k_daL n κ 3 2 = nI t' ∧ (∀ i, i < t' → k_daL n κ 70 i = T' i) ∧ (k_daL n κ 3 9 = -1 ↔ (a_foL (n + 1) (a_first α 0).isSome α).1 = false) ∧ (a_foL (n + 1) (a_first α 0).isSome α).2 100 10 = nI t' ∧ (∀ i, i < t' → (a_foL (n + 1) (a_first α 0).isSome α).2 109 i = T' i) ∧
    (∀ p, ¬ p = 3 → ¬ (70 ≤ p ∧ p ≤ 72) → k_daL n κ p = κ p) ∧ (∀ p j, ¬ (p = 100 ∧ j = 10) → ¬ (105 ≤ p ∧ p ≤ 109) → (a_foL (n + 1) (a_first α 0).isSome α).2 p j = α p j) := by
  intro n
  have look : ∀ t κ α (T : Nat → Int32) (L : Nat → Nat) (R : Nat → Int32), zFo κ α T L R t → a_first α 1 = none → ∃ (T' : Nat → Int32) (t' : Nat), t' ≤ 30 ∧ k_look κ 3 2 = nI t' ∧ (∀ i, i < t' → k_look κ 70 i = T' i) ∧ (k_look κ 3 9 = -1 ↔ (a_first α 0).isSome = false) ∧ α 100 10 = nI t' ∧ (∀ i, i < t' → α 109 i = T' i) ∧ (∀ p, ¬ p = 3 → ¬ (70 ≤ p ∧ p ≤ 72) → k_look κ p = κ p) ∧ (∀ p j, ¬ (p = 100 ∧ j = 10) → ¬ (105 ≤ p ∧ p ≤ 109) → α p j = α p j) := fun t κ α T L R hz _ => by
    obtain ⟨h1, h2, h3, h4, h5, h6, h7⟩ := hz
    have w30 := h7.to30 h2.1.2
    have as := zT_asR w30 h5 h6
    have cl := h1.clash h2 as
    refine ⟨T, t, w30.1, (k_look_i (by decide) (by decide)).trans h6.1.1, fun i hi => by rw [k_look_p (by decide)]; exact (h6.2.1 i hi).1, ?_, h5.1.1, fun i hi => (h5.2.1 i hi).1, fun p x y => k_look_p x, fun _ _ _ _ => rfl⟩
    have e9 : k_look κ 3 9 = zon (a_first α 0) := by unfold k_look k_lk; rw [zup_i (by decide), zup_same, cl]
    rw [e9]
    cases e : a_first α 0 with
    | none => exact ⟨fun _ => rfl, fun _ => rfl⟩
    | some c =>
      obtain ⟨c1, -⟩ := a_first_is e
      have := h2.2.1.2
      exact ⟨fun x => absurd x (m3_ne (by omega)).1, fun x => absurd x (by simp)⟩
  induction n with
  | zero =>
    intro t κ α T L R ht hz
    have hz0 := hz
    obtain ⟨h1, h2, h3, h4, h5, h6, h7⟩ := hz
    have w30 := h7.to30 h2.1.2
    have no : a_first α 1 = none := by
      cases e : a_first α 1 with
      | none => rfl
      | some c =>
        obtain ⟨c1, c2, c3⟩ := a_first_is e
        obtain ⟨j, j1, j2, j3, j4⟩ := a_one h2 c1 c3
        have hlV := h2.2.2.2 c c1 j j1
        obtain ⟨g1, g2, -⟩ := hlV.is h2.1.2
        have := h7.lt h2.1.2 g1 g2 (h5.fresh (h2.lok30 c1 j1) j3)
        have := h2.1.2
        omega
    have ef : a_foL (0 + 1) (a_first α 0).isSome α = ((a_first α 0).isSome, α) := by unfold a_foL; rw [no]
    refine ⟨⟨h4, by rw [h1.n]; exact h2.2.1.2⟩, ?_⟩
    rw [ef]
    exact look t κ α T L R hz0 no
  | succ n ih =>
    intro t κ α T L R ht hz
    have hz0 := hz
    obtain ⟨h1, h2, h3, h4, h5, h6, h7⟩ := hz
    have w30 := h7.to30 h2.1.2
    have as := zT_asR w30 h5 h6
    have dr := h1.drawn h2 h3 as
    cases e : a_first α 1 with
    | none =>
      have ef : a_foL (n + 1 + 1) (a_first α 0).isSome α = ((a_first α 0).isSome, α) := by unfold a_foL; rw [e]
      have ek : k_daL (n + 1) κ = k_look κ := by unfold k_daL; rw [dr, e]
      refine ⟨⟨⟨h4, by rw [h1.n]; exact h2.2.1.2⟩, fun c hc => by rw [dr, e] at hc; exact absurd hc (by simp)⟩, ?_⟩
      rw [ef, ek]
      exact look t κ α T L R hz0 e
    | some c =>
      obtain ⟨c1, c2, c3⟩ := a_first_is e
      obtain ⟨j, j1, j2, j3, j4⟩ := a_one h2 c1 c3
      have el := h1.olit h2 h3 as c1 c3
      have hl := h2.lok30 c1 j1
      have hlV := h2.2.2.2 c c1 j j1
      have hf := h5.fresh hl j3
      have ht30 : t < 30 := by omega
      have hkl : kT (k_look κ) T L R t 0 := h6.of (fun p a b => k_look_p (by omega)) (k_look_i (by decide) (by decide)) (k_look_i (by decide) (by decide)) (k_look_i (by decide) (by decide)) ((k_look_i (by decide) (by decide)).trans h6.1.2)
      have A1 := h5.put (r := nI c) w30 hl hf ht30
      have K1 := hkl.put (r := nI c) w30 hl hf ht30
      have e101 : a_comes α (aL α c j) (nI c) 101 = α 101 := funext fun i => a_comes_at (by omega)
      have kp : ∀ p, ¬ p = 3 → ¬ (70 ≤ p ∧ p ≤ 72) → k_sput (k_look κ) (aL α c j) (nI c) p = κ p := fun p x y => (k_sput_p x (by omega) (by omega) (by omega)).trans (k_look_p x)
      have z1 : zFo (k_sput (k_look κ) (aL α c j) (nI c)) (a_comes α (aL α c j) (nI c)) (zpt T t (aL α c j)) (zpt L t 0) (zpt R t (nI c)) (t + 1) := by
        refine ⟨h1.fr (fun p a b => kp p (by omega) (by omega)) e101, ?_, ?_, ?_, A1, K1, ?_⟩
        · unfold aW aV aN aS aL at *; rw [e101]; exact h2
        · unfold aWd aN aS aL at *; rw [e101]; exact h3
        · unfold kN at *; rw [kp 11 (by decide) (by decide)]; exact h4
        · rw [show aV (a_comes α (aL α c j) (nI c)) = aV α from by unfold aV; rw [e101]]; exact h7.put hlV hf ht30
      obtain ⟨i0, T', t', i1, i2, i3, i4, i5, i6, i7, i8⟩ := ih (t + 1) _ _ _ _ _ (by omega) z1
      have mono : (a_first α 0).isSome = true → (a_first (a_comes α (aL α c j) (nI c)) 0).isSome = true := a_first_mono h5 w30 h2 A1 (w30.put hl hf ht30) e101 (fun i hi => ⟨i, by omega, zpt_lt _ _ hi⟩)
      have ef : a_foL (n + 1 + 1) (a_first α 0).isSome α = a_foL (n + 1) (a_first (a_comes α (aL α c j) (nI c)) 0).isSome (a_comes α (aL α c j) (nI c)) := by
        rw [show a_foL (n + 1 + 1) (a_first α 0).isSome α = (match a_first α 1 with
          | none => ((a_first α 0).isSome, α)
          | some c => a_foL (n + 1) ((a_first α 0).isSome || (a_first (a_comes α (a_openOne α c) (nI c)) 0).isSome) (a_comes α (a_openOne α c) (nI c))) from rfl, e]
        show a_foL (n + 1) ((a_first α 0).isSome || (a_first (a_comes α (a_openOne α c) (nI c)) 0).isSome) (a_comes α (a_openOne α c) (nI c)) = _
        rw [j2]
        refine congrArg (fun b => a_foL (n + 1) b (a_comes α (aL α c j) (nI c))) ?_
        cases x : (a_first α 0).isSome with
        | false => rfl
        | true => rw [mono x]; rfl
      have ek : k_daL (n + 1) κ = k_daL n (k_sput (k_look κ) (aL α c j) (nI c)) := by
        rw [show k_daL (n + 1) κ = (match k_drawn κ with
          | none => k_look κ
          | some c => k_daL n (k_sput (k_look κ) (k_olit κ c) (nI c))) from rfl, dr, e]
        show k_daL n (k_sput (k_look κ) (k_olit κ c) (nI c)) = _
        rw [el, j2]
      refine ⟨⟨⟨h4, by rw [h1.n]; exact h2.2.1.2⟩, fun c' hc => ?_⟩, T', t', i1, ?_⟩
      · rw [dr, e] at hc
        have hc := Option.some.inj hc
        subst hc
        rw [el, j2]
        exact ⟨⟨hl, t, ht30, h6.1.1⟩, i0⟩
      · rw [ef, ek]
        exact ⟨i2, i3, i4, i5, i6, fun p x y => (i7 p x y).trans (kp p x y), fun p j' x y => (i8 p j' x y).trans (a_comes_at (by omega))⟩
theorem fo_start (h : stR κ α τ) : zFo (k_emt κ) (a_emp (a0 α)) (fun _ => 0) (fun _ => 0) (fun _ => 0) 0 := by
  obtain ⟨c1, c2, c3, c4⟩ := h.1.1
  have ho : ∀ β : Nat → Nat → Int32, zoff [105] β (a_empL 0 31 β) := fun β => zit_off _ (fun k a => zoff.rf.up (by decide)) _ _ _
  have e101 : a_emp (a0 α) 101 = α 101 := funext fun j => by unfold a_emp; rw [(ho _).at (by decide), zup_p (by decide), zup_p (by decide), a0_p (by omega)]
  have kp : ∀ p, ¬ p = 3 → k_emt κ p = κ p := fun p hp => funext fun j => by unfold k_emt; rw [zup_p hp, zup_p hp, zup_p hp, zup_p hp, zup_p hp, zup_p hp, zup_p hp]
  refine ⟨c1.fr (fun p a b => kp p (by omega)) e101, ?_, ?_, ?_, ⟨⟨?_, ?_⟩, fun i hi => by omega, fun v a b _ => ?_⟩, ⟨⟨?_, ?_⟩, fun i hi => by omega, fun v a b => ?_⟩, tW_0⟩
  · unfold aW aV aN aS aL at *; rw [e101]; exact c2
  · unfold aWd aN aS aL at *; rw [e101]; exact c3
  · have := c4.1.1; unfold kN at *; rw [kp 11 (by decide)]; exact this
  · unfold a_emp; rw [(ho _).at (by decide), zup_i (by decide), zup_same]
  · unfold a_emp; rw [(ho _).at (by decide), zup_same]
  · exact a_empL_at 31 0 _ v (by omega) (by omega)
  · unfold k_emt; simp [zup]
  · unfold k_emt; simp [zup]
  · rw [show k_emt κ 3 6 = nI 0 from by unfold k_emt; simp [zup], show k_emt κ 3 7 = nI 0 from by unfold k_emt; simp [zup], kt_n0]
    exact ⟨⟨fun x => absurd x (by decide), fun ⟨i, x, _⟩ => absurd x (by omega)⟩, ⟨fun x => absurd x (by decide), fun ⟨i, x, _⟩ => absurd x (by omega)⟩⟩
theorem y_follows (h : zI k κ α τ) (i : Int32) : zCall E zI k κ α τ mX8_follows mX9_follows [.int i] := by
  have hW := h.1.1.1.2.1
  obtain ⟨i0, T', t', i1, i2, i3, i4, i5, i6, i7, i8⟩ := fo_both 30 0 _ _ _ _ _ rfl (fo_start h.1)
  have ho : ∀ β : Nat → Nat → Int32, zoff [105] β (a_empL 0 31 β) := fun β => zit_off _ (fun k a => zoff.rf.up (by decide)) _ _ _
  have i8' : ∀ p j, ¬ (p = 100 ∧ (j = 0 ∨ j = 10 ∨ j = 11)) → ¬ (105 ≤ p ∧ p ≤ 109) → (a_foL 31 (a_first (a_emp (a0 α)) 0).isSome (a_emp (a0 α))).2 p j = α p j := fun p j x y => (i8 p j (by omega) y).trans (by
    unfold a_emp
    rw [(ho _).at (by simp; omega)]
    exact ((if_neg (by omega)).trans (if_neg (by omega))).trans (a0_p (by omega)))
  have i7' : ∀ p, ¬ p = 3 → ¬ (70 ≤ p ∧ p ≤ 72) → k_daL 30 (k_emt κ) p = κ p := fun p x y => (i7 p x y).trans (funext fun j => by unfold k_emt; rw [zup_p x, zup_p x, zup_p x, zup_p x, zup_p x, zup_p x, zup_p x])
  have zN : zI (k + 1) (k_daL 30 (k_emt κ)) (a_foL 31 (a_first (a_emp (a0 α)) 0).isSome (a_emp (a0 α))).2 τ := h.same (fun p hp => i7' p (by omega) (by omega)) (fun p hp => funext fun j => i8' p j (by omega) (by omega)) (i8' 100 22 (by omega) (by omega)) (i8' 100 25 (by omega) (by omega)) tG.rf rfl
  have zO : zI (k + 1) κ (a_foL 31 (a_first (a_emp (a0 α)) 0).isSome (a_emp (a0 α))).2 τ := h.same (fun _ _ => rfl) (fun p hp => funext fun j => i8' p j (by omega) (by omega)) (i8' 100 22 (by omega) (by omega)) (i8' 100 25 (by omega) (by omega)) tG.rf rfl
  generalize eX : a_foL 31 (a_first (a_emp (a0 α)) 0).isSome (a_emp (a0 α)) = X at *
  generalize eY : k_daL 30 (k_emt κ) = Y at *
  by_cases e : i < -1 ∨ ¬ i < nI 30
  · have ek : k_follows κ i = (nI 0, κ) := by unfold k_follows; rw [if_pos e]
    by_cases e1 : -1 ≤ i
    · have e2 : ¬ i < nI 30 := e.elim (fun x => absurd e1 (Int32.not_le.mpr x)) id
      have ea : a_follows α i = (nI 0, X.2) := by
        unfold a_follows
        rw [if_pos e1, eX, if_neg (fun x => e2 (by rw [x]; decide)), if_neg (fun x => e2 (Int32.lt_of_lt_of_le (by rwa [i5] at x) (nI_le i1 (by decide))))]
      refine .mk (fun d => s_follows d i i0) (fun d => t_follows d i hW) (by decide) (by decide) (by rw [ek, ea]) ?_
      rw [ek, ea]; exact zO
    · have ea : a_follows α i = (nI 0, a0 α) := by unfold a_follows; rw [if_neg e1]
      refine .mk (fun d => s_follows d i i0) (fun d => t_follows d i hW) (by decide) (by decide) (by rw [ek, ea]) ?_
      rw [ek, ea]; exact h.a0
  · have e1 : -1 ≤ i := Int32.not_lt.mp (fun x => e (.inl x))
    have e2 : i < nI 30 := Classical.byContradiction (fun x => e (.inr x))
    have ek : (k_follows κ i).2 = Y := by unfold k_follows; rw [if_neg e, eY]
    have ea : (a_follows α i).2 = X.2 := by unfold a_follows; rw [if_pos e1, eX]
    refine .mk (fun d => s_follows d i i0) (fun d => t_follows d i hW) (by decide) (by decide) ?_ ?_
    · unfold k_follows a_follows
      rw [if_neg e, if_pos e1, eX, eY]
      show (if i = -1 then (if Y 3 9 = -1 then Y 3 2 else nI 100) else if i < Y 3 2 then Y 70 i.toNatClampNeg else nI 0) = (if i = -1 then (if X.1 = true then nI 100 else X.2 100 10) else if i < X.2 100 10 then X.2 109 i.toNatClampNeg else nI 0)
      rw [i2, i5]
      by_cases em : i = -1
      · rw [if_pos em, if_pos em]
        cases x : X.1 with
        | false => rw [if_pos (i4.mpr x), if_neg (by decide)]
        | true => rw [if_neg (fun y => by have := i4.mp y; rw [x] at this; exact absurd this (by decide)), if_pos rfl]
      · rw [if_neg em, if_neg em]
        by_cases el : i < nI t'
        · rw [if_pos el, if_pos el]
          have w0 : ¬ i < 0 := fun x => by
            have a := Int32.le_iff_toInt_le.mp e1
            have b := Int32.lt_iff_toInt_lt.mp x
            rw [show (-1 : Int32).toInt = -1 from by decide] at a
            rw [show (0 : Int32).toInt = 0 from by decide] at b
            exact em (Int32.toInt_inj.mp ((show i.toInt = -1 by omega).trans (by decide)))
          obtain ⟨j, hj, rfl⟩ := nI_of w0
          have hj' := (nI_ltI hj (by omega)).mp el
          rw [nI_clamp hj, i3 j hj', i6 j hj']
        · rw [if_neg el, if_neg el]
    · rw [ek, ea]; exact zN
end FO
