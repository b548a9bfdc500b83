/-! a step, a run, solving: both alike -/
section RU
variable {κ κ' α α' : Nat → Nat → Int32} {τ τ' : (Nat → Nat → Int64) × (Nat → Nat)} {T : Nat → Int32} {L : Nat → Nat} {R : Nat → Int32} {t w n B : Nat}
theorem zms {B n t t' : Nat} (h : n + 1 < B) (ht : t ≤ 30) : 31 * (B - (n + 1)) + 30 - t' < 31 * (B - n) + 30 - t := by omega
theorem zOn_mk {κ1 α1 : Nat → Nat → Int32} {τ1 : (Nat → Nat → Int64) × (Nat → Nat)} {T' : Nat → Int32} {L' : Nat → Nat} {R' : Nat → Int32} {t' w' n' : Nat} (h1 : n' < B) (h2 : 31 * (B - n') + 30 - t' < 31 * (B - n) + 30 - t) (h3 : zSr κ1 α1 τ1 T' L' R' t' w') (h4 : zCo κ1 α1 n') (h5 : aFr α α1) (h6 : kFr κ κ1) (h7 : tFr τ τ1) : zOn κ α τ B t n (-1, κ1, τ1) (-1, α1) :=
  ⟨rfl, rfl, T', L', R', t', w', n', h1, h2, h3, h4, h5, h6, h7⟩
theorem zEd.pre {s : Int32 × (Nat → Nat → Int32) × ((Nat → Nat → Int64) × (Nat → Nat))} {a : Int32 × (Nat → Nat → Int32)} (fa : aFr α α') (fk : kFr κ κ') (ft : tFr τ τ') (h : zEd κ' α' τ' s a) : zEd κ α τ s a := by
  obtain ⟨r, h1, h2, h3, h4, h5, e1, e2, e3, e4, e5, e6, e7, e8, e9⟩ := h
  refine ⟨r, h1, h2, h3, h4, ft.tr h5, e1, e2, e3, e4, fun x => (e5 x).trans (fa.2.2 13 (by omega)), e6, fun x => ?_, ⟨fun p hp => (e8.1 p hp).trans (fa.1 p hp), fun j hj => (e8.2.1 j hj).trans (fa.2.1 j hj), fun j hj => (e8.2.2 j hj).trans (fa.2.2 j (by omega))⟩, ⟨fun p hp => (e9.1 p hp).trans (fk.1 p hp), e9.2.trans (fk.2 16 (by decide))⟩⟩
  obtain ⟨y1, y2, y3⟩ := e7 x
  exact ⟨y1.trans (fk.2 14 (by decide)), y2.trans (fk.2 15 (by decide)), fun j hj => (y3 j hj).trans (fa.2.2 j (by omega))⟩
theorem step_conf {c : Nat} (hB : B ≤ 200) (hn : n < B) (h : zSr κ α τ T L R t w) (hc : zCo κ α n) (h13 : κ 10 13 = nI 0) (h0 : a_first α 0 = some c) :
    (¬ α 100 11 = 0 → aN α < 400 → lnOK α c ∧ kmOK (k_look κ) τ) ∧ (zOn κ α τ B t n (k_step κ τ (nI B)) (a_step α (nI B)) ∨ zEd κ α τ (k_step κ τ (nI B)) (a_step α (nI B))) := by
  have hR := h.1.1.1
  have hW := h.1.1.2.1
  have hl := h.look
  have cl := hR.clash hW h.as
  have h9 : k_look κ 3 9 = nI c := by
    unfold k_look k_lk
    rw [zup_i (by decide), zup_same, cl, h0]; rfl
  have eS : k_step κ τ (nI B) = k_meet (k_look κ) τ (nI B) := by unfold k_step; rw [cl, h0]
  have eA : a_step α (nI B) = a_conf α c (nI B) := by unfold a_step; rw [h0]
  have e8 : k_look κ 3 8 = nI w := hl.2.2.2.1.1.2
  have e11 : α 100 11 = nI w := h.2.2.1.1.2
  have hw30 := h.lw
  have z0 : nI w = 0 ↔ w = 0 := nI_eq (b := 0) (by omega) (by omega)
  have learn : 1 ≤ w → aN α < 400 → _ := fun x y => conf_learn hl hc.look hn hB h9 h0 x y
  rw [eS, eA]
  unfold k_meet a_conf
  rw [e8, e11, hl.1.1.1.n, hW.2.1.1, hc.2.1]
  refine ⟨fun x y => ?_, ?_⟩
  · have := learn (by have := mt z0.mpr x; omega) y
    exact ⟨this.1, this.2.1⟩
  · by_cases ew : nI w = 0
    · rw [if_pos ew, if_pos ew]
      exact .inr ((conf_refuted hl (by rw [k_look_p (by decide)]; exact h13)).pre aFr.rf k_look_F tFr.rf)
    · rw [if_neg ew, if_neg ew]
      have hw1 : 1 ≤ w := by have := mt z0.mpr ew; omega
      have h4 := hW.2.1.2
      by_cases eN : 400 ≤ aN α
      · rw [if_pos eN, if_pos (congrArg nI (by omega))]
        exact .inr ((conf_full hl).pre aFr.rf k_look_F tFr.rf)
      · rw [if_neg eN, if_neg (fun x => eN (Nat.le_of_eq ((nI_eq (by omega) (by omega)).mp x).symm))]
        obtain ⟨-, -, T', L', R', t', w', l1, l2, l3, l4, l5, l6⟩ := learn hw1 (by omega)
        rw [hc.2.1] at l2 l3 l4
        rw [l3.1]
        have ee : nI n + nI 1 = nI B ↔ n + 1 = B := by rw [nI_add]; exact nI_eq (by omega) (by omega)
        have el : nI (n + 1) < nI B ↔ n + 1 < B := nI_ltI (by omega) (by omega)
        by_cases eB : n + 1 = B
        · right
          rw [if_neg (fun x => by have := el.mp x; omega), if_pos (ee.mpr eB)]
          show zEd κ α τ _ (nI 2, zup (a_leaves (if (2 : Nat) = 1 then _ else _) (-1)) 101 12 (nI 2))
          rw [if_neg (by decide)]
          refine (ed_of (τ := τ) (κ := k_look κ) (α := α) (r := 2) l2.1 l2.2.2.1 l2.2.2.2.1 l2.w30 l6 (by decide) (by rw [l2.2.1.1, l2.2.1.2]) (fun x => absurd x (by decide)) (fun _ => l4.2.2 13 (by omega)) (fun x => absurd x (by decide)) (fun _ => ⟨l5.2 14 (by decide), l5.2 15 (by decide), fun j hj => l4.2.2 j (by omega)⟩) l4.e l5.e).pre aFr.rf k_look_F tFr.rf
        · left
          have hB2 : n + 1 < B := Nat.lt_of_le_of_ne hn eB
          rw [if_pos (el.mpr hB2), if_neg (fun x => eB (ee.mp x))]
          exact zOn_mk hB2 (zms hB2 h.w30.1) l2 l3 l4 (k_look_F.tr l5) l6
theorem step_both (hB : B ≤ 200) (hn : n < B) (h : zSr κ α τ T L R t w) (hc : zCo κ α n) (h13 : κ 10 13 = nI 0) :
    ksOK κ τ ∧ stOK α ∧ (zOn κ α τ B t n (k_step κ τ (nI B)) (a_step α (nI B)) ∨ zEd κ α τ (k_step κ τ (nI B)) (a_step α (nI B))) := by
  have hR := h.1.1.1
  have hW := h.1.1.2.1
  have hd := h.1.1.2.2.1
  have eC := hR.clash hW h.as
  have eD := hR.drawn hW hd h.as
  have eF := h.first
  have et : κ 3 2 = nI t := h.2.2.2.1.1.1
  have w30 := h.w30
  have hL4 := (h.1.ln h.2.1.1).2
  have h4 := hW.2.1.2
  have kb := h.kB hc (by omega)
  have ka := h.kAL
  obtain ⟨aq, ar⟩ := h.aQR
  have wA := h.1.2.1.2.1
  have hlv : ∃ lv, lv < 2 ^ 31 ∧ α 100 11 = nI lv := ⟨w, by have := h.lw; omega, h.2.2.1.1.2⟩
  have h17 : ∃ a, α 100 17 = nI a ∧ a ≤ 200 := by
    obtain ⟨a, a1, a2⟩ := hc.2.2.2.2
    exact ⟨a, a2, by omega⟩
  have lg := h.1.2.2.2.2.2.1
  unfold ksOK stOK
  rw [eC, eD, eF]
  cases c0 : a_first α 0 with
  | some c =>
    obtain ⟨s1, s2⟩ := step_conf hB hn h hc h13 c0
    refine ⟨⟨kb, ka, fun c' e x y => ?_, fun e => absurd e (by simp)⟩, ⟨hW, wA, ⟨t, aq, ar, fun e => absurd e (by simp)⟩, hlv, h17, lg, by omega, fun c' e x y => ?_⟩, s2⟩
    · rw [h.2.2.2.1.1.2, ← h.2.2.1.1.2] at x
      rw [hR.n] at y
      exact (s1 x y).2
    · have e := Option.some.inj e; subst e; exact (s1 x y).1
  | none =>
    cases c1 : a_first α 1 with
    | some c =>
      obtain ⟨s1, s2, s3⟩ := step_drawn (B := B) (b := nI B) h hc hn c0 c1
      refine ⟨⟨kb, ka, fun c' e => absurd e (by simp), fun _ => ⟨fun c' e => ?_, fun e => absurd e (by simp)⟩⟩, ⟨hW, wA, ⟨t, aq, ar, fun _ _ => s3⟩, hlv, h17, lg, by omega, fun c' e => absurd e (by simp)⟩, .inl s1⟩
      have e := Option.some.inj e; subst e; exact ⟨s2, t, s3, et⟩
    | none =>
      cases c2 : a_assOpen α with
      | some k =>
        have S := step_first (B := B) (b := nI B) h hc hn c0 c1 c2
        refine ⟨⟨kb, ka, fun c' e => absurd e (by simp), fun _ => ⟨fun c' e => absurd e (by simp), fun _ => ⟨fun k' e x => ?_, fun e => absurd e (by simp)⟩⟩⟩, ⟨hW, wA, ⟨t, aq, ar, fun _ o => ?_⟩, hlv, h17, lg, by omega, fun c' e => absurd e (by simp)⟩, ?_⟩
        · have e := Option.some.inj e; subst e
          rcases S with ⟨-, -, s3, -⟩ | ⟨s1, -⟩
          · exact ⟨t, s3, et⟩
          · exact absurd x s1
        · rcases S with ⟨-, -, s3, -⟩ | ⟨-, s2, -⟩
          · exact s3
          · rcases o with o | ⟨k', e, o⟩ | ⟨e, -⟩
            · exact absurd rfl o
            · have e := Option.some.inj e; subst e; exact absurd s2 o
            · exact absurd e (by simp)
        · exact S.imp (fun x => x.2.2.2) (fun x => x.2.2)
      | none =>
        have S := step_choice (B := B) (b := nI B) h hc hn c0 c1 c2
        refine ⟨⟨kb, ka, fun c' e => absurd e (by simp), fun _ => ⟨fun c' e => absurd e (by simp), fun _ => ⟨fun k' e x => absurd e (by simp), fun _ x => ?_⟩⟩⟩, ⟨hW, wA, ⟨t, aq, ar, fun _ o => ?_⟩, hlv, h17, lg, by omega, fun c' e => absurd e (by simp)⟩, ?_⟩
        · rcases S with ⟨-, -, s3, s4, -⟩ | ⟨s1, -⟩
          · exact ⟨s3, t, s4, et⟩
          · exact absurd x s1
        · rcases S with ⟨-, -, -, s4, -⟩ | ⟨-, s2, -⟩
          · exact s4
          · rcases o with o | ⟨k', e, o⟩ | ⟨-, o⟩
            · exact absurd rfl o
            · exact absurd e (by simp)
            · exact absurd s2 o
        · exact S.imp (fun x => x.2.2.2.2) (fun x => x.2.2)
theorem run_both (hB : B ≤ 200) : ∀ m n κ α τ T L R t w, n < B → 31 * (B - n) + 30 - t < m → zSr κ α τ T L R t w → zCo κ α n → κ 10 13 = nI 0 → krOK (nI B) m κ τ ∧ runOK m (nI B) α ∧ zEd κ α τ (k_runL (nI B) m κ τ) (a_run m (nI B) α)
  | 0, n, κ, α, τ, T, L, R, t, w, hn, hm, h, hc, h13 => by omega
  | m + 1, n, κ, α, τ, T, L, R, t, w, hn, hm, h, hc, h13 => by
    obtain ⟨s1, s2, s3⟩ := step_both hB hn h hc h13
    unfold krOK runOK k_runL a_run
    rcases s3 with ⟨e1, e2, T', L', R', t', w', n', d1, d2, d3, d4, d5, d6, d7⟩ | s3
    · obtain ⟨i1, i2, i3⟩ := run_both hB m n' _ _ _ T' L' R' t' w' d1 (by omega) d3 d4 ((d6.2 13 (by decide)).trans h13)
      refine ⟨⟨s1, fun _ => i1, fun x => absurd e1 x⟩, ⟨s2, fun _ => i2⟩, ?_⟩
      rw [if_pos e1, if_pos e2]
      exact i3.pre d5 d6 d7
    · have s3' := s3
      obtain ⟨r, r1, r2, r3, r4, -⟩ := s3
      have ne : ¬ nI r = -1 := (show ∀ n < 400, ¬ nI n = -1 by decide +kernel) _ (by omega)
      have n1 : ¬ (k_step κ τ (nI B)).1 = -1 := by rw [r2]; exact ne
      have n2 : ¬ (a_step α (nI B)).1 = -1 := by rw [r3]; exact ne
      refine ⟨⟨s1, fun x => absurd x n1, fun _ => r4⟩, ⟨s2, fun x => absurd x n2⟩, ?_⟩
      rw [if_neg n1, if_neg n2]
      exact s3'
end RU
