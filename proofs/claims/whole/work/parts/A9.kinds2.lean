/-! assumptions, decisions, the core and the model -/
section KJ
variable {κ α : Nat → Nat → Int32} {τ τ' : (Nat → Nat → Int64) × (Nat → Nat)} {T : Nat → Int32} {L : Nat → Nat} {R : Nat → Int32} {t w n B : Nat}
theorem zSr.first (h : zSr κ α τ T L R t w) : k_first κ = a_assOpen α := by
  obtain ⟨q1, q2, q3, q4⟩ := h.1.2.1
  exact first_eq q3 (fun k hk => ⟨q4 k hk, (q2.2.2 k hk).mono h.1.1.2.1.1.2⟩) h.as
theorem step_first {k : Nat} {b : Int32} (h : zSr κ α τ T L R t w) (hc : zCo κ α n) (hn : n < B) (h0 : a_first α 0 = none) (h1 : a_first α 1 = none) (h2 : a_assOpen α = some k) :
    ((κ 3 6 ||| κ 3 7) &&& kb (κ 20 k) = 0 ∧ ¬ a_tr α (α 101 (16 + k)) < 0 ∧ t < 30 ∧ zOn κ α τ B t n (k_step κ τ b) (a_step α b)) ∨ (¬ (κ 3 6 ||| κ 3 7) &&& kb (κ 20 k) = 0 ∧ a_tr α (α 101 (16 + k)) < 0 ∧ zEd κ α τ (k_step κ τ b) (a_step α b)) := by
  have hR := h.1.1.1
  have hW := h.1.1.2.1
  have hd := h.1.1.2.2.1
  have w30 := h.w30
  obtain ⟨q1, q2, q3, q4⟩ := h.1.2.1
  obtain ⟨-, k1, k2, -⟩ := zfind_some h2
  have k1 : k < aA α := by omega
  have hlV := q2.2.2 k k1
  have hl := hlV.mono hW.1.2
  obtain ⟨g1, g2, -⟩ := hlV.is hW.1.2
  obtain ⟨u, u1, u2, eu, ud⟩ := lok_two hl
  have ekb : kb (α 101 (16 + k)) = kb (nI u) := by have := kb_lok hl (Nat.le_refl _); rwa [eu] at this
  have k2 : a_tr α (α 101 (16 + k)) ≤ 0 := of_decide_eq_true k2
  have eS : k_step κ τ b = if (κ 3 6 ||| κ 3 7) &&& kb (κ 20 k) = 0 then (-1, k_sput (zup (k_look κ) 3 8 (κ 3 8 + nI 1)) (κ 20 k) (-1), τ) else (nI 0, zup (k_look κ) 10 13 (k_core (k_look κ) k), τ) := by
    unfold k_step
    rw [hR.clash hW h.as, h0, hR.drawn hW hd h.as, h1, h.first, h2]
  have eA : a_step α b = if a_tr α (α 101 (16 + k)) < 0 then (nI 0, a_ends (zup (a_core α k).2 101 13 (a_core α k).1) 0) else (-1, a_comes (zup α 100 11 (α 100 11 + nI 1)) (α 101 (16 + k)) (-1)) := by
    unfold a_step
    rw [h0, h1, h2]
  rw [eS, eA, q4 k k1, ekb]
  have ez : (κ 3 6 ||| κ 3 7) &&& kb (nI u) = 0 ↔ α 105 u = 0 := (kt_iff _ u1 u2).trans (h.as.z u1 u2)
  have e105 : a_tr α (α 101 (16 + k)) = 0 ↔ α 105 u = 0 := by
    have v := h.2.2.1.val u1 u2
    unfold a_tr
    rw [eu]
    split
    · exact Iff.rfl
    · rcases v with v | v | v <;> rw [v] <;> decide
  rcases h.2.2.1.tv hl with e | e | e
  · rw [e] at k2; exact absurd k2 (by decide)
  · right
    have e5 : ¬ α 105 u = 0 := fun x => by have := e105.mpr x; rw [e] at this; exact absurd this (by decide)
    have hlt : a_tr α (α 101 (16 + k)) < 0 := by rw [e]; decide
    rw [if_neg (fun x => e5 (ez.mp x)), if_pos hlt]
    refine ⟨fun x => e5 (ez.mp x), hlt, ?_⟩
    have hfl : ∃ i, i < t ∧ T i = -(α 101 (16 + k)) := (h.2.2.1.fls w30 hl).mp (by rw [e]; decide)
    have ec : (a_core α k).1 = k_core (k_look κ) k := core_eq h.look.1 h.look.2.2.1 h.look.2.2.2.1 h.look.2.2.2.2 k1 hfl
    have oc := a_core_off (α := α) k
    have ea : ∀ p j, ¬ p = 112 → ¬ (p = 101 ∧ j = 13) → zup (a_core α k).2 101 13 (a_core α k).1 p j = α p j := fun p j x y => (if_neg y).trans (oc.at (by simp; exact x) j)
    have ek : ∀ p j, ¬ (p = 10 ∧ j = 13) → zup (k_look κ) 10 13 (k_core (k_look κ) k) p j = k_look κ p j := fun p j x => if_neg x
    obtain ⟨hs, h7, hT, hk, hI⟩ := h.look
    obtain ⟨r1, r2, r3, r4, r5, r6⟩ := hs.2.2.2.2.1
    have ew : ∀ j, ¬ stW j → zup (a_core α k).2 101 13 (a_core α k).1 101 j = α 101 j := fun j hj => ea 101 j (by omega) (by unfold stW at hj; omega)
    show zEd κ α τ _ (nI 0, zup (a_leaves (if (0 : Nat) = 1 then _ else _) (-1)) 101 12 (nI 0))
    rw [if_neg (by decide)]
    refine ed_of (r := 0) (L := L) (R := R) (T := T) (t := t) (w := w) (hs.up (fun p x y => funext fun i => ek p i (by omega)) (ek 10 4 (by omega)) (fun v x y => by rw [ek 10 5 (by omega), ea 101 (32 + v) (by omega) (by omega)]; exact hs.2.2.1 v x y) ew ⟨ek 10 6 (by omega), ?_, ?_, ?_, ?_⟩ rfl) (hT.of (fun p x y => funext fun i => ea p i (by omega) (by omega)) (ea 100 10 (by omega) (by omega)) ((ea 100 11 (by omega) (by omega)).trans hT.1.2)) (hk.of (fun p x y => funext fun i => ek p i (by omega)) (ek 3 2 (by omega)) (ek 3 6 (by omega)) (ek 3 7 (by omega)) ((ek 3 8 (by omega)).trans hk.1.2)) w30 tFr.rf (by decide) ?_ (fun _ => ?_) (fun x => absurd rfl x) (fun x => absurd x (by decide)) (fun _ => ⟨?_, ?_, fun j hj => ea 101 j (by omega) (by omega)⟩) ⟨fun p hp => funext fun j => ea p j (by omega) (by omega), fun j hj => ea 100 j (by omega) (by omega), fun j hj => ea 101 j (by omega) (by omega)⟩ ⟨fun p hp => funext fun j => (ek p j (by omega)).trans (by rw [k_look_p (by omega)]), (ek 10 16 (by omega)).trans (by rw [k_look_p (by decide)])⟩
    · rw [ek 10 8 (by omega), ea 101 8 (by omega) (by omega)]; exact r2
    · rw [ek 10 9 (by omega), ea 101 9 (by omega) (by omega)]; exact r3
    · rw [ek 10 10 (by omega), ea 101 10 (by omega) (by omega)]; exact r4
    · rw [ek 10 11 (by omega), ea 101 11 (by omega) (by omega)]; exact r5
    · rw [ek 10 7 (by omega), ea 101 7 (by omega) (by omega), h7.1, h7.2]
    · rw [zup_same, zup_same, ec]
    · rw [ek 10 14 (by omega), k_look_p (by decide)]
    · rw [ek 10 15 (by omega), k_look_p (by decide)]
  · left
    have e5 := e105.mp e
    have hf := h.2.2.1.fresh hl e
    have ht : t < 30 := by have := (h.2.2.2.2.1).lt hW.1.2 g1 g2 hf; have := hW.1.2; omega
    have hge : ¬ a_tr α (α 101 (16 + k)) < 0 := by rw [e]; decide
    rw [if_pos (ez.mpr e5), if_neg hge]
    refine ⟨ez.mpr e5, hge, ht, on_put h hc hn (fun p j x y => if_neg (by omega)) (fun p j x y => if_neg (by omega)) (w1 := w + 1) ⟨?_, ?_⟩ ?_ ?_ hl hf ht ?_⟩
    · rw [zup_same, h.2.2.2.1.1.2, nI_add]
    · rw [zup_same, h.2.2.1.1.2, nI_add]
    · rw [zup_p (by decide), zup_p (by decide), k_look_p (by decide)]; exact h.1.2.2.2.2.1.2.2.1
    · rw [zup_p (by decide), zup_p (by decide), k_look_p (by decide)]; exact h.1.2.2.2.2.1.2.2.2.1
    · refine h.2.2.2.2.taken hlV hf ht (h.nf h0) (.inl ⟨k, k1, ?_⟩)
      show zv (if k < 8 then α 101 (16 + k) else 0) = _
      rw [if_pos (by have := q2.2.1; omega)]
/-- the model's row -/
theorem mo_is (α : Nat → Nat → Int32) : ∀ m, (∀ v, 1 ≤ v → v ≤ m → zit (a_moF α) 1 m α 101 (94 + v) = if 0 < α 105 v then nI 1 else nI 0) ∧ ∀ p j, ¬ (p = 101 ∧ 95 ≤ j ∧ j ≤ 94 + m) → zit (a_moF α) 1 m α p j = α p j
  | 0 => ⟨fun v a b => by omega, fun _ _ _ => rfl⟩
  | m + 1 => by
    obtain ⟨i1, i2⟩ := mo_is α m
    rw [zit_succ]
    generalize zit (a_moF α) 1 m α = a at i1 i2
    unfold a_moF
    refine ⟨fun v v1 v2 => ?_, fun p j h => (if_neg (by omega)).trans (i2 p j (by omega))⟩
    by_cases e : v = 1 + m
    · subst e; rw [zup_same]
    · rw [zup_i (by omega)]; exact i1 v v1 (by omega)
theorem step_choice {b : Int32} (h : zSr κ α τ T L R t w) (hc : zCo κ α n) (hn : n < B) (h0 : a_first α 0 = none) (h1 : a_first α 1 = none) (h2 : a_assOpen α = none) :
    (κ 3 2 < κ 10 4 ∧ ¬ a_choice α = 0 ∧ 1 ≤ k_choice κ ∧ t < 30 ∧ zOn κ α τ B t n (k_step κ τ b) (a_step α b)) ∨ (¬ κ 3 2 < κ 10 4 ∧ a_choice α = 0 ∧ zEd κ α τ (k_step κ τ b) (a_step α b)) := by
  have hR := h.1.1.1
  have hW := h.1.1.2.1
  have hd := h.1.1.2.2.1
  have w30 := h.w30
  have hV30 := hW.1.2
  obtain ⟨q1, q2, q3, q4⟩ := h.1.2.1
  have eS : k_step κ τ b = if κ 3 2 < κ 10 4 then (-1, k_decide (k_look κ), τ) else (nI 1, zup (zup (k_look κ) 10 14 (κ 3 6)) 10 15 (κ 10 4), τ) := by
    unfold k_step
    rw [hR.clash hW h.as, h0, hR.drawn hW hd h.as, h1, h.first, h2]
  have eA : a_step α b = if a_choice α = 0 then (nI 1, a_ends α 1) else (-1, a_comes (zup (zup α 100 11 (α 100 11 + nI 1)) 101 9 (α 101 9 + nI 1)) (if α 101 (32 + a_choice α) = nI 1 then nI (a_choice α) else -(nI (a_choice α))) (-1)) := by
    unfold a_step
    rw [h0, h1, h2]
  have elt : κ 3 2 < κ 10 4 ↔ t < aV α := by
    rw [h.2.2.2.1.1.1, q1, hW.1.1]; have := w30.1; exact nI_ltI (by omega) (by omega)
  have ech : ∀ κ1, zSr κ1 α τ T L R t w → k_choice κ1 = a_choice α := fun κ1 hh => choice_eq hh.1.V hV30 hh.as hh.1.2.2.2.1
  rw [eS, eA]
  rcases choice_iff hV30 h.2.2.1 h.2.2.2.2.1 with ⟨c1, c2, c3, c4⟩ | ⟨c1, c2⟩
  · left
    have hne : ¬ a_choice α = 0 := by omega
    rw [if_pos (elt.mpr c1), if_neg hne]
    refine ⟨elt.mpr c1, hne, by rw [ech κ h]; exact c2, by omega, ?_⟩
    have hlk := h.look
    have ep : (if k_phaseOf (k_look κ) (nI (k_choice (k_look κ))) = true then nI (k_choice (k_look κ)) else -(nI (k_choice (k_look κ)))) = (if α 101 (32 + a_choice α) = nI 1 then nI (a_choice α) else -(nI (a_choice α))) := by
      rw [ech _ hlk]
      unfold k_phaseOf
      rcases hlk.1.2.2.1 (a_choice α) c2 (by omega) with ⟨x, y⟩ | ⟨x, y⟩
      · rw [if_pos y, if_pos (decide_eq_true ((kt_niff _ c2 (by omega)).mpr x))]
      · rw [if_neg (show ¬ α 101 (32 + a_choice α) = nI 1 by rw [y]; decide), if_neg (fun z => (of_decide_eq_true z) ((kt_iff _ c2 (by omega)).mpr x))]
    unfold k_decide
    rw [ep]
    generalize el : (if α 101 (32 + a_choice α) = nI 1 then nI (a_choice α) else -(nI (a_choice α))) = l
    have ell : lok (aV α) l ∧ zv l = a_choice α := by
      rw [← el]
      split
      · exact ⟨⟨a_choice α, c2, c3, .inl rfl⟩, zvn (by omega)⟩
      · exact ⟨⟨a_choice α, c2, c3, .inr rfl⟩, zvm (by omega)⟩
    have hf : ∀ i, i < t → ¬ zv (T i) = zv l := by rw [ell.2]; exact h.2.2.1.isO c4
    refine on_put h hc hn (fun p j x y => (if_neg (by omega)).trans (if_neg (by omega))) (fun p j x y => (if_neg (by omega)).trans (if_neg (by omega))) (w1 := w + 1) ⟨?_, ?_⟩ ?_ ?_ (ell.1.mono hV30) hf (by omega) ?_
    · rw [zup_p (by decide), zup_same, hlk.2.2.2.1.1.2, nI_add]
    · rw [zup_p (by decide), zup_same, h.2.2.1.1.2, nI_add]
    · rw [zup_same, zup_same, k_look_p (by decide), h.1.2.2.2.2.1.2.2.1]
    · rw [zup_i (by decide), zup_p (by decide), zup_i (by decide), zup_p (by decide), k_look_p (by decide)]; exact h.1.2.2.2.2.1.2.2.2.1
    · refine h.2.2.2.2.taken ell.1 hf (by omega) (h.nf h0) (.inr (fun k hk => ?_))
      have hk : k < aA α := hk
      have hlk := (q2.2.2 k hk).mono hV30
      have := zfind_none h2 k (Nat.zero_le _) (by omega)
      have hp : ¬ a_tr α (α 101 (16 + k)) ≤ 0 := of_decide_eq_false this
      obtain ⟨j, j1, j2⟩ := (h.2.2.1.tru w30 hlk).mp (by
        rcases h.2.2.1.tv hlk with e | e | e
        · rw [e]; decide
        · rw [e] at hp; exact absurd (by decide) hp
        · rw [e] at hp; exact absurd (by decide) hp)
      refine ⟨j, j1, ?_⟩
      show T j = (if k < 8 then α 101 (16 + k) else 0)
      rw [if_pos (by have := q2.2.1; omega)]; exact j2
  · right
    rw [if_neg (fun x => c1 (elt.mp x)), if_pos c2]
    refine ⟨fun x => c1 (elt.mp x), c2, ?_⟩
    obtain ⟨m1, m2⟩ := mo_is α (aV α)
    show zEd κ α τ _ (nI 1, zup (a_leaves (if (1 : Nat) = 1 then a_model α else α) (-1)) 101 12 (nI 1))
    rw [if_pos rfl]
    have ea : ∀ p j, ¬ (p = 101 ∧ (j = 14 ∨ (95 ≤ j ∧ j ≤ 124))) → a_model α p j = α p j := fun p j x => by
      unfold a_model
      rw [show zup (zit (a_moF α) 1 (aV α) α) 101 14 (α 101 0) p j = zit (a_moF α) 1 (aV α) α p j from if_neg (by omega)]
      exact m2 p j (by omega)
    have ek : ∀ p j, ¬ (p = 10 ∧ (j = 14 ∨ j = 15)) → zup (zup (k_look κ) 10 14 (κ 3 6)) 10 15 (κ 10 4) p j = k_look κ p j := fun p j x => (if_neg (by omega)).trans (if_neg (by omega))
    have ek0 : ∀ p j, ¬ p = 3 → ¬ (p = 10 ∧ (j = 14 ∨ j = 15)) → zup (zup (k_look κ) 10 14 (κ 3 6)) 10 15 (κ 10 4) p j = κ p j := fun p j y x => (ek p j x).trans (by rw [k_look_p y])
    obtain ⟨hs, h7, hT, hk, hI⟩ := h.look
    obtain ⟨r1, r2, r3, r4, r5, r6⟩ := hs.2.2.2.2.1
    have ew : ∀ j, ¬ stW j → a_model α 101 j = α 101 j := fun j hj => ea 101 j (by unfold stW at hj; omega)
    refine ed_of (r := 1) (L := L) (R := R) (T := T) (t := t) (w := w) (hs.up (fun p x y => funext fun i => ek p i (by omega)) (ek 10 4 (by omega)) (fun v x y => by rw [ek 10 5 (by omega), ea 101 (32 + v) (by omega)]; exact hs.2.2.1 v x y) ew ⟨ek 10 6 (by omega), ?_, ?_, ?_, ?_⟩ rfl) (hT.of (fun p x y => funext fun i => ea p i (by omega)) (ea 100 10 (by omega)) ((ea 100 11 (by omega)).trans hT.1.2)) (hk.of (fun p x y => funext fun i => ek p i (by omega)) (ek 3 2 (by omega)) (ek 3 6 (by omega)) (ek 3 7 (by omega)) ((ek 3 8 (by omega)).trans hk.1.2)) w30 tFr.rf (by decide) ?_ (fun x => absurd x (by decide)) (fun _ => ea 101 13 (by omega)) (fun _ => ⟨?_, ?_, fun v v1 v2 => ?_⟩) (fun x => absurd rfl x) ⟨fun p hp => funext fun j => ea p j (by omega), fun j hj => ea 100 j (by omega), fun j hj => ea 101 j (by omega)⟩ ⟨fun p hp => funext fun j => ek0 p j (by omega) (by omega), ek0 10 16 (by omega) (by omega)⟩
    · rw [ek 10 8 (by omega), ea 101 8 (by omega)]; exact r2
    · rw [ek 10 9 (by omega), ea 101 9 (by omega)]; exact r3
    · rw [ek 10 10 (by omega), ea 101 10 (by omega)]; exact r4
    · rw [ek 10 11 (by omega), ea 101 11 (by omega)]; exact r5
    · rw [ek 10 7 (by omega), ea 101 7 (by omega), h7.1, h7.2]
    · rw [zup_same, zup_i (by decide), zup_i (by decide), k_look_p (by decide)]
    · rw [zup_same]; unfold a_model; rw [zup_same]; exact q1
    · have v2 : v ≤ aV α := by rwa [stW.V ew] at v2
      have em : a_model α 101 (94 + v) = if 0 < α 105 v then nI 1 else nI 0 := by
        unfold a_model; rw [zup_i (by omega)]; exact m1 v v1 v2
      rw [em, zup_i (by decide), zup_same]
      have hp := h.as.pos v1 (show v ≤ 30 by omega)
      rcases h.2.2.1.val v1 (show v ≤ 30 by omega) with x | x | x
      · left; exact ⟨hp.mpr x, if_pos (by rw [x]; decide)⟩
      · right
        refine ⟨?_, if_neg (by rw [x]; decide)⟩
        cases z : kt (κ 3 6) v with
        | false => rfl
        | true => have := hp.mp z; rw [x] at this; exact absurd this (by decide)
      · right
        refine ⟨?_, if_neg (by rw [x]; decide)⟩
        cases z : kt (κ 3 6) v with
        | false => rfl
        | true => have := hp.mp z; rw [x] at this; exact absurd this (by decide)
end KJ
