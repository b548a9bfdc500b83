/-! the loop that resolves -/
section RS
variable {κ α : Nat → Nat → Int32} {T : Nat → Int32} {L : Nat → Nat} {R : Nat → Int32} {t w : Nat}
theorem zZ.latest (h : zAn κ α T L R t w) {n : Nat} {x : Int32 × Int32} {β : Nat → Nat → Int32} (hz : zZ α T L t w (n + 1) x β) (hn : n < t) (hL : L n = w) (hx : kt x.1 (zv (T n)) = true) : a_latest β = zv (T n) := by
  have eV : aV β = aV α := by unfold aV; rw [hz.1.at (p := 101) (by decide)]
  have hV := h.2.2.2.2.2.2.1.1.2
  have l := h.lv hn
  unfold a_latest
  rw [eV]
  refine (a_latest_is (v0 := zv (T n)) (aV α) l.1 ((hz.now h l.1 l.2.1).mpr ⟨n, hn, rfl, hL, hx⟩) (fun v a b c d => ?_)).1 l.2.2.1
  obtain ⟨i, hi, e, e2, e3⟩ := (hz.now h a (by omega)).mp c
  have hne : ¬ i = n := fun ei => d (by rw [← e, ei])
  have hlt : i < n := by
    rcases Nat.lt_or_ge i n with y | y
    · exact y
    · have := hz.2.2.2.2.2.1 i (by omega) hi e2
      rw [e, e3] at this; cases this
  rw [hz.1.at (p := 108) (by decide), hz.1.at (p := 108) (by decide), ← e, (h.1.2.1 i hi).2.2.2.1, (h.1.2.1 n hn).2.2.2.1]
  exact nI_lt hlt (by have := h.w30.1; omega)
/-- one clause more: a reason, but for its own literal -/
theorem zZ.step (h : zAn κ α T L R t w) {n : Nat} {x : Int32 × Int32} {β : Nat → Nat → Int32} (hz : zZ α T L t w (n + 1) x β) (hn : n < t) (hL : L n = w) (hx : kt x.1 (zv (T n)) = true) (h2 : 1 < a_levelNow β) : (∃ r, r < aN β ∧ β 107 (a_latest β) = nI r) ∧ zZ α T L t w n (k_reF κ (k_vf κ (nI 1)) n x) (a_resStep β) := by
  have hlat := hz.latest h hn hL hx
  have l := h.lv hn
  have eN : aN β = aN α := by unfold aN; rw [hz.1.at (p := 101) (by decide)]
  have eV : aV β = aV α := by unfold aV; rw [hz.1.at (p := 101) (by decide)]
  have hV := h.2.2.2.2.2.2.1.1.2
  have hW := h.2.2.2.2.2.2.1
  have hw30 := h.w30
  -- another one of this level
  obtain ⟨u, u1, u2, u3, u4⟩ := zcnt_two h2 (zv (T n))
  rw [eV] at u2
  obtain ⟨i0, hi0, e0, e1, e2⟩ := (hz.now h u1 (by omega)).mp u3
  have hi0n : i0 < n := by
    have hne : ¬ i0 = n := fun ei => u4 (by rw [← e0, ei])
    rcases Nat.lt_or_ge i0 n with y | y
    · exact y
    · have := hz.2.2.2.2.2.1 i0 (by omega) hi0 e1
      rw [e0, e2] at this; cases this
  rcases h.2.2.2.2.1 n hn with ⟨-, -, x3⟩ | ⟨r, r1, r2, ⟨k0, r3, r4⟩, r5⟩
  · have := x3 i0 hi0n; omega
  have r1 : r < aN α := r1
  have e107 : β 107 (zv (T n)) = nI r := by rw [hz.1.at (p := 107) (by decide), (h.1.2.1 n hn).2.2.1, r2]
  have hr400 : r < 400 := Nat.lt_of_lt_of_le r1 hW.2.1.2
  have erc : (nI r).toNatClampNeg = r := nI_clamp (by omega)
  refine ⟨⟨r, by rw [eN]; exact r1, by rw [hlat]; exact e107⟩, ?_⟩
  -- the class's side
  obtain ⟨ab1, ab2⟩ := h.vf (m := 1) (by decide)
  have kk := h.2.1.2.1 n hn
  have hkF : k_reF κ (k_vf κ (nI 1)) n x = (x.1 &&& (kb (nI (zv (T n))) ^^^ (-1)) ||| kM κ r &&& k_vf κ (nI 1) &&& (kb (nI (zv (T n))) ^^^ (-1)), x.2 ||| kM κ r &&& k_vf κ (nI 1) &&& (kb (nI (zv (T n))) ^^^ (-1))) := by
    unfold k_reF
    rw [kk.1, kk.2.2, r2, erc, if_neg]
    rintro (c | c)
    · exact (kt_niff _ l.1 l.2.1).mpr hx c
    · exact (show ∀ r < 400, ¬ nI r = -1 by decide +kernel) r hr400 c
  have hm := (h.2.2.2.2.2.1.2 r r1).1
  have hf : ∀ k, k < aS α r → lok 30 (aL α r k) := fun k hk => hW.lok30 r1 hk
  -- the literals of the reason, but for its own, lie below n
  have low : ∀ k, k < aS α r → ¬ zv (aL α r k) = zv (T n) → ∃ j, j < n ∧ zv (T j) = zv (aL α r k) := fun k hk hne => by
    obtain ⟨j, hj, ej⟩ := r5 k hk (fun e => hne (by rw [show aL α r k = T n from e]))
    have ej : T j = -(aL α r k) := ej
    exact ⟨j, hj, by rw [ej, (a_tr_neg (hf k hk)).2.1]⟩
  -- what is brought, as bits
  have br : ∀ v, 1 ≤ v → v ≤ 30 → (kt (kM κ r &&& k_vf κ (nI 1) &&& (kb (nI (zv (T n))) ^^^ (-1))) v = true ↔ ∃ k, k < aS α r ∧ zv (aL α r k) = v ∧ ¬ v = zv (T n) ∧ ∃ i, i < n ∧ zv (T i) = v ∧ 1 ≤ L i) := fun v v1 v2 => by
    rw [kt_and, kt_and, kt_xn _ (by omega) v1, kt_kb l.1 l.2.1 v1 v2, Bool.and_eq_true, Bool.and_eq_true, ab2 v v1 v2, Bool.not_eq_true', decide_eq_false_iff_not]
    rw [show kt (kM κ r) v = true ↔ ∃ k, k < aS α r ∧ zv (aL α r k) = v from hm.has hf v1 v2]
    constructor
    · rintro ⟨⟨⟨k, c1, c2⟩, i, c3, c4, c5⟩, c6⟩
      have hne : ¬ v = zv (T n) := fun e => c6 e.symm
      obtain ⟨j, j1, j2⟩ := low k c1 (by rw [c2]; exact hne)
      have : i = j := hw30.ne c3 (by omega) (by rw [c4, j2, c2])
      subst this
      exact ⟨k, c1, c2, hne, i, j1, c4, c5⟩
    · rintro ⟨k, c1, c2, c3, i, c4, c5, c6⟩
      exact ⟨⟨⟨k, c1, c2⟩, i, by omega, c5, c6⟩, fun e => c3 e.symm⟩
  -- the reference's side
  let γ := zup β 112 (zv (T n)) (nI 0)
  have eS : a_resStep β = a_brings γ r (zv (T n)) := by
    unfold a_resStep; rw [hlat, e107, erc]
  have oγ : zoff [112, 113] α γ := hz.1.up (by simp)
  have eaS : aS γ r = aS α r := by unfold aS; rw [oγ.at (p := 101) (by decide)]
  have eaL : ∀ k, aL γ r k = aL α r k := fun k => by unfold aL; rw [oγ.at (p := 101) (by decide)]
  have zb : ∀ v, 1 ≤ v → v ≤ 30 → (zBr γ r (zv (T n)) v 0 (aS γ r) ↔ ∃ k, k < aS α r ∧ zv (aL α r k) = v ∧ ¬ v = zv (T n) ∧ ∃ i, i < n ∧ zv (T i) = v ∧ 1 ≤ L i) := fun v v1 v2 => by
    unfold zBr
    rw [eaS, oγ.at (p := 106) (by decide)]
    constructor
    · rintro ⟨k, -, c1, c2, c3, c4⟩
      rw [eaL] at c2
      obtain ⟨j, j1, j2⟩ := low k (by omega) (by rw [c2]; exact c3)
      refine ⟨k, by omega, c2, c3, j, j1, by rw [j2, c2], ?_⟩
      rw [← c2, ← j2, (h.1.2.1 j (by omega)).2.1] at c4
      rcases Nat.eq_zero_or_pos (L j) with y | y
      · rw [y] at c4; exact absurd rfl c4
      · exact y
    · rintro ⟨k, c1, c2, c3, i, c4, c5, c6⟩
      refine ⟨k, Nat.zero_le _, by omega, by rw [eaL]; exact c2, c3, ?_⟩
      rw [← c5, (h.1.2.1 i (by omega)).2.1]
      exact nI_ne0 c6 (by have := (h.lv (i := i) (by omega)).2.2.2.2.2; omega)
  have v31 : ∀ v, v < 31 → a_brings γ r (zv (T n)) 112 v = 0 ∨ a_brings γ r (zv (T n)) 112 v = nI 1 := fun v hv => by
    obtain ⟨i1, i2⟩ := a_brings_in γ r (zv (T n)) (.inl rfl) v (aS γ r) 0 γ
    by_cases hb : zBr γ r (zv (T n)) v 0 (aS γ r)
    · exact .inr (i1 hb)
    · have e := i2 hb
      rw [show a_brings γ r (zv (T n)) 112 v = γ 112 v from e]
      by_cases ev : v = zv (T n)
      · rw [ev]; exact .inl (zup_same _ _ _ _)
      · rw [show γ 112 v = β 112 v from zup_i ev]; exact hz.2.2.2.1 v hv
  rw [hkF, eS]
  refine ⟨oγ.tr (a_brings_of2 γ r (zv (T n)) (aS γ r) 0 γ), ⟨kz_or (kz_and hz.2.1.1 _) (kz_and (kz_and (kz_or hm.1 hm.2.1) _) _), fun v v1 v2 => ?_⟩, ⟨kz_or hz.2.2.1.1 (kz_and (kz_and (kz_or hm.1 hm.2.1) _) _), fun v v1 v2 => ?_⟩, v31, fun v v1 v2 hv => ?_, fun i hi hit hiw => ?_, ?_⟩
  · obtain ⟨i1, i2⟩ := a_brings_in γ r (zv (T n)) (.inl rfl) v (aS γ r) 0 γ
    rw [kt_or, Bool.or_eq_true, br v v1 v2, ← zb v v1 v2, kt_and, kt_xn _ (by omega) v1, kt_kb l.1 l.2.1 v1 v2, Bool.and_eq_true, Bool.not_eq_true', decide_eq_false_iff_not, hz.2.1.2 v v1 v2]
    by_cases hb : zBr γ r (zv (T n)) v 0 (aS γ r)
    · rw [show a_brings γ r (zv (T n)) 112 v = nI 1 from i1 hb]
      exact ⟨fun _ => by decide, fun _ => .inr hb⟩
    · rw [show a_brings γ r (zv (T n)) 112 v = γ 112 v from i2 hb]
      by_cases ev : zv (T n) = v
      · rw [show γ 112 v = nI 0 from by rw [← ev]; exact zup_same _ _ _ _]
        exact ⟨fun c => c.elim (fun c => absurd ev c.2) (fun c => absurd c hb), fun c => absurd rfl c⟩
      · rw [show γ 112 v = β 112 v from zup_i (fun e => ev e.symm)]
        exact ⟨fun c => c.elim (fun c => c.1) (fun c => absurd c hb), fun c => .inl ⟨c, ev⟩⟩
  · obtain ⟨i1, i2⟩ := a_brings_in γ r (zv (T n)) (.inr rfl) v (aS γ r) 0 γ
    rw [kt_or, Bool.or_eq_true, br v v1 v2, ← zb v v1 v2, hz.2.2.1.2 v v1 v2]
    by_cases hb : zBr γ r (zv (T n)) v 0 (aS γ r)
    · rw [show a_brings γ r (zv (T n)) 113 v = nI 1 from i1 hb]
      exact ⟨fun _ => by decide, fun _ => .inr hb⟩
    · rw [show a_brings γ r (zv (T n)) 113 v = γ 113 v from i2 hb, show γ 113 v = β 113 v from zup_p (by decide)]
      exact ⟨fun c => c.elim id (fun c => absurd c hb), .inl⟩
  · rw [kt_or, Bool.or_eq_true, br v v1 v2, kt_and, Bool.and_eq_true] at hv
    rcases hv with ⟨c, -⟩ | ⟨k, -, -, -, i, c4, c5, c6⟩
    · exact hz.2.2.2.2.1 v v1 v2 c
    · exact ⟨i, by omega, c5, c6⟩
  · have li := h.lv hit
    cases e : kt (x.1 &&& (kb (nI (zv (T n))) ^^^ (-1)) ||| kM κ r &&& k_vf κ (nI 1) &&& (kb (nI (zv (T n))) ^^^ (-1))) (zv (T i)) with
    | false => rfl
    | true =>
      rw [kt_or, Bool.or_eq_true, br _ li.1 li.2.1, kt_and, Bool.and_eq_true, kt_xn _ (by omega) li.1, kt_kb l.1 l.2.1 li.1 li.2.1, Bool.not_eq_true', decide_eq_false_iff_not] at e
      exfalso
      rcases e with ⟨c1, c2⟩ | ⟨k, -, -, -, j, c4, c5, -⟩
      · have hne : ¬ i = n := fun ei => c2 (by rw [ei])
        have := hz.2.2.2.2.2.1 i (by omega) hit hiw
        rw [c1] at this; cases this
      · have := hw30.ne (show j < t by omega) hit c5
        omega
  · refine ⟨i0, hi0, e1, ?_⟩
    have li := h.lv hi0
    show kt (_ ||| _) _ = true
    rw [kt_or, Bool.or_eq_true]
    refine .inl ?_
    rw [kt_and, Bool.and_eq_true, kt_xn _ (by omega) li.1, kt_kb l.1 l.2.1 li.1 li.2.1, Bool.not_eq_true', decide_eq_false_iff_not]
    exact ⟨by rw [e0]; exact e2, fun e => u4 (by rw [← e0, ← e])⟩
theorem zZ.loop (h : zAn κ α T L R t w) : ∀ n m (x : Int32 × Int32) (β : Nat → Nat → Int32), n ≤ t → n ≤ m → zZ α T L t w n x β → resOK m β ∧ a_levelNow (a_res m β) = 1 ∧ ∃ n', zZ α T L t w n' (k_reL κ (k_vf κ (nI w)) (k_vf κ (nI 1)) n x) (a_res m β)
  | 0, m, x, β, hn, hm, hz => by
    obtain ⟨i, a, b, c⟩ := hz.2.2.2.2.2.2
    have := hz.2.2.2.2.2.1 i (Nat.zero_le _) a b
    rw [c] at this; cases this
  | n + 1, 0, x, β, hn, hm, hz => by omega
  | n + 1, m + 1, x, β, hn, hm, hz => by
    obtain ⟨ec, ec2⟩ := hz.cnt h
    have hge : 1 ≤ a_levelNow β := by
      obtain ⟨i, a, b, c⟩ := hz.2.2.2.2.2.2
      have l := h.lv a
      have eV : aV β = aV α := by unfold aV; rw [hz.1.at (p := 101) (by decide)]
      rcases Nat.eq_zero_or_pos (a_levelNow β) with y | y
      · have := zcnt_zero.mp y (zv (T i)) l.1 (by rw [eV]; omega)
        rw [(hz.now h l.1 l.2.1).mpr ⟨i, a, rfl, b, c⟩] at this; cases this
      · exact y
    unfold k_reL a_res resOK
    rw [ec]
    by_cases h2 : 1 < a_levelNow β
    · rw [if_neg (fun c => absurd ((nI_ltI (by omega) (by decide)).mp c) (by omega)), if_pos h2]
      have l := h.lv (i := n) (by omega)
      cases hx : kt x.1 (zv (T n)) with
      | false =>
        have e : k_reF κ (k_vf κ (nI 1)) n x = x := by
          have e0 : x.1 &&& kb (nI (zv (κ 70 n))) = 0 := by
            rw [(h.2.1.2.1 n (by omega)).1]
            exact (kt_iff _ l.1 l.2.1).mpr hx
          exact if_pos (.inl e0)
        rw [e]
        have hz' : zZ α T L t w n x β := ⟨hz.1, hz.2.1, hz.2.2.1, hz.2.2.2.1, hz.2.2.2.2.1, fun i a b c => by
          rcases Nat.eq_or_lt_of_le a with ei | ei
          · rw [← ei]; exact hx
          · exact hz.2.2.2.2.2.1 i ei b c, hz.2.2.2.2.2.2⟩
        obtain ⟨r1, r2, r3⟩ := zZ.loop h n (m + 1) x β (by omega) (by omega) hz'
        unfold resOK at r1
        unfold a_res at r2 r3
        rw [if_pos h2] at r2 r3
        exact ⟨r1, r2, r3⟩
      | true =>
        have hL : L n = w := by
          obtain ⟨i, a, b, c⟩ := hz.2.2.2.2.2.2
          rcases Nat.eq_or_lt_of_le l.2.2.2.1 with y | y
          · exact y
          · exfalso
            have hin : i ≤ n := by
              rcases Nat.lt_or_ge n i with y | y
              · have := hz.2.2.2.2.2.1 i y a b
                rw [c] at this; cases this
              · exact y
            have := h.2.2.2.1.1 i n hin (by omega)
            omega
        obtain ⟨s1, s2⟩ := hz.step h (by omega) hL hx h2
        obtain ⟨r1, r2, r3⟩ := zZ.loop h n m _ _ (by omega) (by omega) s2
        exact ⟨fun _ => ⟨s1, r1⟩, r2, r3⟩
    · rw [if_pos (nI_lt (by omega) (by decide)), if_neg h2]
      exact ⟨fun c => absurd c h2, by omega, n + 1, hz⟩
end RS
