/-! the leap, with the learnt literal put -/
/-- what the search leaves as it was: the reference -/
def aFr (α α' : Nat → Nat → Int32) : Prop := (∀ p, ¬ (p = 100 ∨ p = 101 ∨ (105 ≤ p ∧ p ≤ 109) ∨ (112 ≤ p ∧ p ≤ 114)) → α' p = α p) ∧ (∀ j, ¬ (j = 10 ∨ j = 11 ∨ (15 ≤ j ∧ j ≤ 17)) → α' 100 j = α 100 j) ∧ ∀ j, j = 0 ∨ j = 2 ∨ j = 4 ∨ (12 ≤ j ∧ j ≤ 15) ∨ (24 ≤ j ∧ j ≤ 31) ∨ (94 ≤ j ∧ j ≤ 124) → α' 101 j = α 101 j
/-- and the class -/
def kFr (κ κ' : Nat → Nat → Int32) : Prop := (∀ p, ¬ (p = 3 ∨ (10 ≤ p ∧ p ≤ 16) ∨ p = 21 ∨ (70 ≤ p ∧ p ≤ 74)) → κ' p = κ p) ∧ ∀ j, 12 ≤ j → κ' 10 j = κ 10 j
/-- and the ghosts -/
def tFr (τ τ' : (Nat → Nat → Int64) × (Nat → Nat)) : Prop := τ'.1 = τ.1 ∧ (∀ k, k ≠ 0 → k ≠ 5 → k ≠ 6 → τ'.2 k = τ.2 k) ∧ τ.2 0 ≤ τ'.2 0 ∧ (512 ≤ τ.2 0 → τ'.2 5 * 512 + τ.2 0 ≤ τ.2 5 * 512 + τ'.2 0 ∧ τ'.2 6 + 2 * τ.2 0 ≤ τ.2 6 + 2 * τ'.2 0)
section LQ
variable {κ κ' κ'' α α' α'' : Nat → Nat → Int32} {τ τ' τ'' : (Nat → Nat → Int64) × (Nat → Nat)} {T : Nat → Int32} {L : Nat → Nat} {R : Nat → Int32} {t w c : Nat}
theorem tFr_n {a b c d e f p q r : Nat} (h1 : b * 512 + p ≤ a * 512 + q) (h1' : e + 2 * p ≤ d + 2 * q) (h2 : c * 512 + q ≤ b * 512 + r) (h2' : f + 2 * q ≤ e + 2 * r) : c * 512 + p ≤ a * 512 + r ∧ f + 2 * p ≤ d + 2 * r := by omega
theorem aFr.rf : aFr α α := ⟨fun _ _ => rfl, fun _ _ => rfl, fun _ _ => rfl⟩
theorem kFr.rf : kFr κ κ := ⟨fun _ _ => rfl, fun _ _ => rfl⟩
theorem tFr.rf : tFr τ τ := ⟨rfl, fun _ _ _ _ => rfl, Nat.le_refl _, fun _ => ⟨Nat.le_refl _, Nat.le_refl _⟩⟩
theorem aFr.tr (h : aFr α α') (k : aFr α' α'') : aFr α α'' := ⟨fun p hp => (k.1 p hp).trans (h.1 p hp), fun j hj => (k.2.1 j hj).trans (h.2.1 j hj), fun j hj => (k.2.2 j hj).trans (h.2.2 j hj)⟩
theorem kFr.tr (h : kFr κ κ') (k : kFr κ' κ'') : kFr κ κ'' := ⟨fun p hp => (k.1 p hp).trans (h.1 p hp), fun j hj => (k.2 j hj).trans (h.2 j hj)⟩
theorem tFr.tr (h : tFr τ τ') (k : tFr τ' τ'') : tFr τ τ'' := ⟨k.1.trans h.1, fun x a b c => (k.2.1 x a b c).trans (h.2.1 x a b c), Nat.le_trans h.2.2.1 k.2.2.1, fun x => by
  obtain ⟨h1, h1'⟩ := h.2.2.2 x
  obtain ⟨h2, h2'⟩ := k.2.2.2 (Nat.le_trans x h.2.2.1)
  exact tFr_n h1 h1' h2 h2'⟩
theorem k_rmT_F {n : Nat} : tFr τ (k_rmT τ n) := by
  unfold k_rmT
  by_cases h : n ≤ τ.2 0
  · rw [if_pos h]; exact tFr.rf
  · rw [if_neg h]
    have hk : 2 * τ.2 0 ≤ kRl (τ.2 0) n := by unfold kRl; rw [if_neg h]; split <;> omega
    refine ⟨rfl, fun k a b c => ?_, ?_, fun x => ⟨?_, ?_⟩⟩
    · show (if k = 0 then _ else if k = 5 then _ else if k = 6 then _ else τ.2 k) = _
      rw [if_neg a, if_neg b, if_neg c]
    · show τ.2 0 ≤ kRl (τ.2 0) n
      omega
    · show (τ.2 5 + 1) * 512 + τ.2 0 ≤ τ.2 5 * 512 + kRl (τ.2 0) n
      omega
    · show τ.2 6 + kRl (τ.2 0) n + 2 * τ.2 0 ≤ τ.2 6 + 2 * kRl (τ.2 0) n
      omega
/-- a literal put on both trails -/
theorem sN.put (h : sN κ α τ) {l l' r r' : Int32} : sN (k_sput κ l r) (a_comes α l' r') τ :=
  h.up (fun p a b => k_sput_p (by omega) (by omega) (by omega) (by omega)) (by rw [k_sput_p (by decide) (by decide) (by decide) (by decide)]) (fun v a b => by
    rw [k_sput_p (by decide) (by decide) (by decide) (by decide), a_comes_at (by omega)]; exact h.2.2.1 v a b) (fun j _ => a_comes_at (by omega)) (by
    rw [k_sput_p (by decide) (by decide) (by decide) (by decide), a_comes_at (by omega), a_comes_at (by omega), a_comes_at (by omega), a_comes_at (by omega)]
    exact ⟨rfl, h.2.2.2.2.1.2.1, h.2.2.2.2.1.2.2.1, h.2.2.2.2.1.2.2.2.1, h.2.2.2.2.1.2.2.2.2.1⟩) rfl
theorem a_comes_F {l r : Int32} : aFr α (a_comes α l r) := by
  refine ⟨fun p hp => funext fun j => ?_, fun j hj => ?_, fun j hj => ?_⟩
  · unfold a_comes
    rw [zup_p (by omega), zup_p (by omega), zup_p (by omega), zup_p (by omega), zup_p (by omega), zup_p (by omega)]
  · unfold a_comes
    rw [zup_i (by omega), zup_p (by decide), zup_p (by decide), zup_p (by decide), zup_p (by decide), zup_p (by decide)]
  · exact a_comes_at (by omega)
theorem k_sput_F {l r : Int32} : kFr κ (k_sput κ l r) := ⟨fun p hp => k_sput_p (by omega) (by omega) (by omega) (by omega), fun j _ => by rw [k_sput_p (by decide) (by decide) (by decide) (by decide)]⟩
theorem leap_B (h : zCn κ α τ T L R t w c) : ∃ T' L' R' t' b, t' ≤ 30 ∧ sN (k_leap (k_mc3 κ) τ) (a_learns α c) (k_rmT τ (k_leapE (k_mc3 κ))) ∧ aT (a_learns α c) T' L' R' t' b ∧ kT (k_leap (k_mc3 κ) τ) T' L' R' t' b ∧
    tI (aV (a_learns α c)) (aCl (a_learns α c)) (aAs (a_learns α c)) T' L' R' t' b ∧ lnOK α c ∧ kmOK κ τ ∧ aFr α (a_learns α c) ∧ kFr κ (k_leap (k_mc3 κ) τ) ∧ tFr τ (k_rmT τ (k_leapE (k_mc3 κ))) ∧
    (a_learns α c 101 7 = 0 ∧ k_leap (k_mc3 κ) τ 10 7 = κ 10 7) ∧ (∀ j, 15 ≤ j → j ≤ 17 → a_learns α c 100 j = α 100 j) ∧ k_leap (k_mc3 κ) τ 3 11 = κ 3 11 + nI 1 ∧ k_leap (k_mc3 κ) τ 3 12 = κ 3 12 + nI 1 ∧ k_leap (k_mc3 κ) τ 3 13 = κ 3 13 := by
  obtain ⟨b, ⟨b1, b2, b3, b4⟩, s1, s2, s3, s4, s5, s6, s7, s8, s9, s10, s11, s12⟩ := leap_A h
  have hA := h.an
  obtain ⟨hs, ha, hk, hI, h1w, h9, hc, hN, h7⟩ := h
  have hV30 := hs.1.2.1.1.2
  have w30 := hA.w30
  have ht30 := w30.1
  have hwt := hI.2.1.le
  obtain ⟨m1, m2, m3, m4, m5, m6, m7, m8⟩ := mc3_all hA hs.V h9 hc hs.2.2.2.1
  obtain ⟨b', b7, b5, -, b6⟩ := leap_lv hA hs.V h9 hc hs.2.2.2.1 hN (by have := hs.ln h7; omega)
  have eb : b' = b := (nI_eq (by omega) (by omega)).mp (b5.symm.trans b2)
  subst eb
  have J := tC_iff (L := L) (b := b') (by omega) t hI.2.1.1 (fun i hi => by have := hI.2.1.2.1 i hi; omega)
  have hlen := m8.1
  obtain ⟨i0, i1, i2, i3, i4, -⟩ := m8.2.1 0 (by omega)
  have i4 := i4 rfl
  have T0 := w30.2.1 i0 i1
  have N0 := a_tr_neg T0
  -- the learnt literal
  have x0V : lok (aV α) ((a_lst α c).getD 0 0) := by rw [i2]; exact (hI.1.2.1 i0 i1).neg hV30
  have nx : ∀ i, i < tC L (nI b') t → ¬ i = i0 := fun i hi e => by have := ((J i).mp hi).2; rw [e] at this; omega
  have hn : ∀ i, i < tC L (nI b') t → ¬ zv (T i) = zv ((a_lst α c).getD 0 0) := fun i hi e => by
    rw [i2, N0.2.1] at e
    exact nx i hi (w30.ne ((J i).mp hi).1 i1 e)
  have t30 : tC L (nI b') t < 30 := by omega
  have k74 : k_mc3 κ 74 0 = (a_lst α c).getD 0 0 := m1.2 0 (by omega)
  have eN3 : kN (k_mc3 κ) = aN α := by unfold kN; rw [k_mc3_p (by decide) (by decide) (by decide) (by decide) (by decide)]; exact hs.1.1.n
  have a0 : a_l10 α c 101 (1326 + 30 * aN α + 0) = (a_lst α c).getD 0 0 := s5 0 (by omega)
  have eB : a_learns α c = a_comes (a_l10 α c) ((a_lst α c).getD 0 0) (nI (aN α)) := by unfold a_learns; rw [a0]
  have eK : k_leap (k_mc3 κ) τ = k_sput (k_leapA (k_mc3 κ) τ) ((a_lst α c).getD 0 0) (nI (aN α)) := by unfold k_leap; rw [k74, eN3]
  have w30' := w30.pre (s := tC L (nI b') t) (by omega)
  have x030 := x0V.mono hV30
  have A7 := s2.put (r := nI (aN α)) w30' x030 hn t30
  have K7 := s3.put (r := nI (aN α)) w30' x030 hn t30
  rw [← eB] at A7
  rw [← eK] at K7
  have S7 := s1.put (l := (a_lst α c).getD 0 0) (l' := (a_lst α c).getD 0 0) (r := nI (aN α)) (r' := nI (aN α))
  rw [← eB, ← eK] at S7
  have ew : ∀ j, ¬ stW j → a_learns α c 101 j = a_l10 α c 101 j := fun j _ => by rw [eB]; exact a_comes_at (by omega)
  have hln9 : ∀ d, d < aN α → ∀ j, (j = 125 + d ∨ j = 525 + d ∨ ∃ k, k < 30 ∧ j = 1326 + 30 * d + k) → ¬ (33 ≤ j ∧ j ≤ 62) ∧ ¬ l9W α (a_lst α c).length 101 j := fun d hd j hj => by
    obtain ⟨-, hL4⟩ := hs.ln h7
    unfold l9W
    rcases hj with x | x | ⟨k, x, y⟩ <;> omega
  have tI7 : tI (aV (a_learns α c)) (aCl (a_learns α c)) (aAs (a_learns α c)) (zpt T (tC L (nI b') t) ((a_lst α c).getD 0 0)) (zpt L (tC L (nI b') t) b') (zpt R (tC L (nI b') t) (nI (aN α))) (tC L (nI b') t + 1) b' := by
    rw [stW.V ew, stW.Cl ew, stW.As ew]
    have eV : aV (a_l10 α c) = aV α := by unfold aV; rw [s4 0 (by omega) (by unfold l9W; omega)]
    have eAs : aAs (a_l10 α c) = aAs α := by
      unfold aAs
      rw [show aA (a_l10 α c) = aA α from by unfold aA; rw [s4 3 (by omega) (by unfold l9W; omega)]]
      refine congrArg (Prod.mk _) (funext fun k => ?_)
      by_cases hk : k < 8
      · rw [if_pos hk, if_pos hk, s4 (16 + k) (by omega) (by unfold l9W; omega)]
      · rw [if_neg hk, if_neg hk]
    rw [eV, eAs]
    refine tI.drawn (C := aCl (a_l10 α c)) ((hI.cut (b := b') (by omega)).more (C' := aCl (a_l10 α c)) s6 (fun d hd => ?_) (fun d hd => ?_) (fun d hd k hk => ?_) ⟨0, ?_, fun i hi e => ?_⟩) x0V hn t30 (c := aN α) (by show aN α < aN (a_l10 α c); omega) rfl ?_ ⟨0, ?_, ?_⟩ (fun k hk ek => ?_)
    · show a_gone (a_l10 α c) d = a_gone α d
      have := hln9 d hd (525 + d) (.inr (.inl rfl))
      unfold a_gone; rw [s4 _ this.1 this.2]
    · show aS (a_l10 α c) d = aS α d
      have := hln9 d hd (125 + d) (.inl rfl)
      unfold aS; rw [s4 _ this.1 this.2]
    · show aL (a_l10 α c) d k = aL α d k
      have hk : k < aS α d := hk
      have h30 := hs.1.2.1.s30' hd
      have := hln9 d hd (1326 + 30 * d + k) (.inr (.inr ⟨k, by omega, rfl⟩))
      exact s4 _ this.1 this.2
    · show 0 < aS (a_l10 α c) (aN α); rw [s7]; omega
    · have e : T i = -(aL (a_l10 α c) (aN α) 0) := e
      rw [s5 0 (by omega), i2, N0.2.2] at e
      exact nx i hi (w30.ne ((J i).mp hi).1 i1 (by rw [e]))
    · exact (show ∀ n < 400, ¬ nI n = -1 by decide +kernel) _ hN
    · show 0 < aS (a_l10 α c) (aN α); rw [s7]; omega
    · exact s5 0 (by omega)
    · have hk : k < aS (a_l10 α c) (aN α) := hk
      rw [s7] at hk
      have ek : ¬ aL (a_l10 α c) (aN α) k = (a_lst α c).getD 0 0 := ek
      have k0 : 0 < k := by
        rcases Nat.eq_zero_or_pos k with x | x
        · subst x; exact absurd (s5 0 hk) ek
        · exact x
      obtain ⟨j, j1, j2, j3⟩ := b6 k k0 hk
      refine ⟨j, (J j).mpr ⟨j1, j3⟩, ?_⟩
      show T j = -(aL (a_l10 α c) (aN α) k)
      rw [s5 k hk, j2, (a_tr_neg (w30.2.1 j j1)).2.2]
  refine ⟨_, _, _, tC L (nI b') t + 1, b', by omega, S7, A7, K7, tI7, ?_, ?_, ?_, ?_, k_rmT_F, ⟨?_, ?_⟩, fun j x y => ?_, ?_, ?_, ?_⟩
  · exact ⟨m4, m5, m6, m7, hlen.1, hlen.2, _, s2.1.1, t30⟩
  · refine ⟨⟨c, Nat.lt_of_lt_of_le hc.1 hs.1.2.1.2.1.2, h9⟩, m3, ⟨(a_lst α c).length, hlen.1, hlen.2, m1.1, fun i hi => ?_⟩, ⟨_, t30, b4⟩, tC L (nI b') t + 1, K7.1.1, by omega, fun i hi => ?_⟩
    · rw [show k_mc3 κ 74 i = _ from m1.2 i hi]
      obtain ⟨j, j1, j2, -⟩ := m8.2.1 i hi
      rw [j2]; exact (a_tr_neg (w30.2.1 j j1)).1
    · rw [(K7.2.1 i hi).1]
      exact (w30'.put x030 hn t30).2.1 i hi
  · rw [eB]
    refine aFr.tr ⟨fun p hp => s11 p (by omega), fun j hj => s8 j (by omega) (by omega), fun j hj => s4 j (by omega) (by unfold l9W; omega)⟩ a_comes_F
  · rw [eK]
    exact kFr.tr ⟨fun p hp => s12 p (by omega), fun j hj => s10 j (by omega) (by omega)⟩ k_sput_F
  · rw [ew 7 (by unfold stW; omega), s4 7 (by omega) (by unfold l9W; omega)]; exact h7
  · rw [eK, k_sput_p (by decide) (by decide) (by decide) (by decide), s10 7 (by decide) (by decide)]
  · rw [eB, show a_comes (a_l10 α c) _ _ 100 j = a_l10 α c 100 j from by unfold a_comes; rw [zup_i (by omega), zup_p (by decide), zup_p (by decide), zup_p (by decide), zup_p (by decide), zup_p (by decide)]]
    exact s8 j (by omega) (by omega)
  · rw [eK, k_sput_3 (by decide) (by decide) (by decide), s9 11 (by decide)]; exact mc3_c.2.1
  · rw [eK, k_sput_3 (by decide) (by decide) (by decide), s9 12 (by decide)]; exact mc3_c.2.2
  · rw [eK, k_sput_3 (by decide) (by decide) (by decide), s9 13 (by decide)]
    exact k_mc3_i (.inl rfl) (.inr (by decide)) (by decide) (by decide) (by decide) (by decide) (by decide)
end LQ
