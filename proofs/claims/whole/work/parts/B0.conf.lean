/-! a conflict: refuted, full, learnt -/
section KC
variable {κ α : Nat → Nat → Int32} {τ τ' : (Nat → Nat → Int64) × (Nat → Nat)} {T : Nat → Int32} {L : Nat → Nat} {R : Nat → Int32} {t w n B c : Nat}
theorem zSr.cf (h : zSr κ α τ T L R t w) (h0 : a_first α 0 = some c) (hw : 1 ≤ w) : zCf α T L t w c := by
  have hW := h.1.1.2.1
  have w30 := h.w30
  obtain ⟨c1, c2, c3⟩ := a_first_is h0
  have H : ∀ k, k < aS α c → ∃ i, i < t ∧ T i = -(aL α c k) := fun k hk => (h.2.2.1.fls w30 (hW.lok30 c1 hk)).mp ((a_open0 hW c1).mp c3 k hk)
  refine ⟨c1, H, ?_⟩
  have cI := h.2.2.2.2.2.2.2.1 (w - 1) (by omega) c c1 c2
  refine Classical.byContradiction (fun no => cI (fun k hk => ?_))
  have hk : k < aS α c := hk
  obtain ⟨i, i1, i2⟩ := H k hk
  refine ⟨i, i1, i2, ?_⟩
  have := h.2.2.2.2.2.1.2.1 i i1
  rcases Nat.lt_or_ge (L i) w with x | x
  · omega
  · exact absurd ⟨k, hk, i, i1, i2, by omega⟩ no
/-- the line of a refutation -/
theorem lgR.refute {α' : Nat → Nat → Int32} (h : sN κ α τ) (h7 : α 101 7 = 0) (ea : ∀ j, ¬ stW j → ¬ j = 7 → ¬ j = 6 → ¬ j = 925 + aLn α → α' 101 j = α 101 j) (e7 : α' 101 7 = nI 1) (e6 : α' 101 6 = nI (aLn α + 1)) (e9 : α' 101 (925 + aLn α) = -1) : lgR α' := by
  obtain ⟨hLn, hL4⟩ := h.ln h7
  have h4 := h.1.2.1.2.1.2
  obtain ⟨g1, g2, g3, g4, g5, g6⟩ := h.2.2.2.2.2
  have eN : aN α' = aN α := by unfold aN; rw [ea 1 (by unfold stW; omega) (by omega) (by omega) (by omega)]
  have el : ∀ d, d < 400 → a_learnt α' d = a_learnt α d := fun d hd => by unfold a_learnt; rw [ea (525 + d) (by unfold stW; omega) (by omega) (by omega) (by omega)]
  have ez : ∀ d, d ≤ aN α → zcnt (a_learnt α') 0 d = zcnt (a_learnt α) 0 d := fun d hd => zcnt_congr (fun j x y => el j (by omega))
  have eLn : aLn α' = aLn α + 1 := by unfold aLn at *; rw [e6]; exact nI_clamp (by omega)
  have ne : ¬ α' 101 7 = 0 := by rw [e7]; decide
  refine ⟨by rw [eLn]; exact e6, .inr e7, ?_, fun d hd hl => ?_, fun _ => ?_, ?_⟩
  · rw [eLn, eN, ez _ (Nat.le_refl _), if_neg ne, hLn]
  · rw [eN] at hd
    rw [el d (by omega)] at hl
    have hlt : zcnt (a_learnt α) 0 d < aLn α := by
      have := zcnt_add (a_learnt α) (d + 1) 0 (aN α - (d + 1))
      rw [show d + 1 + (aN α - (d + 1)) = aN α from by omega, zcnt_succ, Nat.zero_add, hl, ← hLn] at this
      have h1 : (bif true then 1 else 0) = 1 := rfl
      omega
    rw [ez d (by omega), ea _ (by unfold stW; omega) (by omega) (by omega) (by omega)]
    exact g4 d hd hl
  · rw [eN, ez _ (Nat.le_refl _), ← hLn]; exact e9
  · rw [eN, ez _ (Nat.le_refl _), ea 2 (by unfold stW; omega) (by omega) (by omega) (by omega)]; exact g6
theorem conf_refuted (h : zSr κ α τ T L R t w) (h13 : κ 10 13 = nI 0) : zEd κ α τ (nI 0, zup κ 10 7 (nI 1), τ) (nI 0, a_refuted α) := by
  have w30 := h.w30
  obtain ⟨hs, h7, hT, hk, hI⟩ := h
  obtain ⟨r1, r2, r3, r4, r5, r6⟩ := hs.2.2.2.2.1
  obtain ⟨hLn, hL4⟩ := hs.ln h7.1
  have h4 := hs.1.2.1.2.1.2
  unfold a_refuted
  rw [if_pos h7.1]
  show zEd κ α τ _ (nI 0, zup (a_leaves (if (0 : Nat) = 1 then _ else _) (-1)) 101 12 (nI 0))
  rw [if_neg (by decide)]
  generalize e1 : zup (zup (zup (zup α 101 13 (nI 0)) 101 7 (nI 1)) 101 (925 + aLn α) (-1)) 101 6 (nI (aLn α + 1)) = α1
  have ea : ∀ p j, ¬ (p = 101 ∧ (j = 13 ∨ j = 7 ∨ j = 6 ∨ j = 925 + aLn α)) → α1 p j = α p j := fun p j x => by
    rw [← e1]; unfold zup
    rw [if_neg (by omega), if_neg (by omega), if_neg (by omega), if_neg (by omega)]
  have a7 : α1 101 7 = nI 1 := by rw [← e1, zup_i (by decide), zup_i (by omega), zup_same]
  have a6 : α1 101 6 = nI (aLn α + 1) := by rw [← e1, zup_same]
  have a13 : α1 101 13 = nI 0 := by rw [← e1, zup_i (by decide), zup_i (by omega), zup_i (by decide), zup_same]
  have a9 : α1 101 (925 + aLn α) = -1 := by rw [← e1, zup_i (by omega), zup_same]
  have lg : lgR α1 := lgR.refute hs h7.1 (fun j x y z u => ea 101 j (by unfold stW at x; omega)) a7 a6 a9
  have ek : ∀ p j, ¬ (p = 10 ∧ j = 7) → zup κ 10 7 (nI 1) p j = κ p j := fun p j x => if_neg x
  refine ed_of (r := 0) (L := L) (R := R) (T := T) (t := t) (w := w) (hs.upx (fun p x y => funext fun i => ek p i (by omega)) (ek 10 4 (by omega)) (fun v x y => by rw [ek 10 5 (by omega), ea 101 (32 + v) (by omega)]; exact hs.2.2.1 v x y) (fun j hj => ea 101 j (by unfold stX stW at hj; omega)) lg ⟨ek 10 6 (by omega), ?_, ?_, ?_, ?_⟩ rfl) (hT.of (fun p x y => funext fun i => ea p i (by omega)) (ea 100 10 (by omega)) ((ea 100 11 (by omega)).trans hT.1.2)) (hk.of (fun p x y => funext fun i => ek p i (by omega)) (ek 3 2 (by omega)) (ek 3 6 (by omega)) (ek 3 7 (by omega)) ((ek 3 8 (by omega)).trans hk.1.2)) w30 tFr.rf (by decide) ?_ (fun _ => ?_) (fun x => absurd rfl x) (fun x => absurd x (by decide)) (fun _ => ⟨ek 10 14 (by omega), ek 10 15 (by omega), fun j hj => ea 101 j (by omega)⟩) ⟨fun p hp => funext fun j => ea p j (by omega), fun j hj => ea 100 j (by omega), fun j hj => ea 101 j (by omega)⟩ ⟨fun p hp => funext fun j => ek p j (by omega), ek 10 16 (by omega)⟩
  · rw [ek 10 8 (by omega), ea 101 8 (by omega)]; exact r2
  · rw [ek 10 9 (by omega), ea 101 9 (by omega)]; exact r3
  · rw [ek 10 10 (by omega), ea 101 10 (by omega)]; exact r4
  · rw [ek 10 11 (by omega), ea 101 11 (by omega)]; exact r5
  · rw [zup_same, a7]
  · rw [ek 10 13 (by omega), h13, a13]
theorem conf_full (h : zSr κ α τ T L R t w) : zEd κ α τ (nI 3, κ, τ) (nI 3, a_ends α 3) := by
  show zEd κ α τ _ (nI 3, zup (a_leaves (if (3 : Nat) = 1 then _ else _) (-1)) 101 12 (nI 3))
  rw [if_neg (by decide)]
  exact ed_of (r := 3) h.1 h.2.2.1 h.2.2.2.1 h.w30 tFr.rf (by decide) (by rw [h.2.1.1, h.2.1.2]) (fun x => absurd x (by decide)) (fun _ => rfl) (fun x => absurd x (by decide)) (fun _ => ⟨rfl, rfl, fun _ _ => rfl⟩) aFr.rf.e kFr.rf.e
/-- learning, both -/
theorem conf_learn (h : zSr κ α τ T L R t w) (hc : zCo κ α n) (hn : n < B) (hB : B ≤ 200) (h9 : κ 3 9 = nI c) (h0 : a_first α 0 = some c) (hw : 1 ≤ w) (hN : aN α < 400) :
    lnOK α c ∧ kmOK κ τ ∧ ∃ T' L' R' t' w', t' ≤ 30 ∧ zSr (k_mc4 κ τ) (a_anew (zup (a_learns α c) 100 15 (α 100 15 + nI 1))) (k_rmT τ (k_leapE (k_mc3 κ))) T' L' R' t' w' ∧ zCo (k_mc4 κ τ) (a_anew (zup (a_learns α c) 100 15 (α 100 15 + nI 1))) (n + 1) ∧
      aFr α (a_anew (zup (a_learns α c) 100 15 (α 100 15 + nI 1))) ∧ kFr κ (k_mc4 κ τ) ∧ tFr τ (k_rmT τ (k_leapE (k_mc3 κ))) := by
  obtain ⟨T', L', R', t', b, ht, s1, s2, s3, s4, s5, s6, s7, s8, s9, ⟨s10, s11⟩, s12, s13, s14, s15⟩ := leap_B (κ := κ) (τ := τ) ⟨h.1, h.2.2.1, h.2.2.2.1, h.2.2.2.2, hw, h9, h.cf h0 hw, hN, h.2.1.1⟩
  obtain ⟨c1, c2, c3, c4, a, a1, a2⟩ := hc
  have ea : ∀ p j, ¬ (p = 100 ∧ j = 15) → zup (a_learns α c) 100 15 (α 100 15 + nI 1) p j = a_learns α c p j := fun p j x => if_neg x
  have ew : ∀ j, ¬ stW j → zup (a_learns α c) 100 15 (α 100 15 + nI 1) 101 j = a_learns α c 101 j := fun j _ => ea 101 j (by omega)
  obtain ⟨r1, r2, r3, r4, r5, r6⟩ := s1.2.2.2.2.1
  have z1 : zSr (k_leap (k_mc3 κ) τ) (zup (a_learns α c) 100 15 (α 100 15 + nI 1)) (k_rmT τ (k_leapE (k_mc3 κ))) T' L' R' t' b := by
    refine ⟨s1.up (fun _ _ _ => rfl) rfl (fun v x y => by rw [ea 101 (32 + v) (by omega)]; exact s1.2.2.1 v x y) ew ⟨rfl, ?_, ?_, ?_, ?_⟩ rfl, ⟨?_, ?_⟩, s2.of (fun p x y => funext fun i => ea p i (by omega)) (ea 100 10 (by omega)) ((ea 100 11 (by omega)).trans s2.1.2), s3, ?_⟩
    · rw [ea 101 8 (by omega)]; exact r2
    · rw [ea 101 9 (by omega)]; exact r3
    · rw [ea 101 10 (by omega)]; exact r4
    · rw [ea 101 11 (by omega)]; exact r5
    · rw [ea 101 7 (by omega)]; exact s10
    · rw [s11]; exact h.2.1.2
    · rw [stW.V ew, stW.Cl ew, stW.As ew]; exact s4
  have e16 : zup (a_learns α c) 100 15 (α 100 15 + nI 1) 100 16 = α 100 16 := (ea 100 16 (by omega)).trans (s12 16 (by decide) (by decide))
  have e17 : zup (a_learns α c) 100 15 (α 100 15 + nI 1) 100 17 = α 100 17 := (ea 100 17 (by omega)).trans (s12 17 (by decide) (by decide))
  obtain ⟨t2, w2, y1, y2, y3, ⟨a', y4, y5⟩, y6, y7, y8, y9⟩ := anew_both (a := a) z1 (by rw [e16, s14, c3]) (by rw [e17, s15, c4]) (by rw [e17, a2]) (by omega)
  refine ⟨s5, s6, T', L', R', t2, w2, y1.w30.1, y1, ⟨?_, ?_, y2, y3, a', by omega, y5⟩, ?_, s8.tr y9, s9⟩
  · show k_anew (k_leap (k_mc3 κ) τ) 3 11 = _
    rw [y6, s13, c1, nI_add]
  · rw [y7, zup_same, c2, nI_add]
  · refine s7.tr (aFr.tr ⟨fun p hp => funext fun j => ea p j (by omega), fun j hj => ea 100 j (by omega), fun j hj => ea 101 j (by omega)⟩ y8)
end KC
