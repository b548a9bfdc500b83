/-! the invariant at the first memory; the room of the last -/
section FZ
theorem zα1_0 {j : Nat} (h : ¬ (12 ≤ j ∧ j ≤ 15)) : zα1 101 j = 0 := by
  unfold zα1 upd
  rw [if_pos rfl, if_neg (by omega), if_neg (by omega), if_neg (by omega), if_neg (by omega)]
theorem zα1_p {p j : Nat} (h : ¬ p = 101) : zα1 p j = 0 := if_neg h
theorem zκ1_0 {p j : Nat} (h : ¬ (p = 10 ∧ (j = 12 ∨ j = 16))) : zκ1 p j = 0 := if_neg h
theorem aN_1 : aN zα1 = 0 := by unfold aN; rw [zα1_0 (by omega)]; rfl
theorem aV_1 : aV zα1 = 0 := by unfold aV; rw [zα1_0 (by omega)]; rfl
theorem aA_1 : aA zα1 = 0 := by unfold aA; rw [zα1_0 (by omega)]; rfl
theorem aLn_1 : aLn zα1 = 0 := by unfold aLn; rw [zα1_0 (by omega)]; rfl
theorem kN_1 : kN zκ1 = 0 := by unfold kN; rw [zκ1_0 (by omega)]; rfl
theorem kS_1 {i : Nat} : kS zκ1 i = 0 := by unfold kS; rw [zκ1_0 (by omega)]; rfl
theorem rw_1 {p i b : Nat} (hp : ¬ p = 10) (hi : ¬ (12 ≤ i ∧ i ≤ 15)) : rwR zκ1 p zα1 i b := by
  refine ⟨0, by decide, zκ1_0 (by omega), zα1_0 hi, fun k hk => by omega, fun v v1 v2 => ?_, fun x y _ hy => by omega⟩
  rw [show zκ1 p 2 = nI 0 from zκ1_0 (by omega), kt_n0]
  exact ⟨fun x => absurd x (by decide), fun ⟨k, x, _⟩ => by omega⟩
theorem st_1 : stR zκ1 zα1 zτ1 := by
  refine ⟨⟨⟨⟨?_, fun c hc => ?_⟩, ⟨⟨?_, ?_⟩, ⟨?_, ?_⟩, fun c hc => ?_, fun c hc => ?_⟩, fun c hc => ?_, ⟨⟨?_, ?_⟩, fun i hi => ?_, fun i hi => ?_, kS_1, ?_, by decide⟩⟩, ⟨?_, ⟨?_, ?_, fun k hk => ?_⟩, ?_, fun k hk => ?_⟩, fun v v1 v2 => .inr ⟨?_, ?_⟩, fun v v1 v2 => ?_, ⟨?_, ?_, ?_, ?_, ?_, ?_⟩, ?_, .inl ?_, ?_, fun c hc => ?_, fun x => ?_, ?_⟩, ⟨?_, ?_, ?_⟩, ⟨fun x => ?_, fun _ => ?_⟩, .inl ⟨zκ1_0 (by omega), ?_⟩, rw_1 (by omega) (by omega), rw_1 (by omega) (by omega)⟩
  · rw [zκ1_0 (by omega), zα1_0 (by omega)]
  · rw [aN_1] at hc; omega
  · rw [aV_1]; exact zα1_0 (by omega)
  · rw [aV_1]; omega
  · rw [aN_1]; exact zα1_0 (by omega)
  · rw [aN_1]; omega
  · rw [aN_1] at hc; omega
  · rw [aN_1] at hc; omega
  · rw [aN_1] at hc; omega
  · rw [kN_1]; exact zκ1_0 (by omega)
  · rw [kN_1]; omega
  · rw [kS_1]; exact zκ1_0 (by omega)
  · rw [kN_1] at hi; omega
  · rw [kS_1]; exact Nat.zero_le _
  · rw [zκ1_0 (by omega), zα1_0 (by omega)]
  · rw [aA_1]; exact zα1_0 (by omega)
  · rw [aA_1]; omega
  · rw [aA_1] at hk; omega
  · rw [zκ1_0 (by omega), zα1_0 (by omega)]
  · rw [aA_1] at hk; omega
  · rw [show zκ1 10 5 = nI 0 from zκ1_0 (by omega), kt_n0]
  · exact zα1_0 (by omega)
  · rw [zκ1_0 (by omega), zα1_0 (by omega)]
  · rw [zκ1_0 (by omega), zα1_0 (by omega)]
  · rw [zκ1_0 (by omega), zα1_0 (by omega)]
  · rw [zκ1_0 (by omega), zα1_0 (by omega)]
  · rw [zκ1_0 (by omega), zα1_0 (by omega)]
  · rw [zκ1_0 (by omega), zα1_0 (by omega)]
  · rw [zκ1_0 (by omega), zα1_0 (by omega)]
  · rw [aLn_1]; exact zα1_0 (by omega)
  · exact zα1_0 (by omega)
  · rw [aLn_1, aN_1, if_pos (zα1_0 (by omega))]; rfl
  · rw [aN_1] at hc; omega
  · exact absurd (zα1_0 (by omega)) x
  · rw [aN_1]; exact zα1_0 (by omega)
  · rw [zκ1_0 (by omega), zα1_0 (by omega)]
  · rfl
  · rfl
  · exact absurd x (by decide)
  · rfl
  · rfl
theorem zI_1 : zI 0 zκ1 zα1 zτ1 := by
  refine ⟨st_1, ⟨0, by decide, zκ1_0 (by omega), zα1_p (by decide), fun i hi => by omega, ?_⟩, .inl ⟨zκ1_0 (by omega), zα1_p (by decide), rfl⟩, .inl ⟨zκ1_0 (by omega), zα1_p (by decide), rfl⟩, ⟨⟨by decide, by decide, by decide⟩, ⟨0, by decide, zα1_0 (by omega)⟩, ⟨0, by decide, zα1_p (by decide)⟩, ⟨0, by decide, zα1_p (by decide)⟩⟩, zα1_p (by decide)⟩
  rw [zκ1_0 (by omega), zα1_p (by decide)]
theorem rm_b1 {A K a b c p q : Nat} (h : A * 512 ≤ 60000 + 512 * K + a + p + q) (hK : K ≤ 512) (ha : a ≤ 24000) (hp : p ≤ 6144 + b) (hb : b ≤ 24000) (hq : q ≤ 6144 + c) (hc : c ≤ 24000) : A ≤ 671359 := by omega
theorem rm_b2 {A K a b c p q : Nat} (h : A ≤ 200000 + 6 * K + 2 * a + p + q) (hK : K ≤ 512) (ha : a ≤ 24000) (hp : p ≤ 2190 + 2 * b) (hb : b ≤ 24000) (hq : q ≤ 2190 + 2 * c) (hc : c ≤ 24000) : A ≤ 7082027 := by omega
theorem zI_room {k : Nat} {κ α : Nat → Nat → Int32} {τ : (Nat → Nat → Int64) × (Nat → Nat)} (h : zI k κ α τ) (hk : k ≤ 512) : τ.2 5 ≤ 671359 ∧ τ.2 6 ≤ 7082027 := by
  have a0 : τ.2 0 ≤ 24000 := h.1.1.1.2.2.2.2.2.2.2.2
  have kp : ∀ g, kpR κ α τ g → τ.2 (g + 2) = 1 → τ.2 g ≤ 24000 := fun g x y => by
    rcases x with ⟨-, -, z⟩ | ⟨-, -, -, -, z⟩
    · omega
    · exact z.1.1.2.2.2.2.2.2.2.2
  have k1 := kp 1 h.2.2.1
  have k2 := kp 2 h.2.2.2.1
  obtain ⟨-, r1, r2⟩ := h.2.2.2.2.1.1
  by_cases e3 : τ.2 3 = 1
  · have b1 := k1 e3
    rw [if_pos e3] at r1 r2
    by_cases e4 : τ.2 4 = 1
    · have b2 := k2 e4
      rw [if_pos e4] at r1 r2
      exact ⟨rm_b1 r1 hk a0 (Nat.le_refl _) b1 (Nat.le_refl _) b2, rm_b2 r2 hk a0 (Nat.le_refl _) b1 (Nat.le_refl _) b2⟩
    · rw [if_neg e4] at r1 r2
      exact ⟨rm_b1 r1 hk a0 (Nat.le_refl _) b1 (c := 0) (Nat.zero_le _) (Nat.zero_le _), rm_b2 r2 hk a0 (Nat.le_refl _) b1 (c := 0) (Nat.zero_le _) (Nat.zero_le _)⟩
  · rw [if_neg e3] at r1 r2
    by_cases e4 : τ.2 4 = 1
    · have b2 := k2 e4
      rw [if_pos e4] at r1 r2
      exact ⟨rm_b1 r1 hk a0 (b := 0) (Nat.zero_le _) (Nat.zero_le _) (Nat.le_refl _) b2, rm_b2 r2 hk a0 (b := 0) (Nat.zero_le _) (Nat.zero_le _) (Nat.le_refl _) b2⟩
    · rw [if_neg e4] at r1 r2
      exact ⟨rm_b1 r1 hk a0 (b := 0) (Nat.zero_le _) (Nat.zero_le _) (c := 0) (Nat.zero_le _) (Nat.zero_le _), rm_b2 r2 hk a0 (b := 0) (Nat.zero_le _) (Nat.zero_le _) (c := 0) (Nat.zero_le _) (Nat.zero_le _)⟩
end FZ
