/-! steps that learn nothing -/
def zCo (κ α : Nat → Nat → Int32) (n : Nat) : Prop := κ 3 11 = nI n ∧ α 100 15 = nI n ∧ κ 3 12 = α 100 16 ∧ κ 3 13 = α 100 17 ∧ ∃ a, a ≤ n ∧ α 100 17 = nI a
section ST
variable {κ α : Nat → Nat → Int32} {τ : (Nat → Nat → Int64) × (Nat → Nat)} {T : Nat → Int32} {L : Nat → Nat} {R : Nat → Int32} {t w : Nat}
theorem zSr.as (h : zSr κ α τ T L R t w) : asR (κ 3 6) (κ 3 7) (α 105) := zT_asR h.w30 h.2.2.1 h.2.2.2.1
theorem zSr.aQR (h : zSr κ α τ T L R t w) : aQ α t ∧ aR α t := by
  have w30 := h.w30
  refine ⟨⟨h.2.2.1.1.1, w30.1, fun i hi => ?_⟩, fun i hi e => ?_⟩
  · rw [(h.2.2.1.2.1 i hi).1]; exact w30.2.1 i hi
  · rw [(h.2.2.1.2.1 i hi).1, (h.2.2.1.2.1 i hi).2.2.1] at e ⊢
    rcases h.2.2.2.2.2.2.1 i hi with x | ⟨c, c1, c2, -⟩
    · exact absurd x.1 e
    · exact ⟨c, c1, c2⟩
theorem zSr.lw (h : zSr κ α τ T L R t w) : w ≤ 30 := by have := h.2.2.2.2.2.1.le; have := h.w30.1; omega
theorem zSr.kB {n : Nat} (h : zSr κ α τ T L R t w) (hc : zCo κ α n) (hn : n ≤ 200) : kB κ τ := by
  have w30 := h.w30
  have hW := h.1.1.2.1
  refine ⟨h.1.1.2.2.2, ?_, ⟨t, ⟨h.2.2.2.1.1.1, w30.1, fun i hi => ?_⟩, fun i hi e => ?_⟩, ⟨w, h.lw, h.2.2.2.1.1.2⟩, ?_⟩
  · rw [h.1.V, h.1.2.1.1]; exact hW.1
  · rw [(h.2.2.2.1.2.1 i hi).1]; exact w30.2.1 i hi
  · rw [(h.2.2.2.1.2.1 i hi).1, (h.2.2.2.1.2.1 i hi).2.2] at e ⊢
    rcases h.2.2.2.2.2.2.1 i hi with x | ⟨c, c1, c2, -⟩
    · exact absurd x.1 e
    · exact ⟨c, Nat.lt_of_lt_of_le c1 hW.2.1.2, c2⟩
  · obtain ⟨a, a1, a2⟩ := hc.2.2.2.2
    exact ⟨a, by omega, hc.2.2.2.1.trans a2⟩
theorem zSr.kAL (h : zSr κ α τ T L R t w) : kAL κ := by
  obtain ⟨q1, q2, q3, q4⟩ := h.1.2.1
  have e : kA κ = aA α := by unfold kA aA; rw [q3]
  refine ⟨?_, ?_, fun i hi => ?_⟩
  · rw [e, q3]; exact q2.1
  · rw [e]; exact q2.2.1
  · rw [e] at hi; rw [q4 i hi]; exact (q2.2.2 i hi).mono h.1.1.2.1.1.2
/-- a literal is put on both trails -/
theorem zSr.puts {κ1 α1 : Nat → Nat → Int32} {w1 : Nat} {l r : Int32} (hs : sN κ1 α1 τ) (h7 : α1 101 7 = 0 ∧ κ1 10 7 = 0) (hT : aT α1 T L R t w1) (hk : kT κ1 T L R t w1) (hw : tW 30 T t) (hl : lok 30 l) (hn : ∀ i, i < t → ¬ zv (T i) = zv l) (ht : t < 30)
    (hI : tI (aV α1) (aCl α1) (aAs α1) (zpt T t l) (zpt L t w1) (zpt R t r) (t + 1) w1) : zSr (k_sput κ1 l r) (a_comes α1 l r) τ (zpt T t l) (zpt L t w1) (zpt R t r) (t + 1) w1 := by
  have ew : ∀ j, ¬ stW j → a_comes α1 l r 101 j = α1 101 j := fun j _ => a_comes_at (by omega)
  refine ⟨hs.put, ⟨?_, ?_⟩, hT.put hw hl hn ht, hk.put hw hl hn ht, ?_⟩
  · rw [ew 7 (by unfold stW; omega)]; exact h7.1
  · rw [k_sput_p (by decide) (by decide) (by decide) (by decide)]; exact h7.2
  · rw [stW.V ew, stW.Cl ew, stW.As ew]; exact hI
theorem zCo.put {κ1 α1 : Nat → Nat → Int32} {n : Nat} {l r : Int32} (hc : zCo κ1 α1 n) : zCo (k_sput κ1 l r) (a_comes α1 l r) n := by
  unfold zCo
  rw [k_sput_3 (by decide) (by decide) (by decide), k_sput_3 (by decide) (by decide) (by decide), k_sput_3 (by decide) (by decide) (by decide), a_comes_at (by omega), a_comes_at (by omega), a_comes_at (by omega)]
  exact hc
/-- the class's look changes only where it looks -/
theorem zSr.look (h : zSr κ α τ T L R t w) : zSr (k_look κ) α τ T L R t w := by
  obtain ⟨hs, h7, hT, hk, hI⟩ := h
  refine ⟨hs.up (fun p a b => k_look_p (by omega)) (by rw [k_look_p (by decide)]) (fun v a b => by rw [k_look_p (by decide)]; exact hs.2.2.1 v a b) (fun _ _ => rfl) (by rw [k_look_p (by decide)]; exact ⟨rfl, hs.2.2.2.2.1.2.1, hs.2.2.2.2.1.2.2.1, hs.2.2.2.2.1.2.2.2.1, hs.2.2.2.2.1.2.2.2.2.1⟩) rfl, ⟨h7.1, by rw [k_look_p (by decide)]; exact h7.2⟩, hT, hk.of (fun p a b => k_look_p (by omega)) (k_look_i (by decide) (by decide)) (k_look_i (by decide) (by decide)) (k_look_i (by decide) (by decide)) ((k_look_i (by decide) (by decide)).trans hk.1.2), hI⟩
theorem zCo.look {n : Nat} (hc : zCo κ α n) : zCo (k_look κ) α n := by
  unfold zCo
  rw [k_look_i (by decide) (by decide), k_look_i (by decide) (by decide), k_look_i (by decide) (by decide)]; exact hc
theorem k_look_F : kFr κ (k_look κ) := ⟨fun p hp => k_look_p (by omega), fun j hj => by rw [k_look_p (by decide)]⟩
/-- one of the counters, or the level, is raised -/
theorem zSr.cnt {κ1 α1 : Nat → Nat → Int32} {w1 : Nat} (h : zSr κ α τ T L R t w) (hw : κ1 3 8 = nI w1 ∧ α1 100 11 = nI w1) (ek : ∀ p j, ¬ (p = 3 ∧ j = 8) → ¬ (p = 10 ∧ (j = 9 ∨ j = 10)) → κ1 p j = κ p j) (ea : ∀ p j, ¬ (p = 100 ∧ j = 11) → ¬ (p = 101 ∧ (j = 9 ∨ j = 10)) → α1 p j = α p j) (e9 : κ1 10 9 = α1 101 9) (e10 : κ1 10 10 = α1 101 10) :
    sN κ1 α1 τ ∧ (α1 101 7 = 0 ∧ κ1 10 7 = 0) ∧ aT α1 T L R t w1 ∧ kT κ1 T L R t w1 ∧ (aV α1 = aV α ∧ aCl α1 = aCl α ∧ aAs α1 = aAs α) ∧ aFr α α1 ∧ kFr κ κ1 := by
  obtain ⟨hs, h7, hT, hk, hI⟩ := h
  have ew : ∀ j, ¬ stW j → α1 101 j = α 101 j := fun j hj => ea 101 j (by omega) (by unfold stW at hj; omega)
  obtain ⟨r1, r2, r3, r4, r5, r6⟩ := hs.2.2.2.2.1
  refine ⟨hs.up (fun p x y => funext fun i => ek p i (by omega) (by omega)) (ek 10 4 (by omega) (by omega)) (fun v x y => by rw [ek 10 5 (by omega) (by omega), ea 101 (32 + v) (by omega) (by omega)]; exact hs.2.2.1 v x y) ew ⟨ek 10 6 (by omega) (by omega), ?_, e9, e10, ?_⟩ rfl, ⟨?_, ?_⟩, hT.of (fun p x y => funext fun i => ea p i (by omega) (by omega)) (ea 100 10 (by omega) (by omega)) hw.2, hk.of (fun p x y => funext fun i => ek p i (by omega) (by omega)) (ek 3 2 (by omega) (by omega)) (ek 3 6 (by omega) (by omega)) (ek 3 7 (by omega) (by omega)) hw.1, ⟨stW.V ew, stW.Cl ew, stW.As ew⟩, ⟨fun p hp => funext fun j => ea p j (by omega) (by omega), fun j hj => ea 100 j (by omega) (by omega), fun j hj => ea 101 j (by omega) (by omega)⟩, ⟨fun p hp => funext fun j => ek p j (by omega) (by omega), fun j hj => ek 10 j (by omega) (by omega)⟩⟩
  · rw [ek 10 8 (by omega) (by omega), ea 101 8 (by omega) (by omega)]; exact r2
  · rw [ek 10 11 (by omega) (by omega), ea 101 11 (by omega) (by omega)]; exact r5
  · rw [ew 7 (by unfold stW; omega)]; exact h7.1
  · rw [ek 10 7 (by omega) (by omega)]; exact h7.2
theorem zCo.cnt {κ1 α1 : Nat → Nat → Int32} {n : Nat} (hc : zCo κ α n) (ek : ∀ p j, ¬ (p = 3 ∧ j = 8) → ¬ (p = 10 ∧ (j = 9 ∨ j = 10)) → κ1 p j = κ p j) (ea : ∀ p j, ¬ (p = 100 ∧ j = 11) → ¬ (p = 101 ∧ (j = 9 ∨ j = 10)) → α1 p j = α p j) : zCo κ1 α1 n := by
  unfold zCo
  rw [ek 3 11 (by omega) (by omega), ek 3 12 (by omega) (by omega), ek 3 13 (by omega) (by omega), ea 100 15 (by omega) (by omega), ea 100 16 (by omega) (by omega), ea 100 17 (by omega) (by omega)]
  exact hc
end ST
