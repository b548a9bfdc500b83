/-! class and reference alike, between two calls -/
/-- a row of literals of at most eight -/
def rwR (κ : Nat → Nat → Int32) (p : Nat) (α : Nat → Nat → Int32) (i b : Nat) : Prop := ∃ D, D ≤ 8 ∧ κ p 1 = nI D ∧ α 101 i = nI D ∧ (∀ k, k < D → κ (p + 1) k = α 101 (b + k) ∧ lok (aV α) (α 101 (b + k))) ∧ (∀ v, 1 ≤ v → v ≤ 30 → (kt (κ p 2) v = true ↔ ∃ k, k < D ∧ zv (α 101 (b + k)) = v)) ∧ ∀ x y, x < y → y < D → ¬ zv (α 101 (b + x)) = zv (α 101 (b + y))
def moR (κ α : Nat → Nat → Int32) : Prop := (κ 10 15 = nI 0 ∧ α 101 14 = -1) ∨ ∃ M, M ≤ 30 ∧ κ 10 15 = nI M ∧ α 101 14 = nI M ∧ ∀ v, 1 ≤ v → v ≤ M → (kt (κ 10 14) v = true ∧ α 101 (94 + v) = nI 1) ∨ (kt (κ 10 14) v = false ∧ α 101 (94 + v) = nI 0)
def oR (κ α : Nat → Nat → Int32) : Prop :=
  (κ 10 7 = α 101 7 ∧ κ 10 12 = α 101 12 ∧ κ 10 16 = α 101 15) ∧ ((κ 10 12 = 0 → κ 10 13 = α 101 13) ∧ (¬ κ 10 12 = 0 → α 101 13 = -1)) ∧ moR κ α ∧ rwR κ 17 α 4 24 ∧ rwR κ 19 α 3 16
def stR (κ α : Nat → Nat → Int32) (τ : (Nat → Nat → Int64) × (Nat → Nat)) : Prop := sN κ α τ ∧ oR κ α
/-- the text -/
def txR (κ α : Nat → Nat → Int32) : Prop := ∃ t, t ≤ 400 ∧ κ 5 5 = nI t ∧ α 100 22 = nI t ∧ (∀ i, i < t → κ 77 i = α 121 i ∧ ∃ b : Int8, α 121 i = b.toInt32) ∧ κ 5 6 = α 100 25
/-- the place of a kept state -/
def kSh (κ : Nat → Nat → Int32) (g : Nat) : Nat → Nat → Int32 := fun p j => κ (p + 20 * g) j
def aSh (α : Nat → Nat → Int32) (g : Nat) : Nat → Nat → Int32 := fun _ j => α 103 (13326 * (g - 1) + j)
def tSh (τ : (Nat → Nat → Int64) × (Nat → Nat)) (g : Nat) : (Nat → Nat → Int64) × (Nat → Nat) := (τ.1, fun _ => τ.2 g)
def kpR (κ α : Nat → Nat → Int32) (τ : (Nat → Nat → Int64) × (Nat → Nat)) (g : Nat) : Prop :=
  (κ 2 (g - 1) = 0 ∧ α 104 (g - 1) = 0 ∧ τ.2 (g + 2) = 0) ∨ (¬ κ 2 (g - 1) = 0 ∧ ¬ α 104 (g - 1) = 0 ∧ τ.2 (g + 2) = 1 ∧ 512 ≤ τ.2 g ∧ stR (kSh κ g) (aSh α g) (tSh τ g))
/-- the room that is used -/
def rmI (k : Nat) (τ : (Nat → Nat → Int64) × (Nat → Nat)) : Prop := 512 ≤ τ.2 0 ∧ τ.2 5 * 512 ≤ 60000 + 512 * k + τ.2 0 + (if τ.2 3 = 1 then 6144 + τ.2 1 else 0) + (if τ.2 4 = 1 then 6144 + τ.2 2 else 0) ∧ τ.2 6 ≤ 200000 + 6 * k + 2 * τ.2 0 + (if τ.2 3 = 1 then 2190 + 2 * τ.2 1 else 0) + (if τ.2 4 = 1 then 2190 + 2 * τ.2 2 else 0)
/-- so many clauses are told at most -/
def t8 (x : Int32) : Prop := ∃ n, n ≤ 80 ∧ x = nI n
def tB (α : Nat → Nat → Int32) : Prop := t8 (α 101 2) ∧ t8 (α 103 2) ∧ t8 (α 103 13328)
def zI (k : Nat) (κ α : Nat → Nat → Int32) (τ : (Nat → Nat → Int64) × (Nat → Nat)) : Prop := stR κ α τ ∧ txR κ α ∧ kpR κ α τ 1 ∧ kpR κ α τ 2 ∧ (rmI k τ ∧ tB α) ∧ α 119 0 = nI 0
/-- what a call may do to the ghosts -/
def tG (τ τ' : (Nat → Nat → Int64) × (Nat → Nat)) : Prop := (∀ k, k ≠ 0 → k ≠ 5 → k ≠ 6 → τ'.2 k = τ.2 k) ∧ τ.2 0 ≤ τ'.2 0 ∧ (512 ≤ τ.2 0 → τ'.2 5 * 512 + τ.2 0 ≤ τ.2 5 * 512 + τ'.2 0 ∧ τ'.2 6 + 2 * τ.2 0 ≤ τ.2 6 + 2 * τ'.2 0)
theorem tFr.g {τ τ' : (Nat → Nat → Int64) × (Nat → Nat)} (h : tFr τ τ') : tG τ τ' := h.2
theorem tG.rf {τ : (Nat → Nat → Int64) × (Nat → Nat)} : tG τ τ := tFr.rf.g
theorem tG.tr {τ τ' τ'' : (Nat → Nat → Int64) × (Nat → Nat)} (h : tG τ τ') (k : tG τ' τ'') : tG τ τ'' := ⟨fun x a b c => (k.1 x a b c).trans (h.1 x a b c), Nat.le_trans h.2.1 k.2.1, fun x => by
  obtain ⟨h1, h1'⟩ := h.2.2 x
  obtain ⟨h2, h2'⟩ := k.2.2 (Nat.le_trans x h.2.1)
  exact tFr_n h1 h1' h2 h2'⟩
theorem rm_n {A A' C K D L L' p q : Nat} (h1 : A ≤ C + K + L + p + q) (h2 : A' + L ≤ A + L') : A' ≤ C + (K + D) + L' + p + q := by omega
section RE
variable {κ κ' α α' : Nat → Nat → Int32} {τ τ' : (Nat → Nat → Int64) × (Nat → Nat)} {k : Nat}
theorem rmI.g (h : rmI k τ) (hg : tG τ τ') : rmI (k + 1) τ' := by
  obtain ⟨h1, h2, h3⟩ := h
  obtain ⟨g1, g2, g3⟩ := hg
  obtain ⟨g4, g5⟩ := g3 h1
  refine ⟨Nat.le_trans h1 g2, ?_, ?_⟩
  · rw [g1 3 (by decide) (by decide) (by decide), g1 1 (by decide) (by decide) (by decide), g1 4 (by decide) (by decide) (by decide), g1 2 (by decide) (by decide) (by decide)]
    rw [Nat.mul_succ]; exact rm_n h2 g4
  · rw [g1 3 (by decide) (by decide) (by decide), g1 1 (by decide) (by decide) (by decide), g1 4 (by decide) (by decide) (by decide), g1 2 (by decide) (by decide) (by decide)]
    rw [Nat.mul_succ]; exact rm_n h3 g5
theorem kpR.eq {g : Nat} (h : kpR κ α τ g) (ek : ∀ p, p = 2 ∨ (30 ≤ p ∧ p ≤ 61) → κ' p = κ p) (e3 : α' 103 = α 103) (e4 : α' 104 = α 104) (e : τ'.2 g = τ.2 g) (e' : τ'.2 (g + 2) = τ.2 (g + 2)) (hs : stR (kSh κ g) (aSh α g) (tSh τ g) → stR (kSh κ' g) (aSh α' g) (tSh τ' g)) : kpR κ' α' τ' g := by
  unfold kpR
  rw [ek 2 (.inl rfl), e4, e, e']
  exact h.imp id (fun ⟨a, b, c, d, f⟩ => ⟨a, b, c, d, hs f⟩)
theorem stR.cg (h : stR κ α τ) (e10 : ∀ j, 4 ≤ j → j ≤ 16 → κ' 10 j = κ 10 j) (e11 : κ' 11 5 = κ 11 5 ∧ κ' 11 6 = κ 11 6)
    (e12 : ∀ p c, 12 ≤ p → p ≤ 14 → c < kN κ → κ' p c = κ p c) (e15 : ∀ i, i ≤ kN κ → κ' 15 i = κ 15 i) (e16 : ∀ j, j < kS κ (kN κ) → κ' 16 j = κ 16 j)
    (er : ∀ p, p = 17 ∨ p = 19 → κ' p 1 = κ p 1 ∧ (∀ v, 1 ≤ v → v ≤ 30 → kt (κ' p 2) v = kt (κ p 2) v) ∧ ∀ k, k < (κ p 1).toNatClampNeg → κ' (p + 1) k = κ (p + 1) k) (e21 : ∀ v, v ≤ 30 → κ' 21 v = κ 21 v) (ea : ∀ j, j < 13326 → α' 101 j = α 101 j) (e0 : kS κ (kN κ) ≤ τ'.2 0 ∧ τ'.2 0 ≤ 24000) : stR κ' α' τ' := by
  obtain ⟨⟨⟨c1, c2, c3, c4⟩, ⟨b1, b2, b3, b4⟩, ph, s, ⟨m1, m2, m3, m4, m5, m6⟩, g1, g2, g3, g4, g5, g6⟩, ⟨o1, o2, o3⟩, ⟨o4, o5⟩, mo, r1, r2⟩ := h
  have h4 := c2.2.1.2
  have hV := c2.1.2
  have hA := b2.2.1
  have eN0 : kN κ = aN α := c1.n
  have eV : aV α' = aV α := by unfold aV; rw [ea 0 (by decide)]
  have eN : aN α' = aN α := by unfold aN; rw [ea 1 (by decide)]
  have eS : ∀ c, c < aN α → aS α' c = aS α c := fun c hc => by unfold aS; rw [ea (125 + c) (by omega)]
  have eL : ∀ c, c < aN α → ∀ k, k < 30 → aL α' c k = aL α c k := fun c hc k hk => by unfold aL; rw [ea (1326 + 30 * c + k) (by omega)]
  have eA : aA α' = aA α := by unfold aA; rw [ea 3 (by decide)]
  have eLn : aLn α' = aLn α := by unfold aLn; rw [ea 6 (by decide)]
  have el : ∀ c, c < aN α → a_learnt α' c = a_learnt α c := fun c hc => by unfold a_learnt; rw [ea (525 + c) (by omega)]
  have ez : ∀ d, d ≤ aN α → zcnt (a_learnt α') 0 d = zcnt (a_learnt α) 0 d := fun d hd => zcnt_congr (fun j x y => el j (by omega))
  have zl := zcnt_le (a_learnt α) (aN α) 0
  have ks : ∀ i, i ≤ kN κ → kS κ' i = kS κ i := fun i hi => by unfold kS; rw [e15 i hi]
  have kn : kN κ' = kN κ := by unfold kN; rw [e11.1]
  have W : aW α' := by
    unfold aW at c2 ⊢
    rw [eV, eN, ea 0 (by decide), ea 1 (by decide)]
    refine ⟨c2.1, c2.2.1, fun c hc => ?_, fun c hc k hk => ?_⟩
    · rw [eS c hc, ea (125 + c) (by omega)]; exact c2.2.2.1 c hc
    · rw [eS c hc] at hk
      have := (c2.2.2.1 c hc).2
      rw [eL c hc k (by omega)]; exact c2.2.2.2 c hc k hk
  have rw : ∀ p i b, (p = 17 ∨ p = 19) → i < 100 → b < 100 → rwR κ p α i b → rwR κ' p α' i b := fun p i b hp hi hb ⟨D, d1, d2, d3, d4, d5, d6⟩ => by
    obtain ⟨x1, x2, x3⟩ := er p hp
    refine ⟨D, d1, by rw [x1]; exact d2, by rw [ea i (by omega)]; exact d3, fun k hk => ?_, fun v v1 v2 => ?_, fun x y hx hy => by rw [ea (b + x) (by omega), ea (b + y) (by omega)]; exact d6 x y hx hy⟩
    · rw [x3 k (by rw [d2, nI_clamp (show D < 2 ^ 31 by omega)]; exact hk), ea (b + k) (by omega), eV]; exact d4 k hk
    · rw [x2 v v1 v2, d5 v v1 v2]
      exact ⟨fun ⟨k, a, c⟩ => ⟨k, a, by rw [ea (b + k) (by omega)]; exact c⟩, fun ⟨k, a, c⟩ => ⟨k, a, by rw [ea (b + k) (by omega)] at c; exact c⟩⟩
  refine ⟨⟨⟨?_, W, ?_, ?_⟩, ⟨?_, ?_, ?_, ?_⟩, fun v a b => ?_, fun v a b => ?_, ⟨?_, ?_, ?_, ?_, ?_, ?_⟩, ?_, ?_, ?_, ?_, ?_, ?_⟩, ⟨?_, ?_, ?_⟩, ⟨?_, ?_⟩, ?_, rw 17 4 24 (.inl rfl) (by decide) (by decide) r1, rw 19 3 16 (.inr rfl) (by decide) (by decide) r2⟩
  · refine ⟨by rw [e11.1, ea 1 (by decide)]; exact c1.1, fun c hc => ?_⟩
    rw [eN] at hc
    obtain ⟨x1, x2, x3, x4⟩ := c1.2 c hc
    have h30 := (c2.2.2.1 c hc).2
    rw [e12 12 c (by decide) (by decide) (by omega), e12 13 c (by decide) (by decide) (by omega), e12 14 c (by decide) (by decide) (by omega), eS c hc, ea (525 + c) (by omega)]
    refine ⟨x1.eq (fun k hk => eL c hc k (by omega)), ?_, fun k hk => ?_, x4⟩
    · unfold kLn at x2 ⊢; rw [ks (c + 1) (by omega), ks c (by omega)]; exact x2
    · have hm1 := c4.mon (m := aN α - (c + 1)) (i := c + 1) (by omega)
      rw [show c + 1 + (aN α - (c + 1)) = aN α from by omega] at hm1
      unfold kLn at x2
      rw [ks c (by omega), e16 _ (by rw [eN0]; omega), x3 k hk, eL c hc k (by omega)]
  · intro c hc i j hi hj
    rw [eN] at hc
    rw [eS c hc] at hj
    have h30 := (c2.2.2.1 c hc).2
    rw [eL c hc i (by omega), eL c hc j (by omega)]; exact c3 c hc i j hi hj
  · refine ⟨⟨by rw [kn, e11.1]; exact c4.1.1, by rw [kn]; exact c4.1.2⟩, fun i hi => ?_, fun i hi => ?_, ?_, ?_, e0.2⟩
    · rw [kn] at hi; rw [ks i hi, e15 i hi]; exact c4.2.1 i hi
    · rw [kn] at hi; rw [ks i (by omega), ks (i + 1) (by omega)]; exact c4.2.2.1 i hi
    · rw [ks 0 (by omega)]; exact c4.2.2.2.1
    · rw [kn, ks _ (Nat.le_refl _)]; exact e0.1
  · rw [e10 4 (by decide) (by decide), ea 0 (by decide)]; exact b1
  · unfold aWA at b2 ⊢
    rw [eA, eV, ea 3 (by decide)]
    exact ⟨b2.1, b2.2.1, fun k hk => by rw [ea (16 + k) (by omega)]; exact b2.2.2 k hk⟩
  · rw [(er 19 (.inr rfl)).1, ea 3 (by decide)]; exact b3
  · rw [eA]
    intro k hk
    rw [show κ' 20 k = κ 20 k from (er 19 (.inr rfl)).2.2 k (by rw [b3]; exact hk), ea (16 + k) (by omega)]; exact b4 k hk
  · rw [e10 5 (by decide) (by decide), ea (32 + v) (by omega)]; exact ph v a b
  · rw [e21 v b, ea (63 + v) (by omega)]; exact s v a b
  · rw [e10 6 (by decide) (by decide), ea 5 (by decide)]; exact m1
  · rw [e10 8 (by decide) (by decide), ea 8 (by decide)]; exact m2
  · rw [e10 9 (by decide) (by decide), ea 9 (by decide)]; exact m3
  · rw [e10 10 (by decide) (by decide), ea 10 (by decide)]; exact m4
  · rw [e10 11 (by decide) (by decide), ea 11 (by decide)]; exact m5
  · rw [e11.2, ea 2 (by decide)]; exact m6
  · rw [eLn, ea 6 (by decide)]; exact g1
  · rw [ea 7 (by decide)]; exact g2
  · rw [eLn, eN, ez _ (Nat.le_refl _), ea 7 (by decide)]; exact g3
  · rw [eN]
    intro c a b
    rw [el c a] at b
    have := zcnt_le (a_learnt α) c 0
    rw [ez c (by omega), ea _ (by omega)]; exact g4 c a b
  · rw [eN, ez _ (Nat.le_refl _), ea 7 (by decide), ea (925 + _) (by omega)]; exact g5
  · rw [eN, ez _ (Nat.le_refl _), ea 2 (by decide)]; exact g6
  · rw [e10 7 (by decide) (by decide), ea 7 (by decide)]; exact o1
  · rw [e10 12 (by decide) (by decide), ea 12 (by decide)]; exact o2
  · rw [e10 16 (by decide) (by decide), ea 15 (by decide)]; exact o3
  · rw [e10 12 (by decide) (by decide), e10 13 (by decide) (by decide), ea 13 (by decide)]; exact o4
  · rw [e10 12 (by decide) (by decide), ea 13 (by decide)]; exact o5
  · unfold moR at mo ⊢
    rw [e10 15 (by decide) (by decide), e10 14 (by decide) (by decide), ea 14 (by decide)]
    exact mo.imp id (fun ⟨M, x1, x2, x3, x4⟩ => ⟨M, x1, x2, x3, fun v a b => by rw [ea (94 + v) (by omega)]; exact x4 v a b⟩)
theorem stR.of (h : stR κ α τ) (ek : ∀ p, 10 ≤ p → p ≤ 21 → κ' p = κ p) (ea : ∀ j, j < 13326 → α' 101 j = α 101 j) (e0 : τ'.2 0 = τ.2 0) : stR κ' α' τ' :=
  h.cg (fun j _ _ => by rw [ek 10 (by decide) (by decide)]) (by rw [ek 11 (by decide) (by decide)]; exact ⟨rfl, rfl⟩) (fun p c a b _ => by rw [ek p (by omega) (by omega)]) (fun i _ => by rw [ek 15 (by decide) (by decide)]) (fun j _ => by rw [ek 16 (by decide) (by decide)]) (fun p hp => by
    rw [ek p (by omega) (by omega), ek (p + 1) (by omega) (by omega)]; exact ⟨rfl, fun _ _ _ => rfl, fun _ _ => rfl⟩) (fun v _ => by rw [ek 21 (by decide) (by decide)]) ea (by rw [e0]; exact h.1.1.2.2.2.2.2.2.2)
/-- the invariant after a call -/
theorem zI.up (h : zI k κ α τ) (hs : stR κ' α' τ') (ht : txR κ' α') (ek : ∀ p, p = 2 ∨ (30 ≤ p ∧ p ≤ 61) → κ' p = κ p) (e3 : α' 103 = α 103) (e4 : α' 104 = α 104) (e9 : α' 119 0 = nI 0) (hg : tG τ τ') (h2 : t8 (α' 101 2)) : zI (k + 1) κ' α' τ' := by
  obtain ⟨-, -, k1, k2, ⟨r, rB⟩, -⟩ := h
  have sh : ∀ g, 1 ≤ g → g ≤ 2 → stR (kSh κ g) (aSh α g) (tSh τ g) → stR (kSh κ' g) (aSh α' g) (tSh τ' g) := fun g g1 g2 x => x.of (fun p a b => funext fun j => by unfold kSh; rw [ek (p + 20 * g) (by omega)]) (fun j _ => by unfold aSh; rw [e3]) (hg.1 g (by omega) (by omega) (by omega))
  exact ⟨hs, ht, k1.eq ek e3 e4 (hg.1 1 (by decide) (by decide) (by decide)) (hg.1 3 (by decide) (by decide) (by decide)) (sh 1 (by decide) (by decide)), k2.eq ek e3 e4 (hg.1 2 (by decide) (by decide) (by decide)) (hg.1 4 (by decide) (by decide) (by decide)) (sh 2 (by decide) (by decide)), ⟨r.g hg, h2, by rw [e3]; exact rB.2.1, by rw [e3]; exact rB.2.2⟩, e9⟩
theorem txR.of (h : txR κ α) (e5 : κ' 5 5 = κ 5 5) (e6 : κ' 5 6 = κ 5 6) (e7 : κ' 77 = κ 77) (a2 : α' 100 22 = α 100 22) (a5 : α' 100 25 = α 100 25) (a1 : α' 121 = α 121) : txR κ' α' := by
  unfold txR; rw [e5, e6, e7, a2, a5, a1]; exact h
/-- a call that changes nothing but the mark of a throw, and scratch -/
theorem zI.same (h : zI k κ α τ) (ek : ∀ p, p = 2 ∨ p = 5 ∨ (10 ≤ p ∧ p ≤ 61) ∨ p = 77 → κ' p = κ p) (ea : ∀ p, p = 101 ∨ p = 103 ∨ p = 104 ∨ p = 119 ∨ p = 121 → α' p = α p) (e2 : α' 100 22 = α 100 22) (e5 : α' 100 25 = α 100 25) (hg : tG τ τ') (e0 : τ'.2 0 = τ.2 0) : zI (k + 1) κ' α' τ' :=
  h.up (h.1.of (fun p a b => ek p (by omega)) (fun j _ => by rw [ea 101 (by omega)]) e0) (h.2.1.of (by rw [ek 5 (by omega)]) (by rw [ek 5 (by omega)]) (ek 77 (by omega)) e2 e5 (ea 121 (by omega))) (fun p hp => ek p (by omega)) (ea 103 (by omega)) (ea 104 (by omega)) (by rw [ea 119 (by omega)]; exact h.2.2.2.2.2) hg (by rw [ea 101 (by omega)]; exact h.2.2.2.2.1.2.1)
theorem zI.a0 (h : zI k κ α τ) : zI (k + 1) κ (a0 α) τ := h.same (fun _ _ => rfl) (fun p hp => funext fun j => zup_p (by omega)) (zup_i (by decide)) (zup_i (by decide)) tG.rf rfl
end RE
