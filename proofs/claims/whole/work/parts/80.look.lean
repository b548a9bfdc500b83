/-! looking for a clash or a drawn literal -/
def kKd (x y : Int32) : Prop := (x = 0 ∧ y = 0) ∨ (x = nI 1 ∧ y = nI 1) ∨ (x = nI 2 ∧ y = nI 3)
def cR (κ α : Nat → Nat → Int32) : Prop := κ 11 5 = α 101 1 ∧ ∀ c, c < aN α → mR (κ 12 c) (κ 13 c) (aS α c) (aL α c) ∧ kLn κ c = aS α c ∧ (∀ k, k < aS α c → κ 16 (kS κ c + k) = aL α c k) ∧ kKd (κ 14 c) (α 101 (525 + c))
def aCl (α : Nat → Nat → Int32) : zCl := (aN α, a_gone α, aS α, aL α)
theorem aW.lok30 {α : Nat → Nat → Int32} (h : aW α) {c k : Nat} (hc : c < aN α) (hk : k < aS α c) : lok 30 (aL α c k) := (h.2.2.2 c hc k hk).mono h.1.2
theorem kKd.gone {α : Nat → Nat → Int32} {x : Int32} {c : Nat} (h : kKd x (α 101 (525 + c))) : decide (¬ x = nI 2) = !a_gone α c := by
  unfold a_gone
  rcases h with ⟨a, b⟩ | ⟨a, b⟩ | ⟨a, b⟩ <;> rw [a, b] <;> decide
theorem zfind_isSome {p : Nat → Bool} {m k : Nat} : (zfind p k m).isSome = true ↔ ∃ j, k ≤ j ∧ j < k + m ∧ p j = true := by
  constructor
  · intro h
    obtain ⟨c, e⟩ := Option.isSome_iff_exists.mp h
    obtain ⟨a, b, d, -⟩ := zfind_some e
    exact ⟨c, a, b, d⟩
  · rintro ⟨j, a, b, d⟩
    cases e : zfind p k m with
    | some c => rfl
    | none => rw [zfind_none e j a b] at d; cases d
section LO
variable {κ α : Nat → Nat → Int32}
theorem a_open_is (hW : aW α) {c : Nat} (hc : c < aN α) : ((∃ k, k < aS α c ∧ 0 < a_tr α (aL α c k)) ∧ a_open α c = 31) ∨ ((∀ k, k < aS α c → ¬ 0 < a_tr α (aL α c k)) ∧ a_open α c = zcnt (fun k => decide (a_tr α (aL α c k) = 0)) 0 (aS α c)) := by
  unfold a_open
  rw [zopn_is]
  by_cases h : (zfind (fun j => decide (0 < a_tr α (aL α c j))) 0 (aS α c)).isSome = true
  · rw [if_pos h]
    obtain ⟨j, -, a, b⟩ := zfind_isSome.mp h
    exact .inl ⟨⟨j, by omega, of_decide_eq_true b⟩, rfl⟩
  · rw [if_neg h]
    exact .inr ⟨fun k hk hp => h (zfind_isSome.mpr ⟨k, Nat.zero_le _, by omega, decide_eq_true hp⟩), Nat.zero_add _⟩
theorem aW.s30' (hW : aW α) {c : Nat} (hc : c < aN α) : aS α c ≤ 30 := (hW.2.2.1 c hc).2
theorem a_open0 (hW : aW α) {c : Nat} (hc : c < aN α) : a_open α c = 0 ↔ ∀ k, k < aS α c → ¬ 0 < a_tr α (aL α c k) ∧ ¬ a_tr α (aL α c k) = 0 := by
  have h30 := hW.s30' hc
  rcases a_open_is hW hc with ⟨⟨k, hk, hp⟩, e⟩ | ⟨h, e⟩
  · rw [e]; exact ⟨fun x => absurd x (by decide), fun x => absurd hp (x k hk).1⟩
  · rw [e, zcnt_zero]
    exact ⟨fun H k hk => ⟨h k hk, of_decide_eq_false (H k (Nat.zero_le _) (by omega))⟩, fun H j _ hj => decide_eq_false (H j (by omega)).2⟩
theorem a_open1 (hW : aW α) {c : Nat} (hc : c < aN α) : a_open α c = 1 ↔ (∀ k, k < aS α c → ¬ 0 < a_tr α (aL α c k)) ∧ zcnt (fun k => decide (a_tr α (aL α c k) = 0)) 0 (aS α c) = 1 := by
  rcases a_open_is hW hc with ⟨⟨k, hk, hp⟩, e⟩ | ⟨h, e⟩
  · rw [e]; exact ⟨fun x => absurd x (by decide), fun x => absurd hp (x.1 k hk)⟩
  · rw [e]; exact ⟨fun x => ⟨h, x⟩, fun x => x.2⟩
theorem cR.clB (hR : cR κ α) (hW : aW α) (h : asR (κ 3 6) (κ 3 7) (α 105)) {c : Nat} (hc : c < aN α) : k_clB κ c = (!a_gone α c && Nat.beq (a_open α c) 0) := by
  obtain ⟨hm, -, -, hk⟩ := hR.2 c hc
  have hf : ∀ k, k < aS α c → lok 30 (aL α c k) := fun k hk => hW.lok30 hc hk
  unfold k_clB
  rw [hk.gone]
  have e : (decide (k_sat κ c = 0) && decide (k_opn κ c = 0)) = Nat.beq (a_open α c) 0 := by
    rw [Bool.eq_iff_iff, Bool.and_eq_true, decide_eq_true_eq, decide_eq_true_eq, Nat.beq_eq, a_open0 hW hc]
    show (κ 12 c &&& κ 3 6 ||| κ 13 c &&& κ 3 7) = 0 ∧ mOp (κ 12 c) (κ 13 c) (κ 3 6) (κ 3 7) = 0 ↔ _
    rw [hm.sat h hf, hm.opz h hf]
    exact ⟨fun x k hk => ⟨x.1 k hk, x.2 k hk⟩, fun x => ⟨fun k hk => (x k hk).1, fun k hk => (x k hk).2⟩⟩
  rw [← e]
  cases a_gone α c <;> simp
theorem cR.drB (hR : cR κ α) (hW : aW α) (hd : aWd α) (h : asR (κ 3 6) (κ 3 7) (α 105)) {c : Nat} (hc : c < aN α) : k_drB κ c = (!a_gone α c && Nat.beq (a_open α c) 1) := by
  obtain ⟨hm, -, -, hk⟩ := hR.2 c hc
  have hf : ∀ k, k < aS α c → lok 30 (aL α c k) := fun k hk => hW.lok30 hc hk
  unfold k_drB
  rw [hk.gone]
  have e : (decide (k_sat κ c = 0) && (decide (¬ k_opn κ c = 0) && decide (k_opn κ c &&& (k_opn κ c - nI 1) = 0))) = Nat.beq (a_open α c) 1 := by
    rw [Bool.eq_iff_iff, Bool.and_eq_true, Bool.and_eq_true, decide_eq_true_eq, decide_eq_true_eq, decide_eq_true_eq, Nat.beq_eq, a_open1 hW hc]
    show (κ 12 c &&& κ 3 6 ||| κ 13 c &&& κ 3 7) = 0 ∧ (¬ mOp (κ 12 c) (κ 13 c) (κ 3 6) (κ 3 7) = 0 ∧ mOp (κ 12 c) (κ 13 c) (κ 3 6) (κ 3 7) &&& (mOp (κ 12 c) (κ 13 c) (κ 3 6) (κ 3 7) - nI 1) = 0) ↔ _
    rw [hm.sat h hf, hm.op1 h hf (fun i j x y => hd c hc i j x y)]
    exact Iff.rfl
  rw [← e]
  cases a_gone α c <;> simp
theorem cR.n (hR : cR κ α) : kN κ = aN α := by unfold kN aN; rw [hR.1]
theorem cR.clash (hR : cR κ α) (hW : aW α) (h : asR (κ 3 6) (κ 3 7) (α 105)) : k_clash κ = a_first α 0 := by
  unfold k_clash a_first
  rw [hR.n]
  exact zfind_congr (fun j _ hj => hR.clB hW h (by omega))
theorem cR.drawn (hR : cR κ α) (hW : aW α) (hd : aWd α) (h : asR (κ 3 6) (κ 3 7) (α 105)) : k_drawn κ = a_first α 1 := by
  unfold k_drawn a_first
  rw [hR.n]
  exact zfind_congr (fun j _ hj => hR.drB hW hd h (by omega))
theorem a_first_is {m c : Nat} (h : a_first α m = some c) : c < aN α ∧ a_gone α c = false ∧ a_open α c = m := by
  obtain ⟨-, a, b, -⟩ := zfind_some h
  rw [Bool.and_eq_true, Bool.not_eq_true'] at b
  exact ⟨by omega, b.1, Nat.eq_of_beq_eq_true b.2⟩
theorem a_first_no {m : Nat} (h : a_first α m = none) {c : Nat} (hc : c < aN α) (hg : a_gone α c = false) : ¬ a_open α c = m := fun e => by
  have := zfind_none h c (Nat.zero_le _) (by omega)
  rw [hg, e] at this
  simp at this
/-- the one literal of a clause with one -/
theorem a_one (hW : aW α) {c : Nat} (hc : c < aN α) (ho : a_open α c = 1) : ∃ k, k < aS α c ∧ a_openOne α c = aL α c k ∧ a_tr α (aL α c k) = 0 ∧ ∀ j, j < aS α c → ¬ j = k → ¬ 0 < a_tr α (aL α c j) ∧ ¬ a_tr α (aL α c j) = 0 := by
  obtain ⟨h1, h2⟩ := (a_open1 hW hc).mp ho
  obtain ⟨k, -, hk, e, hu⟩ := zcnt_one h2
  refine ⟨k, by omega, ?_, of_decide_eq_true e, fun j hj hne => ⟨h1 j hj, fun e0 => hne (hu j (Nat.zero_le _) (by omega) (decide_eq_true e0))⟩⟩
  unfold a_openOne
  have : zfind (fun k => decide (a_tr α (aL α c k) = 0)) 0 (aS α c) = some k := zfind_is (Nat.zero_le _) (by omega) e (fun j _ hj => by
    cases x : decide (a_tr α (aL α c j) = 0) with
    | false => rfl
    | true => have := hu j (Nat.zero_le _) (by omega) x; omega)
  rw [this]
theorem cR.olit (hR : cR κ α) (hW : aW α) (hd : aWd α) (h : asR (κ 3 6) (κ 3 7) (α 105)) {c : Nat} (hc : c < aN α) (ho : a_open α c = 1) : k_olit κ c = a_openOne α c := by
  obtain ⟨hm, -, -, -⟩ := hR.2 c hc
  have hf : ∀ k, k < aS α c → lok 30 (aL α c k) := fun k hk => hW.lok30 hc hk
  have hdc := fun i j x y => hd c hc i j x y
  obtain ⟨k, hk, e1, e2, -⟩ := a_one hW hc ho
  obtain ⟨v, a1, a2, ev⟩ := (kz_one hm.zop).mp ((hm.op1 h hf hdc).mpr ((a_open1 hW hc).mp ho).2)
  obtain ⟨b1, b2, -⟩ := (hf k hk).is (Nat.le_refl _)
  have : kt (mOp (κ 12 c) (κ 13 c) (κ 3 6) (κ 3 7)) (zv (aL α c k)) = true := (hm.opn h hf b1 b2).mpr ⟨k, hk, rfl, e2⟩
  rw [ev, kt_kb a1 a2 b1 b2] at this
  have hv := of_decide_eq_true this
  rw [e1]
  exact hm.lit h hf hdc hk (by rw [← hv]; exact ev)
end LO
theorem a_tr_neg {l : Int32} (h : lok 30 l) : lok 30 (-l) ∧ zv (-l) = zv l ∧ -(-l) = l := by
  obtain ⟨v, a, b, c, d⟩ := lok_two h
  have T := zv_tab1 v (by omega)
  rcases d with rfl | rfl
  · exact ⟨⟨v, a, b, .inr rfl⟩, by rw [zvm b, zvn b], T.2.2.2⟩
  · exact ⟨⟨v, a, b, .inl T.2.2.2⟩, by rw [T.2.2.2, zvm b, zvn b], by rw [T.2.2.2]⟩
section TT
variable {α : Nat → Nat → Int32} {T : Nat → Int32} {L : Nat → Nat} {R : Nat → Int32} {t w : Nat} {l : Int32}
theorem aT.val (ha : aT α T L R t w) {v : Nat} (h1 : 1 ≤ v) (h2 : v ≤ 30) : α 105 v = nI 1 ∨ α 105 v = -1 ∨ α 105 v = 0 := by
  by_cases h : ∃ i, i < t ∧ zv (T i) = v
  · obtain ⟨i, hi, e⟩ := h
    have := (ha.2.1 i hi).2.2.2.2
    rw [e] at this
    rw [this]; unfold zsg; split <;> simp
  · exact .inr (.inr (ha.2.2 v h1 h2 (fun i hi e => h ⟨i, hi, e⟩)))
/-- true on the trail -/
theorem aT.tru (ha : aT α T L R t w) (hw : tW 30 T t) (hl : lok 30 l) : 0 < a_tr α l ↔ ∃ i, i < t ∧ T i = l := by
  obtain ⟨v, h1, h2, e, d⟩ := lok_two hl
  have N := zv_tab (v := v) (by omega) h1
  have X := ztr_tab _ (ha.val h1 h2)
  unfold a_tr
  rw [e]
  by_cases h : ∃ i, i < t ∧ zv (T i) = v
  · obtain ⟨i, hi, ei⟩ := h
    have hs := (ha.2.1 i hi).2.2.2.2
    rw [ei] at hs
    obtain ⟨u, -, -, eu, du⟩ := lok_two (hw.2.1 i hi)
    have : u = v := eu.symm.trans ei
    subst this
    have U : ∀ x, (∃ j, j < t ∧ T j = x) → zv x = u → x = T i := fun x ⟨j, hj, ej⟩ hx => by
      have := hw.ne hi hj (by rw [ei, ej, hx])
      subst this; exact ej.symm
    rcases d with rfl | rfl
    · rw [if_pos N.1, X.1]
      rcases du with du | du
      · rw [du, zsg_p h1 h2] at hs
        exact ⟨fun _ => ⟨i, hi, du⟩, fun _ => hs⟩
      · rw [du, zsg_m h1 h2] at hs
        exact ⟨fun x => absurd (hs.symm.trans x) (by decide), fun x => absurd ((U _ x (zvn h2)).trans du) N.2.2.2.2.1⟩
    · rw [if_neg N.2.1, X.2.1]
      rcases du with du | du
      · rw [du, zsg_p h1 h2] at hs
        exact ⟨fun x => absurd (hs.symm.trans x) (by decide), fun x => absurd ((U _ x (zvm h2)).trans du).symm N.2.2.2.2.1⟩
      · rw [du, zsg_m h1 h2] at hs
        exact ⟨fun _ => ⟨i, hi, du⟩, fun _ => hs⟩
  · have h0 := ha.2.2 v h1 h2 (fun i hi e => h ⟨i, hi, e⟩)
    rw [h0]
    constructor
    · intro x; exfalso; revert x; split <;> decide
    · rintro ⟨i, hi, ei⟩; exact absurd ⟨i, hi, by rw [ei]; exact e⟩ h
theorem a_tr_m (ha : aT α T L R t w) (hl : lok 30 l) : a_tr α (-l) = -(a_tr α l) := by
  obtain ⟨v, h1, h2, e, d⟩ := lok_two hl
  have N := zv_tab (v := v) (by omega) h1
  have T := zv_tab1 v (by omega)
  have X : ∀ x : Int32, (x = nI 1 ∨ x = -1 ∨ x = 0) → -(-x) = x := by rintro x (rfl | rfl | rfl) <;> decide
  unfold a_tr
  rw [(a_tr_neg hl).2.1, e]
  rcases d with rfl | rfl
  · rw [if_neg N.2.1, if_pos N.1]
  · rw [T.2.2.2, if_pos N.1, if_neg N.2.1, X _ (ha.val h1 h2)]
theorem aT.tv (ha : aT α T L R t w) (hl : lok 30 l) : a_tr α l = nI 1 ∨ a_tr α l = -1 ∨ a_tr α l = 0 := by
  obtain ⟨v, h1, h2, e, d⟩ := lok_two hl
  unfold a_tr
  rw [e]
  split
  · exact ha.val h1 h2
  · rcases ha.val h1 h2 with x | x | x <;> rw [x] <;> decide
/-- false on the trail -/
theorem aT.fls (ha : aT α T L R t w) (hw : tW 30 T t) (hl : lok 30 l) : (¬ 0 < a_tr α l ∧ ¬ a_tr α l = 0) ↔ ∃ i, i < t ∧ T i = -l := by
  rw [← ha.tru hw (a_tr_neg hl).1, a_tr_m ha hl]
  rcases ha.tv hl with x | x | x <;> rw [x] <;> decide
end TT
