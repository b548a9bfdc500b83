/-! a clause's masks over an assignment, and the clause itself -/
def mR (m1 m2 : Int32) (n : Nat) (f : Nat → Int32) : Prop := kz m1 ∧ kz m2 ∧ ∀ v, 1 ≤ v → v ≤ 30 → (kt m1 v = true ↔ ∃ k, k < n ∧ f k = nI v) ∧ (kt m2 v = true ↔ ∃ k, k < n ∧ f k = -(nI v))
def asR (p q : Int32) (g : Nat → Int32) : Prop := ∀ v, 1 ≤ v → v ≤ 30 → (g v = nI 1 ∧ kt p v = true ∧ kt q v = false) ∨ (g v = -1 ∧ kt p v = false ∧ kt q v = true) ∨ (g v = 0 ∧ kt p v = false ∧ kt q v = false)
def ztr (g : Nat → Int32) (l : Int32) : Int32 := if 0 < l then g (zv l) else -(g (zv l))
def mOp (m1 m2 p q : Int32) : Int32 := (m1 ||| m2) &&& ((p ||| q) ^^^ (-1))
theorem zcnt_one {p : Nat → Bool} : ∀ {m k : Nat}, zcnt p k m = 1 → ∃ c, k ≤ c ∧ c < k + m ∧ p c = true ∧ ∀ j, k ≤ j → j < k + m → p j = true → j = c
  | 0, k, h => by cases h
  | m + 1, k, h => by
    unfold zcnt at h
    cases hp : p k with
    | true =>
      rw [hp] at h
      have h0 : zcnt p (k + 1) m = 0 := by simpa using h
      refine ⟨k, Nat.le_refl _, by omega, hp, fun j h1 h2 h3 => ?_⟩
      rcases Nat.eq_or_lt_of_le h1 with e | h4
      · exact e.symm
      · rw [zcnt_zero.mp h0 j h4 (by omega)] at h3; cases h3
    | false =>
      rw [hp] at h
      obtain ⟨c, a, b, e, f⟩ := zcnt_one (m := m) (k := k + 1) (by simpa using h)
      refine ⟨c, by omega, by omega, e, fun j h1 h2 h3 => ?_⟩
      rcases Nat.eq_or_lt_of_le h1 with rfl | h4
      · rw [hp] at h3; cases h3
      · exact f j h4 (by omega) h3
theorem zcnt_is1 {p : Nat → Bool} {m k c : Nat} (h1 : k ≤ c) (h2 : c < k + m) (h3 : p c = true) (h4 : ∀ j, k ≤ j → j < k + m → p j = true → j = c) : zcnt p k m = 1 := by
  obtain ⟨a, rfl⟩ : ∃ a, c = k + a := ⟨c - k, by omega⟩
  obtain ⟨b, rfl⟩ : ∃ b, m = a + (1 + b) := ⟨m - a - 1, by omega⟩
  rw [zcnt_add, zcnt_add]
  have e1 : zcnt p k a = 0 := zcnt_zero.mpr (fun j a1 a2 => by
    cases hj : p j with
    | false => rfl
    | true => have := h4 j a1 (by omega) hj; omega)
  have e2 : zcnt p (k + a + 1) b = 0 := zcnt_zero.mpr (fun j a1 a2 => by
    cases hj : p j with
    | false => rfl
    | true => have := h4 j (by omega) (by omega) hj; omega)
  rw [e1, e2]
  show 0 + (((bif p (k + a) then 1 else 0) + 0) + 0) = 1
  rw [h3]; rfl
theorem zopn_is (t : Nat → Int32) : ∀ (m k n : Nat), zopn t k m n = if (zfind (fun j => decide (0 < t j)) k m).isSome = true then 31 else n + zcnt (fun j => decide (t j = 0)) k m
  | 0, k, n => rfl
  | m + 1, k, n => by
    unfold zopn zfind zcnt
    by_cases h : 0 < t k
    · rw [if_pos h, decide_eq_true h]; rfl
    · rw [if_neg h, decide_eq_false h, zopn_is t m (k + 1)]
      simp only [cond_false]
      by_cases h0 : t k = 0
      · rw [if_pos h0, decide_eq_true h0]; simp only [cond_true]; rw [Nat.add_assoc]
      · rw [if_neg h0, decide_eq_false h0]; simp only [cond_false]; rw [Nat.zero_add]
theorem ztr_tab : ∀ v : Int32, (v = nI 1 ∨ v = -1 ∨ v = 0) → (0 < v ↔ v = nI 1) ∧ (0 < -v ↔ v = -1) ∧ (-v = 0 ↔ v = 0) ∧ (-v < 0 ↔ v = nI 1) ∧ (v < 0 ↔ v = -1) := by
  rintro v (rfl | rfl | rfl) <;> decide
section MR
variable {m1 m2 p q : Int32} {n : Nat} {f g : Nat → Int32}
theorem asR.val (h : asR p q g) {v : Nat} (h1 : 1 ≤ v) (h2 : v ≤ 30) : g v = nI 1 ∨ g v = -1 ∨ g v = 0 := by
  rcases h v h1 h2 with a | a | a
  · exact .inl a.1
  · exact .inr (.inl a.1)
  · exact .inr (.inr a.1)
theorem asR.pos (h : asR p q g) {v : Nat} (h1 : 1 ≤ v) (h2 : v ≤ 30) : kt p v = true ↔ g v = nI 1 := by
  rcases h v h1 h2 with ⟨a, b, c⟩ | ⟨a, b, c⟩ | ⟨a, b, c⟩ <;> rw [a, b] <;> decide
theorem asR.neg (h : asR p q g) {v : Nat} (h1 : 1 ≤ v) (h2 : v ≤ 30) : kt q v = true ↔ g v = -1 := by
  rcases h v h1 h2 with ⟨a, b, c⟩ | ⟨a, b, c⟩ | ⟨a, b, c⟩ <;> rw [a, c] <;> decide
theorem asR.z (h : asR p q g) {v : Nat} (h1 : 1 ≤ v) (h2 : v ≤ 30) : kt (p ||| q) v = false ↔ g v = 0 := by
  rw [kt_or]
  rcases h v h1 h2 with ⟨a, b, c⟩ | ⟨a, b, c⟩ | ⟨a, b, c⟩ <;> rw [a, b, c] <;> decide
theorem ztr_pos (h : asR p q g) {l : Int32} (hl : lok 30 l) : 0 < ztr g l ↔ (l = nI (zv l) ∧ g (zv l) = nI 1 ∨ l = -(nI (zv l)) ∧ g (zv l) = -1) := by
  obtain ⟨h1, h2, -, h3, -⟩ := hl.is (Nat.le_refl _)
  have T := ztr_tab _ (h.val h1 h2)
  have N := zv_tab (v := zv l) (by omega) h1
  unfold ztr
  rcases h3 with ⟨a, b⟩ | ⟨a, b⟩
  · rw [if_pos a, T.1]
    exact ⟨fun e => .inl ⟨b, e⟩, fun e => e.elim (fun x => x.2) (fun x => absurd (b.symm.trans x.1) N.2.2.2.2.1)⟩
  · rw [if_neg a, T.2.1]
    exact ⟨fun e => .inr ⟨b, e⟩, fun e => e.elim (fun x => absurd (x.1.symm.trans b) N.2.2.2.2.1) (fun x => x.2)⟩
theorem ztr_zero (h : asR p q g) {l : Int32} (hl : lok 30 l) : ztr g l = 0 ↔ g (zv l) = 0 := by
  obtain ⟨h1, h2, -, h3, -⟩ := hl.is (Nat.le_refl _)
  have T := ztr_tab _ (h.val h1 h2)
  unfold ztr
  split
  · exact Iff.rfl
  · exact T.2.2.1
theorem mR.sat (hm : mR m1 m2 n f) (h : asR p q g) (hf : ∀ k, k < n → lok 30 (f k)) : (m1 &&& p ||| m2 &&& q) = 0 ↔ ∀ k, k < n → ¬ 0 < ztr g (f k) := by
  rw [kz_zero (kz_or (kz_and hm.1 p) (kz_and hm.2.1 q))]
  constructor
  · intro H k hk hp
    obtain ⟨h1, h2, -, h3, -⟩ := (hf k hk).is (Nat.le_refl _)
    have := H _ h1 h2
    rw [kt_or, kt_and, kt_and, Bool.or_eq_false_iff, Bool.and_eq_false_iff, Bool.and_eq_false_iff] at this
    rcases (ztr_pos h (hf k hk)).mp hp with ⟨a, b⟩ | ⟨a, b⟩
    · rcases this.1 with x | x
      · rw [((hm.2.2 _ h1 h2).1).mpr ⟨k, hk, a⟩] at x; cases x
      · rw [(h.pos h1 h2).mpr b] at x; cases x
    · rcases this.2 with x | x
      · rw [((hm.2.2 _ h1 h2).2).mpr ⟨k, hk, a⟩] at x; cases x
      · rw [(h.neg h1 h2).mpr b] at x; cases x
  · intro H v h1 h2
    have T := zv_tab1 v (by omega)
    rw [kt_or, kt_and, kt_and]
    have A : (kt m1 v && kt p v) = false := by
      cases e1 : kt m1 v with
      | false => rfl
      | true =>
        cases e2 : kt p v with
        | false => rfl
        | true =>
          obtain ⟨k, hk, e⟩ := (hm.2.2 v h1 h2).1.mp e1
          have hz : zv (f k) = v := by rw [e]; unfold zv; rw [T.1, T.2.2.1]
          exact absurd ((ztr_pos h (hf k hk)).mpr (.inl ⟨by rw [hz]; exact e, by rw [hz]; exact (h.pos h1 h2).mp e2⟩)) (H k hk)
    have B : (kt m2 v && kt q v) = false := by
      cases e1 : kt m2 v with
      | false => rfl
      | true =>
        cases e2 : kt q v with
        | false => rfl
        | true =>
          obtain ⟨k, hk, e⟩ := (hm.2.2 v h1 h2).2.mp e1
          have hz : zv (f k) = v := by rw [e]; unfold zv; rw [T.2.1, T.2.2.1]
          exact absurd ((ztr_pos h (hf k hk)).mpr (.inr ⟨by rw [hz]; exact e, by rw [hz]; exact (h.neg h1 h2).mp e2⟩)) (H k hk)
    rw [A, B]; rfl
theorem mR.has (hm : mR m1 m2 n f) (hf : ∀ k, k < n → lok 30 (f k)) {v : Nat} (h1 : 1 ≤ v) (h2 : v ≤ 30) : kt (m1 ||| m2) v = true ↔ ∃ k, k < n ∧ zv (f k) = v := by
  have T := zv_tab1 v (by omega)
  rw [kt_or, Bool.or_eq_true, (hm.2.2 v h1 h2).1, (hm.2.2 v h1 h2).2]
  constructor
  · rintro (⟨k, hk, e⟩ | ⟨k, hk, e⟩)
    · exact ⟨k, hk, by rw [e]; unfold zv; rw [T.1, T.2.2.1]⟩
    · exact ⟨k, hk, by rw [e]; unfold zv; rw [T.2.1, T.2.2.1]⟩
  · rintro ⟨k, hk, e⟩
    obtain ⟨-, -, -, h3, -⟩ := (hf k hk).is (Nat.le_refl _)
    rw [e] at h3
    rcases h3 with ⟨-, b⟩ | ⟨-, b⟩
    · exact .inl ⟨k, hk, b⟩
    · exact .inr ⟨k, hk, b⟩
theorem mR.opn (hm : mR m1 m2 n f) (h : asR p q g) (hf : ∀ k, k < n → lok 30 (f k)) {v : Nat} (h1 : 1 ≤ v) (h2 : v ≤ 30) : kt (mOp m1 m2 p q) v = true ↔ ∃ k, k < n ∧ zv (f k) = v ∧ ztr g (f k) = 0 := by
  unfold mOp
  rw [kt_and, kt_xn _ (by omega) h1, Bool.and_eq_true, hm.has hf h1 h2, Bool.not_eq_true', h.z h1 h2]
  constructor
  · rintro ⟨⟨k, hk, e⟩, e0⟩
    exact ⟨k, hk, e, (ztr_zero h (hf k hk)).mpr (by rw [e]; exact e0)⟩
  · rintro ⟨k, hk, e, e0⟩
    exact ⟨⟨k, hk, e⟩, by rw [← e]; exact (ztr_zero h (hf k hk)).mp e0⟩
theorem mR.zop (hm : mR m1 m2 n f) : kz (mOp m1 m2 p q) := kz_and (kz_or hm.1 hm.2.1) _
theorem mR.opz (hm : mR m1 m2 n f) (h : asR p q g) (hf : ∀ k, k < n → lok 30 (f k)) : mOp m1 m2 p q = 0 ↔ ∀ k, k < n → ¬ ztr g (f k) = 0 := by
  rw [kz_zero hm.zop]
  constructor
  · intro H k hk e
    obtain ⟨h1, h2, -⟩ := (hf k hk).is (Nat.le_refl _)
    have := H _ h1 h2
    rw [(hm.opn h hf h1 h2).mpr ⟨k, hk, rfl, e⟩] at this; cases this
  · intro H v h1 h2
    cases e : kt (mOp m1 m2 p q) v with
    | false => rfl
    | true =>
      obtain ⟨k, hk, -, e0⟩ := (hm.opn h hf h1 h2).mp e
      exact absurd e0 (H k hk)
/-- one variable is open: the mask is its bit -/
theorem mR.op1 (hm : mR m1 m2 n f) (h : asR p q g) (hf : ∀ k, k < n → lok 30 (f k)) (hd : ∀ i j, i < j → j < n → ¬ zv (f i) = zv (f j)) : (¬ mOp m1 m2 p q = 0 ∧ mOp m1 m2 p q &&& (mOp m1 m2 p q - nI 1) = 0) ↔ zcnt (fun k => decide (ztr g (f k) = 0)) 0 n = 1 := by
  rw [kz_one hm.zop]
  constructor
  · rintro ⟨v, h1, h2, e⟩
    obtain ⟨k, hk, e1, e2⟩ := (hm.opn h hf h1 h2).mp (by rw [e, kt_kb h1 h2 h1 h2]; exact decide_eq_true rfl)
    refine zcnt_is1 (c := k) (Nat.zero_le _) (by omega) (decide_eq_true e2) (fun j _ hj e3 => ?_)
    have e3 := of_decide_eq_true e3
    obtain ⟨a1, a2, -⟩ := (hf j (by omega)).is (Nat.le_refl _)
    have : kt (mOp m1 m2 p q) (zv (f j)) = true := (hm.opn h hf a1 a2).mpr ⟨j, by omega, rfl, e3⟩
    rw [e, kt_kb h1 h2 a1 a2] at this
    have e4 := of_decide_eq_true this
    rcases Nat.lt_trichotomy j k with x | x | x
    · exact absurd (e4.symm.trans e1.symm) (hd j k x hk)
    · exact x
    · exact absurd (e1.trans e4) (hd k j x (by omega))
  · intro H
    obtain ⟨k, -, hk, e0, hu⟩ := zcnt_one H
    have e0 := of_decide_eq_true e0
    obtain ⟨a1, a2, -⟩ := (hf k (by omega)).is (Nat.le_refl _)
    refine ⟨zv (f k), a1, a2, kz_ext hm.zop (kz_kb a1 a2) (fun v h1 h2 => ?_)⟩
    rw [kt_kb a1 a2 h1 h2]
    by_cases e : zv (f k) = v
    · rw [decide_eq_true e]
      exact (hm.opn h hf h1 h2).mpr ⟨k, by omega, e, e0⟩
    · rw [decide_eq_false e]
      cases x : kt (mOp m1 m2 p q) v with
      | false => rfl
      | true =>
        obtain ⟨j, hj, e1, e2⟩ := (hm.opn h hf h1 h2).mp x
        have := hu j (Nat.zero_le _) (by omega) (decide_eq_true e2)
        subst this; exact absurd e1 e
theorem mR.lit (hm : mR m1 m2 n f) (h : asR p q g) (hf : ∀ k, k < n → lok 30 (f k)) (hd : ∀ i j, i < j → j < n → ¬ zv (f i) = zv (f j)) {k : Nat} (hk : k < n) (e : mOp m1 m2 p q = kb (nI (zv (f k)))) : (if m1 &&& mOp m1 m2 p q = 0 then -(kbc (mOp m1 m2 p q - nI 1) + nI 1) else kbc (mOp m1 m2 p q - nI 1) + nI 1) = f k := by
  obtain ⟨a1, a2, -, a3, -⟩ := (hf k hk).is (Nat.le_refl _)
  rw [e, kbc_kb _ (by omega) a1]
  have N := zv_tab (v := zv (f k)) (by omega) a1
  rcases a3 with ⟨-, b⟩ | ⟨-, b⟩
  · rw [if_neg ((kt_niff _ a1 a2).mpr ((hm.2.2 _ a1 a2).1.mpr ⟨k, hk, b⟩))]; exact b.symm
  · rw [if_pos ((kt_iff _ a1 a2).mpr ?_)]
    · exact b.symm
    · cases x : kt m1 (zv (f k)) with
      | false => rfl
      | true =>
        obtain ⟨j, hj, e1⟩ := (hm.2.2 _ a1 a2).1.mp x
        have T := zv_tab1 (zv (f k)) (by omega)
        have hz : zv (f j) = zv (f k) := by
          have : zv (f j) = zv (nI (zv (f k))) := congrArg zv e1
          rw [this]; unfold zv; unfold zv at T; rw [T.1, T.2.2.1]
        rcases Nat.lt_trichotomy j k with y | y | y
        · exact absurd hz (hd j k y hk)
        · subst y; exact absurd (e1.symm.trans b) N.2.2.2.2.1
        · exact absurd hz.symm (hd k j y hj)
end MR
