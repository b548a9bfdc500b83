/-! the reader: one clause looked at, both alike -/
section AC
variable {m1 m2 p q : Int32} {S : Nat} {f : Nat → Int32} {g : Nat → Int32}
theorem ac_put (hm : mR m1 m2 S f) (hf : ∀ k, k < S → lok 30 (f k)) (hd : ∀ i j, i < j → j < S → ¬ zv (f i) = zv (f j)) (h : asR p q g) (h1 : zcnt (fun k => decide (ztr g (f k) = 0)) 0 S = 1) {k : Nat} (hk : k < S) (hz : ztr g (f k) = 0) {g' : Nat → Int32} (hg : ∀ u, g' u = if u = zv (f k) then (if 0 < f k then nI 1 else -1) else g u) :
    asR (p ||| m1 &&& mOp m1 m2 p q) (q ||| m2 &&& mOp m1 m2 p q) g' := by
  obtain ⟨v, v1, v2, ev, d⟩ := lok_two (hf k hk)
  have N := zv_tab (v := v) (by omega) v1
  have one := (hm.op1 h hf hd).mpr h1
  obtain ⟨u, u1, u2, eO⟩ := (kz_one hm.zop).mp one
  have euv : u = v := by
    have : kt (mOp m1 m2 p q) v = true := (hm.opn h hf v1 v2).mpr ⟨k, hk, ev, hz⟩
    rw [eO, kt_kb u1 u2 v1 v2] at this
    exact of_decide_eq_true this
  subst euv
  rw [eO]
  -- the variable's own bits
  have g0 : g u = 0 := by
    have vl := h.val u1 u2
    unfold ztr at hz
    rw [ev] at hz
    split at hz
    · exact hz
    · rcases vl with x | x | x
      · rw [x] at hz; exact absurd hz (by decide)
      · rw [x] at hz; exact absurd hz (by decide)
      · exact x
  have pq : kt p u = false ∧ kt q u = false := by
    have := (h.z u1 u2).mpr g0
    rw [kt_or, Bool.or_eq_false_iff] at this
    exact this
  have ne : ∀ x, (∃ j, j < S ∧ f j = x) → zv x = u → x = f k := by
    rintro x ⟨j, j1, j2⟩ hx
    have e : j = k := by
      rcases Nat.lt_trichotomy j k with y | y | y
      · exact absurd (by rw [j2, hx, ev]) (hd j k y hk)
      · exact y
      · exact absurd (by rw [j2, hx, ev]) (hd k j y j1)
    rw [← j2, e]
  intro w w1 w2
  rw [kt_or, kt_or, kt_and, kt_and, kt_kb u1 u2 w1 w2, hg w, ev]
  by_cases e : w = u
  · subst e
    rw [if_pos rfl, pq.1, pq.2, Bool.false_or, Bool.false_or, decide_eq_true rfl, Bool.and_true, Bool.and_true]
    rcases d with d | d
    · left
      rw [d, if_pos N.1]
      refine ⟨rfl, ((hm.2.2 w w1 w2).1).mpr ⟨k, hk, d⟩, ?_⟩
      cases x : kt m2 w with
      | false => rfl
      | true =>
        have := ne _ (((hm.2.2 w w1 w2).2).mp x) (zvm w2)
        rw [d] at this; exact absurd this.symm N.2.2.2.2.1
    · right; left
      rw [d, if_neg N.2.1]
      refine ⟨rfl, ?_, ((hm.2.2 w w1 w2).2).mpr ⟨k, hk, d⟩⟩
      cases x : kt m1 w with
      | false => rfl
      | true =>
        have := ne _ (((hm.2.2 w w1 w2).1).mp x) (zvn w2)
        rw [d] at this; exact absurd this N.2.2.2.2.1
  · rw [if_neg e, decide_eq_false (fun x => e x.symm), Bool.and_false, Bool.and_false, Bool.or_false, Bool.or_false]
    exact h w w1 w2
/-- the class's look at the clause in row i -/
theorem ac_F {a : Nat → Nat → Int32} {i : Nat} {dr : Bool} (hm : mR (a 75 i) (a 76 i) S f) (hf : ∀ k, k < S → lok 30 (f k)) (hd : ∀ i j, i < j → j < S → ¬ zv (f i) = zv (f j)) (h : asR p q g) :
    ((∃ k, k < S ∧ 0 < ztr g (f k)) → k_acF a i (p, q, dr) = some (p, q, dr)) ∧ ((∀ k, k < S → ¬ 0 < ztr g (f k)) → (zcnt (fun k => decide (ztr g (f k) = 0)) 0 S = 0 → k_acF a i (p, q, dr) = none) ∧ (zcnt (fun k => decide (ztr g (f k) = 0)) 0 S = 1 → k_acF a i (p, q, dr) = some (p ||| a 75 i &&& mOp (a 75 i) (a 76 i) p q, q ||| a 76 i &&& mOp (a 75 i) (a 76 i) p q, true)) ∧ (¬ zcnt (fun k => decide (ztr g (f k) = 0)) 0 S = 0 → ¬ zcnt (fun k => decide (ztr g (f k) = 0)) 0 S = 1 → k_acF a i (p, q, dr) = some (p, q, dr))) := by
  have sat := hm.sat h hf
  have opz := hm.opz h hf
  have op1 := hm.op1 h hf hd
  have eS : k_acS a i (p, q, dr) = a 75 i &&& p ||| a 76 i &&& q := rfl
  have eO : k_acO a i (p, q, dr) = mOp (a 75 i) (a 76 i) p q := rfl
  have z0 : zcnt (fun k => decide (ztr g (f k) = 0)) 0 S = 0 ↔ mOp (a 75 i) (a 76 i) p q = 0 := by
    rw [zcnt_zero, opz]
    exact ⟨fun x k hk => of_decide_eq_false (x k (Nat.zero_le _) (by omega)), fun x k _ hk => decide_eq_false (x k (by omega))⟩
  unfold k_acF
  rw [eS, eO]
  refine ⟨fun ⟨k, k1, k2⟩ => ?_, fun ns => ⟨fun x => ?_, fun x => ?_, fun x y => ?_⟩⟩
  · rw [if_neg (fun x => sat.mp x k k1 k2)]
  · rw [if_pos (sat.mpr ns), if_pos (z0.mp x)]
  · have o := op1.mpr x
    rw [if_pos (sat.mpr ns), if_neg o.1, if_pos o.2]
  · rw [if_pos (sat.mpr ns), if_neg (fun z => x (z0.mpr z)), if_neg (fun z => y (op1.mp ⟨fun w => x (z0.mpr w), z⟩))]
theorem acI_add {a : Nat → Nat → Int32} : ∀ m n i x, k_acI a (m + n) i x = (match k_acI a m i x with | none => none | some y => k_acI a n (i + m) y)
  | 0, n, i, x => by rw [Nat.zero_add]; rfl
  | m + 1, n, i, x => by
    rw [show m + 1 + n = (m + n) + 1 from by omega]
    show (match k_acF a i x with | none => none | some y => k_acI a (m + n) (i + 1) y) = _
    show _ = (match (match k_acF a i x with | none => none | some y => k_acI a m (i + 1) y) with | none => none | some y => k_acI a n (i + (m + 1)) y)
    cases k_acF a i x with
    | none => rfl
    | some y =>
      show k_acI a (m + n) (i + 1) y = (match k_acI a m (i + 1) y with | none => none | some y => k_acI a n (i + (m + 1)) y)
      rw [acI_add m n (i + 1) y, show i + 1 + m = i + (m + 1) from by omega]
end AC
