/-! clause, feed -/
section C4
variable {E : zEnv} {κ κ' α α' : Nat → Nat → Int32} {τ τ' : (Nat → Nat → Int64) × (Nat → Nat)} {k : Nat}
theorem th_n {A C K D L p q : Nat} (h1 : A ≤ C + K + L + p + q) : A + D ≤ C + (K + D) + L + p + q := by omega
theorem zI.th (h : zI k κ α τ) : zI (k + 1) κ (zup α 100 0 (nI 1)) (k_thT τ) := by
  have fa : ∀ p i, ¬ (p = 100 ∧ i = 0) → zup α 100 0 (nI 1) p i = α p i := fun p i x => if_neg x
  have fa1 : ∀ p, ¬ p = 100 → zup α 100 0 (nI 1) p = α p := fun p hp => funext fun i => fa p i (by omega)
  obtain ⟨h1, h2, h3, h4, ⟨⟨r1, r2, r3⟩, rB⟩, h6⟩ := h
  have e : ∀ j, ¬ j = 5 → ¬ j = 6 → (k_thT τ).2 j = τ.2 j := fun j a b => by unfold k_thT; show (if j = 5 then _ else if j = 6 then _ else τ.2 j) = _; rw [if_neg a, if_neg b]
  have sh : ∀ g, 1 ≤ g → g ≤ 2 → stR (kSh κ g) (aSh α g) (tSh τ g) → stR (kSh κ g) (aSh (zup α 100 0 (nI 1)) g) (tSh (k_thT τ) g) := fun g g1 g2 x => x.of (fun _ _ _ => rfl) (fun j _ => by unfold aSh; rw [fa1 103 (by decide)]) (e g (by omega) (by omega))
  refine ⟨h1.of (fun _ _ _ => rfl) (fun j _ => fa 101 j (by omega)) (e 0 (by decide) (by decide)), h2.fr (fun _ _ _ => rfl) (fun p j hp => fa p j (by omega)), h3.eq (fun _ _ => rfl) (fa1 103 (by decide)) (fa1 104 (by decide)) (e 1 (by decide) (by decide)) (e 3 (by decide) (by decide)) (sh 1 (by decide) (by decide)), h4.eq (fun _ _ => rfl) (fa1 103 (by decide)) (fa1 104 (by decide)) (e 2 (by decide) (by decide)) (e 4 (by decide) (by decide)) (sh 2 (by decide) (by decide)), ⟨⟨?_, ?_, ?_⟩, by rw [fa 101 2 (by omega)]; exact rB.1, by rw [fa 103 2 (by omega)]; exact rB.2.1, by rw [fa 103 13328 (by omega)]; exact rB.2.2⟩, (fa 119 0 (by omega)).trans h6⟩
  · rw [e 0 (by decide) (by decide)]; exact r1
  · rw [e 0 (by decide) (by decide), e 1 (by decide) (by decide), e 2 (by decide) (by decide), e 3 (by decide) (by decide), e 4 (by decide) (by decide), Nat.mul_succ]
    show (τ.2 5 + 1) * 512 ≤ _
    rw [Nat.add_mul]
    exact th_n r2
  · rw [e 0 (by decide) (by decide), e 1 (by decide) (by decide), e 2 (by decide) (by decide), e 3 (by decide) (by decide), e 4 (by decide) (by decide), Nat.mul_succ]
    show τ.2 6 + 6 ≤ _
    exact th_n r3
theorem le_of_sub1 {x : Int32} {n : Nat} (hn : n < 2 ^ 30) : x ≤ nI n - nI 1 ↔ x < nI n := by
  rw [Int32.le_iff_toInt_le, Int32.lt_iff_toInt_lt, pk_sub_toInt hn (by decide), nI_toInt (show n < 2 ^ 31 by omega)]
  omega
theorem m3_cases {w : Int32} {n : Nat} (hn : n < 2 ^ 30) (h1 : -3 ≤ w) (h2 : w < nI n) : w = -3 ∨ w = -2 ∨ w = -1 ∨ ∃ j, j < n ∧ w = nI j := by
  by_cases e : w < 0
  · have a := Int32.le_iff_toInt_le.mp h1
    have b := Int32.lt_iff_toInt_lt.mp e
    rw [show (-3 : Int32).toInt = -3 from by decide] at a
    rw [show (0 : Int32).toInt = 0 from by decide] at b
    have c : w.toInt = -3 ∨ w.toInt = -2 ∨ w.toInt = -1 := by omega
    rcases c with c | c | c
    · exact .inl (Int32.toInt_inj.mp (c.trans (by decide)))
    · exact .inr (.inl (Int32.toInt_inj.mp (c.trans (by decide))))
    · exact .inr (.inr (.inl (Int32.toInt_inj.mp (c.trans (by decide)))))
  · obtain ⟨j, hj, rfl⟩ := nI_of e
    exact .inr (.inr (.inr ⟨j, (nI_ltI hj (by omega)).mp h2, rfl⟩))
theorem m3_ne {n : Nat} (hn : n < 400) : ¬ nI n = -1 ∧ ¬ nI n = -2 ∧ ¬ nI n = -3 := (show ∀ n < 400, ¬ nI n = -1 ∧ ¬ nI n = -2 ∧ ¬ nI n = -3 by decide +kernel) n hn
theorem clv_eq (h : stR κ α τ) {c : Nat} (hc : c < aN α) {w : Int32} (h1 : -3 ≤ w) (h2 : w < nI (aS α c)) : k_clv κ c w = a_clV α (nI c) w := by
  have hW := h.1.1.2.1
  have h4 := hW.2.1.2
  obtain ⟨x1, x2, x3, x4⟩ := h.1.1.1.2 c hc
  have s30 := (hW.2.2.1 c hc).2
  unfold k_clv a_clV
  rw [nI_clamp (show c < 2 ^ 31 by omega)]
  rcases m3_cases (by omega) h1 h2 with rfl | rfl | rfl | ⟨j, hj, rfl⟩
  · rw [if_neg (by decide), if_neg (by decide), if_pos rfl, if_neg (by decide), if_neg (by decide), if_pos rfl]
    unfold a_gone
    rcases x4 with ⟨x, y⟩ | ⟨x, y⟩ | ⟨x, y⟩ <;> rw [x, y] <;> rfl
  · rw [if_neg (by decide), if_pos rfl, if_neg (by decide), if_pos rfl]
    unfold a_learnt
    rcases x4 with ⟨x, y⟩ | ⟨x, y⟩ | ⟨x, y⟩ <;> rw [x, y] <;> rfl
  · rw [if_pos rfl, if_pos rfl, x2, (hW.2.2.1 c hc).1]
  · have ne := m3_ne (n := j) (by omega)
    rw [if_neg ne.1, if_neg ne.2.1, if_neg ne.2.2, if_neg ne.1, if_neg ne.2.1, if_neg ne.2.2, nI_clamp (show j < 2 ^ 31 by omega)]
    exact x3 j hj
theorem y_clause (h : zI k κ α τ) (a b : Int32) : zClau E zI k κ α τ a b := by
  have hW := h.1.1.1.2.1
  have kW := h.1.1.1.2.2.2
  have h4 := hW.2.1.2
  have en : kN κ = aN α := h.1.1.1.1.n
  by_cases e : a_clB α a b = true
  · left
    have e0 := e
    unfold a_clB at e
    simp only [Bool.and_eq_true, decide_eq_true_eq] at e
    obtain ⟨⟨e1, e2⟩, e3, e4⟩ := e
    rw [hW.2.1.1, le_of_sub1 (by omega)] at e2
    obtain ⟨c, hc, rfl⟩ := nI_of (x := a) (Int32.not_lt.mpr e1)
    have hc := (nI_ltI hc (by omega)).mp e2
    have s30 := (hW.2.2.1 c hc).2
    rw [nI_clamp (show c < 2 ^ 31 by omega), (hW.2.2.1 c hc).1, le_of_sub1 (by omega)] at e4
    have ek : kLn κ c = aS α c := (h.1.1.1.1.2 c hc).2.1
    have ev := clv_eq h.1 hc e3 e4
    have ea : a_clause α (nI c) b = (a_clV α (nI c) b, zup α 100 0 (nI 0)) := by unfold a_clause; rw [if_pos e0]
    refine ⟨k_clv κ c b, zup α 100 0 (nI 0), fun D hD => ?_, fun D hD => ?_, zup_same _ _ _ _, ?_⟩
    · have := s_lawOk (E := E) (α := α) (D - 3) kW (by rw [en]; exact hc) (Int32.not_lt.mpr e3) (by rw [ek]; exact e4)
      rwa [Nat.sub_add_cancel (by omega)] at this
    · have := t_clause (E := E) (κ := κ) (τ := (zwl (κ, α, τ) 130 0 (k_clv κ c b).toInt64).2.2) (D - 2) (nI c) b hW
      rw [Nat.sub_add_cancel (by omega), ea] at this
      rw [ev] at this ⊢
      exact this
    · exact h.same (fun _ _ => rfl) (fun p hp => funext fun j => zup_p (by omega)) (zup_i (by decide)) (zup_i (by decide)) (tG.rf (τ := τ)) rfl
  · right
    have ea : a_clause α a b = (nI 0, zup α 100 0 (nI 1)) := by unfold a_clause; rw [if_neg e]
    refine ⟨nI 0, zup α 100 0 (nI 1), fun D hD => ?_, fun D hD => ?_, zup_same _ _ _ _, h.th⟩
    · have := s_lawTh (E := E) (κ := κ) (α := α) (τ := τ) (c := a) (w := b) (D - 9) (s_clauseTh (D - 9) kW ?_)
      · rwa [Nat.sub_add_cancel (by omega)] at this
      · refine Classical.byContradiction (fun no => e ?_)
        have n1 : ¬ a < 0 := fun x => no (.inl x)
        have n2 : a < nI (kN κ) := Classical.byContradiction (fun x => no (.inr (.inl x)))
        have n3 : ¬ b < -3 := fun x => no (.inr (.inr (.inl x)))
        obtain ⟨c, hc, rfl⟩ := nI_of n1
        have hc' := (nI_ltI hc (by omega)).mp n2
        have n4 : b < nI (kLn κ c) := Classical.byContradiction (fun x => no (.inr (.inr (.inr ⟨c, rfl, hc', x⟩))))
        rw [en] at hc' n2
        have s30 := (hW.2.2.1 c hc').2
        rw [(h.1.1.1.1.2 c hc').2.1] at n4
        unfold a_clB
        simp only [Bool.and_eq_true, decide_eq_true_eq]
        rw [hW.2.1.1, le_of_sub1 (by omega), nI_clamp hc, (hW.2.2.1 c hc').1, le_of_sub1 (by omega)]
        exact ⟨⟨Int32.not_lt.mp n1, n2⟩, Int32.not_lt.mp n3, n4⟩
    · have := t_clause (E := E) (κ := κ) (τ := k_thT τ) (D - 2) a b hW
      rw [Nat.sub_add_cancel (by omega), ea] at this
      exact this
/-- the bytes of a text, so far -/
def tx1 (κ α : Nat → Nat → Int32) (t : Nat) : Prop := κ 5 5 = nI t ∧ α 100 22 = nI t ∧ ∀ i, i < t → κ 77 i = α 121 i ∧ ∃ b : Int8, α 121 i = b.toInt32
theorem tx1.ap {t : Nat} (h : tx1 κ α t) (ht : t < 400) (s w : Int32) : tx1 (k_ap1 s w κ) (a_put1 s w α) (t + 1) := by
  obtain ⟨h1, h2, h3⟩ := h
  refine ⟨k_ap1_len h1, a_put1_t h2, fun i hi => ?_⟩
  have a1 : k_ap1 s w κ 77 i = zup κ 77 t (w >>> (s &&& 31)).toInt8.toInt32 77 i := by unfold k_ap1; rw [h1, nI_clamp (show t < 2 ^ 31 by omega)]; exact zup_p (by decide)
  have a2 : a_put1 s w α 121 i = zup α 121 t (w >>> (s &&& 31)).toInt8.toInt32 121 i := by unfold a_put1; rw [h2, nI_clamp (show t < 2 ^ 31 by omega)]; exact zup_p (by decide)
  rw [a1, a2]
  by_cases e : i = t
  · subst e; rw [zup_same, zup_same]; exact ⟨rfl, _, rfl⟩
  · rw [zup_i e, zup_i e]; exact h3 i (by omega)
theorem tx1.apN {t : Nat} (h : tx1 κ α t) (ht : t + 4 ≤ 400) (w : Int32) : tx1 (k_apN κ w) (a_put α w) (t + 4) := (((h.ap (by omega) _ w).ap (by omega) _ w).ap (by omega) _ w).ap (by omega) _ w
theorem k_apN_at {w : Int32} {p i : Nat} (h : ¬ (p = 77 ∨ (p = 5 ∧ i = 5))) : k_apN κ w p i = κ p i := by
  have H : ∀ s (β : Nat → Nat → Int32), k_ap1 s w β p i = β p i := fun s β => by unfold k_ap1; exact (if_neg (by omega)).trans (if_neg (by omega))
  unfold k_apN; rw [H, H, H, H]
theorem a_put_at {w : Int32} {p i : Nat} (h : ¬ (p = 121 ∨ (p = 100 ∧ i = 22))) : a_put α w p i = α p i := by
  have H : ∀ s (β : Nat → Nat → Int32), a_put1 s w β p i = β p i := fun s β => by unfold a_put1; exact (if_neg (by omega)).trans (if_neg (by omega))
  unfold a_put; rw [H, H, H, H]
theorem y_feed (h : zI k κ α τ) (a b c e f : Int32) : zCall E zI k κ α τ mX8_feed mX9_feed [.int a, .int b, .int c, .int e, .int f] := by
  obtain ⟨t, t1, t2, t3, t4, t5⟩ := h.2.1
  by_cases x : t + 20 ≤ 400
  · have x1 : tx1 κ (a0 α) t := ⟨t2, (a0_p (by omega)).trans t3, fun i hi => by rw [a0_p (by omega)]; exact t4 i hi⟩
    have x5 := ((((x1.apN (by omega) a).apN (by omega) b).apN (by omega) c).apN (by omega) e).apN (by omega) f
    have ek : k_feed κ a b c e f = (nI (t + 20), k_apN (k_apN (k_apN (k_apN (k_apN κ a) b) c) e) f) := by
      unfold k_feed
      rw [if_neg (by rw [t2, nI_add]; exact Int32.not_lt.mpr (nI_le x (by decide))), x5.1]
    have ea : a_feed α a b c e f = (nI (t + 20), a_put (a_put (a_put (a_put (a_put (a0 α) a) b) c) e) f) := by
      unfold a_feed
      rw [t3, nI_add, if_pos (nI_le x (by decide))]
    refine .mk (fun d => s_feed d a b c e f t2 t1) (fun d => t_feed d a b c e f t3 t1) (by decide) (by decide) (by rw [ek, ea]) ?_
    rw [ek, ea]
    show zI (k + 1) (k_apN (k_apN (k_apN (k_apN (k_apN κ a) b) c) e) f) (a_put (a_put (a_put (a_put (a_put (a0 α) a) b) c) e) f) τ
    have fk : ∀ p i, ¬ (p = 77 ∨ (p = 5 ∧ i = 5)) → k_apN (k_apN (k_apN (k_apN (k_apN κ a) b) c) e) f p i = κ p i := fun p i y => by rw [k_apN_at y, k_apN_at y, k_apN_at y, k_apN_at y, k_apN_at y]
    have fa : ∀ p i, ¬ (p = 121 ∨ (p = 100 ∧ (i = 0 ∨ i = 22))) → a_put (a_put (a_put (a_put (a_put (a0 α) a) b) c) e) f p i = α p i := fun p i y => by rw [a_put_at (by omega), a_put_at (by omega), a_put_at (by omega), a_put_at (by omega), a_put_at (by omega), a0_p (by omega)]
    refine h.fr (h.1.of (fun p x y => funext fun i => fk p i (by omega)) (fun i _ => fa 101 i (by omega)) rfl) ⟨t + 20, x, x5.1, x5.2.1, x5.2.2, ?_⟩ (fun p i hp => fk p i (by omega)) (fun p i hp => fa p i (by omega)) tG.rf (fa 101 2 (by omega))
    rw [fk 5 6 (by omega), fa 100 25 (by omega)]; exact t5
  · have ek : k_feed κ a b c e f = (-1, κ) := by
      unfold k_feed
      rw [if_pos (by rw [t2, nI_add]; exact nI_lt (by omega) (by omega))]
    have ea : a_feed α a b c e f = (-1, a0 α) := by
      unfold a_feed
      rw [t3, nI_add, if_neg (fun y => x ((nI_leI (by omega) (by decide)).mp y))]
    refine .mk (fun d => s_feed d a b c e f t2 t1) (fun d => t_feed d a b c e f t3 t1) (by decide) (by decide) (by rw [ek, ea]) ?_
    rw [ek, ea]; exact h.a0
end C4
