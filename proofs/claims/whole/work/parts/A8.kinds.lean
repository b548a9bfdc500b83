/-! the kinds of a step -/
section KI
variable {κ α : Nat → Nat → Int32} {τ τ' : (Nat → Nat → Int64) × (Nat → Nat)} {T : Nat → Int32} {L : Nat → Nat} {R : Nat → Int32} {t w n B : Nat}
theorem tW.lt {V v : Nat} (h : tW V T t) (hV : V ≤ 30) (h1 : 1 ≤ v) (h2 : v ≤ V) (hf : ∀ i, i < t → ¬ zv (T i) = v) : t < V := by
  have hc := cntT hV t h
  have := zcnt_lt (p := pT T t) (m := V) (k := 1) (j := v) h1 (by omega) (by
    cases x : pT T t v with
    | false => rfl
    | true => obtain ⟨i, i1, i2⟩ := pT_iff.mp x; exact absurd i2 (hf i i1))
  omega
theorem aT.fresh {l : Int32} (ha : aT α T L R t w) (hl : lok 30 l) (h0 : a_tr α l = 0) : ∀ i, i < t → ¬ zv (T i) = zv l := by
  obtain ⟨u, u1, u2, eu, -⟩ := lok_two hl
  refine ha.isO ?_
  have v := ha.val (v := zv l) (by omega) (by omega)
  unfold a_tr at h0
  split at h0
  · exact h0
  · rcases v with v | v | v
    · rw [v] at h0; exact absurd h0 (by decide)
    · rw [v] at h0; exact absurd h0 (by decide)
    · exact v
theorem on_put {κ1 α1 : Nat → Nat → Int32} {w1 : Nat} {l r : Int32} (h : zSr κ α τ T L R t w) (hc : zCo κ α n) (hn : n < B) (ek : ∀ p j, ¬ (p = 3 ∧ j = 8) → ¬ (p = 10 ∧ (j = 9 ∨ j = 10)) → κ1 p j = k_look κ p j) (ea : ∀ p j, ¬ (p = 100 ∧ j = 11) → ¬ (p = 101 ∧ (j = 9 ∨ j = 10)) → α1 p j = α p j) (hw : κ1 3 8 = nI w1 ∧ α1 100 11 = nI w1) (e9 : κ1 10 9 = α1 101 9) (e10 : κ1 10 10 = α1 101 10)
    (hl : lok 30 l) (hf : ∀ i, i < t → ¬ zv (T i) = zv l) (ht : t < 30) (hI : tI (aV α) (aCl α) (aAs α) (zpt T t l) (zpt L t w1) (zpt R t r) (t + 1) w1) : zOn κ α τ B t n (-1, k_sput κ1 l r, τ) (-1, a_comes α1 l r) := by
  obtain ⟨q1, q2, q3, q4, ⟨q5, q6, q7⟩, q8, q9⟩ := h.look.cnt hw ek ea e9 e10
  refine ⟨rfl, rfl, _, _, _, t + 1, w1, n, hn, by omega, zSr.puts q1 q2 q3 q4 h.w30 hl hf ht (by rw [q5, q6, q7]; exact hI), (hc.look.cnt ek ea).put, q8.tr a_comes_F, (k_look_F.tr q9).tr k_sput_F, tFr.rf⟩
theorem ed_of {κ1 α1 : Nat → Nat → Int32} {r : Nat} (hs : sN κ1 α1 τ') (hT : aT α1 T L R t w) (hk : kT κ1 T L R t w) (hw : tW 30 T t) (tf : tFr τ τ') (hr : r ≤ 3) (e7 : κ1 10 7 = α1 101 7) (h0 : r = 0 → κ1 10 13 = α1 101 13) (h0' : ¬ r = 0 → α1 101 13 = α 101 13)
    (h1 : r = 1 → κ1 10 15 = κ1 10 4 ∧ zMo κ1 α1 (aV α1)) (h1' : ¬ r = 1 → κ1 10 14 = κ 10 14 ∧ κ1 10 15 = κ 10 15 ∧ ∀ j, j = 14 ∨ (94 ≤ j ∧ j ≤ 124) → α1 101 j = α 101 j) (fa : aFe α α1) (fk : kFe κ κ1) : zEd κ α τ (nI r, κ1, τ') (nI r, zup (a_leaves α1 (-1)) 101 12 (nI r)) := by
  obtain ⟨q1, q2, q3, q4⟩ := ends_both (how := r) hs hT hk hw
  refine ⟨r, hr, rfl, rfl, ⟨t, hk.1.1, hw.1, fun i hi => ?_⟩, tf, q1, ?_, q4, fun e => ?_, fun e => ?_, fun e => ?_, fun e => ?_, ?_, ?_⟩
  · show lok 30 (κ1 70 i); rw [(hk.2.1 i hi).1]; exact hw.2.1 i hi
  · exact (q2 10 7 (by omega) (by omega)).trans (e7.trans (q3 101 7 (by omega) (by omega) (by omega)).symm)
  · exact (q2 10 13 (by omega) (by omega)).trans ((h0 e).trans (q3 101 13 (by omega) (by omega) (by omega)).symm)
  · exact (q3 101 13 (by omega) (by omega) (by omega)).trans (h0' e)
  · obtain ⟨x, y, z⟩ := h1 e
    refine ⟨(q2 10 15 (by omega) (by omega)).trans (x.trans (q2 10 4 (by omega) (by omega)).symm), ?_, fun v a b => ?_⟩
    · exact (q2 10 15 (by omega) (by omega)).trans (y.trans (q3 101 14 (by omega) (by omega) (by omega)).symm)
    · rw [show zup (k_leave (nI r, κ1, τ').2.1 (-1)) 10 12 (nI r) 10 14 = κ1 10 14 from q2 10 14 (by omega) (by omega), show (nI r, zup (a_leaves α1 (-1)) 101 12 (nI r)).2 101 (94 + v) = α1 101 (94 + v) from q3 101 (94 + v) (by omega) (by omega) (by omega)]
      exact z v a (by unfold aV at b ⊢; rw [show (nI r, zup (a_leaves α1 (-1)) 101 12 (nI r)).2 101 0 = α1 101 0 from q3 101 0 (by omega) (by omega) (by omega)] at b; exact b)
  · obtain ⟨x, y, z⟩ := h1' e
    exact ⟨(q2 10 14 (by omega) (by omega)).trans x, (q2 10 15 (by omega) (by omega)).trans y, fun j hj => (q3 101 j (by omega) (by omega) (by omega)).trans (z j hj)⟩
  · exact ⟨fun p hp => (funext fun j => q3 p j (by omega) (by omega) (by omega)).trans (fa.1 p hp), fun j hj => (q3 100 j (by omega) (by omega) (by omega)).trans (fa.2.1 j hj), fun j hj => (q3 101 j (by omega) (by omega) (by omega)).trans (fa.2.2 j hj)⟩
  · exact ⟨fun p hp => (funext fun j => q2 p j (by omega) (by omega)).trans (fk.1 p hp), (q2 10 16 (by omega) (by omega)).trans fk.2⟩
theorem aFr.e {α' : Nat → Nat → Int32} (h : aFr α α') : aFe α α' := ⟨h.1, h.2.1, fun j hj => h.2.2 j (by omega)⟩
theorem kFr.e {κ' : Nat → Nat → Int32} (h : kFr κ κ') : kFe κ κ' := ⟨h.1, h.2 16 (by decide)⟩
/-- what follows from a clause -/
theorem step_drawn {c : Nat} {b : Int32} (h : zSr κ α τ T L R t w) (hc : zCo κ α n) (hn : n < B) (h0 : a_first α 0 = none) (h1 : a_first α 1 = some c) : zOn κ α τ B t n (k_step κ τ b) (a_step α b) ∧ lok 30 (k_olit κ c) ∧ t < 30 := by
  have hR := h.1.1.1
  have hW := h.1.1.2.1
  have hd := h.1.1.2.2.1
  obtain ⟨c1, c2, c3⟩ := a_first_is h1
  obtain ⟨k, k1, k2, k3, k4⟩ := a_one hW c1 c3
  have el := hR.olit hW hd h.as c1 c3
  have hl := hW.lok30 c1 k1
  have hlV := hW.2.2.2 c c1 k k1
  have w30 := h.w30
  have hf := h.2.2.1.fresh hl k3
  obtain ⟨g1, g2, -⟩ := hlV.is hW.1.2
  have ht : t < 30 := by have := (h.2.2.2.2.1).lt hW.1.2 g1 g2 hf; have := hW.1.2; omega
  have c4 := hW.2.1.2
  have eS : k_step κ τ b = (-1, k_sput (zup (k_look κ) 10 10 (κ 10 10 + nI 1)) (aL α c k) (nI c), τ) := by
    unfold k_step
    rw [hR.clash hW h.as, h0, hR.drawn hW hd h.as, h1]
    show ((-1 : Int32), k_sput (zup (k_look κ) 10 10 (κ 10 10 + nI 1)) (k_olit κ c) (nI c), τ) = _
    rw [el, k2]
  have eA : a_step α b = (-1, a_comes (zup α 101 10 (α 101 10 + nI 1)) (aL α c k) (nI c)) := by
    unfold a_step
    rw [h0, h1]
    show ((-1 : Int32), a_comes (zup α 101 10 (α 101 10 + nI 1)) (a_openOne α c) (nI c)) = _
    rw [k2]
  rw [eS, eA]
  refine ⟨on_put h hc hn (fun p j x y => if_neg (by omega)) (fun p j x y => if_neg (by omega)) (w1 := w) ⟨?_, ?_⟩ ?_ ?_ hl hf ht ?_, by rw [el, k2]; exact hl, ht⟩
  · rw [zup_p (by decide), k_look_i (by decide) (by decide)]; exact h.2.2.2.1.1.2
  · rw [zup_p (by decide)]; exact h.2.2.1.1.2
  · rw [zup_i (by decide), zup_i (by decide), k_look_p (by decide)]; exact h.1.2.2.2.2.1.2.2.1
  · rw [zup_same, zup_same, h.1.2.2.2.2.1.2.2.2.1]
  · refine h.2.2.2.2.drawn hlV hf ht (c := c) c1 rfl ?_ ⟨k, k1, rfl⟩ (fun j hj ej => ?_)
    · exact (show ∀ n < 400, ¬ nI n = -1 by decide +kernel) _ (by omega)
    · have hj : j < aS α c := hj
      have ej : ¬ aL α c j = aL α c k := ej
      exact (h.2.2.1.fls w30 (hW.lok30 c1 hj)).mp (k4 j hj (fun e => ej (by rw [e])))
/-- no clause is false -/
theorem zSr.nf (h : zSr κ α τ T L R t w) (h0 : a_first α 0 = none) : ∀ c, c < (aCl α).1 → (aCl α).2.1 c = false → ¬ ∀ k, k < (aCl α).2.2.1 c → ∃ i, i < t ∧ T i = -((aCl α).2.2.2 c k) := fun c hc hg H => by
  have hW := h.1.1.2.1
  have hc : c < aN α := hc
  refine a_first_no h0 hc hg ((a_open0 hW hc).mpr (fun k hk => ?_))
  exact (h.2.2.1.fls h.w30 (hW.lok30 hc hk)).mpr (H k hk)
end KI
