/-! a told line is read, both alike -/
section LN
variable {b κ κ' α α' : Nat → Nat → Int32} {m j : Nat}
theorem tkP_lt (h : tkP b j < kLen b) : k_eot b (tkP b j) ≤ tkP b (j + 1) ∧ tkP b j < tkP b (j + 1) ∧ (tkP b (j + 1) = k_eot b (tkP b j) ∨ k_eot b (tkP b j) < tkP b (j + 1)) := by
  have er := eot_rng h
  have e : tkP b (j + 1) = zspan (k_bl b) (kLen b - k_eot b (tkP b j)) (k_eot b (tkP b j)) := by
    show (if tkP b j < kLen b then _ else _) = _
    rw [if_pos h]
  have z := zspan_rng (k_bl b) (kLen b - k_eot b (tkP b j)) (k_eot b (tkP b j))
  rw [← e] at z
  exact ⟨z.1, by omega, by omega⟩
/-- so many literals at most, by the places -/
def lnH (b : Nat → Nat → Int32) (i j : Nat) : Prop := 2 * i ≤ tkP b j + 1 ∧ (tkP b j < kLen b → k_dg b (tkP b j) = true → 2 * i ≤ tkP b j)
theorem lit_pos {V tk : Int32} {f : Bool} {j' : Nat} (h : tkN b κ m j) (h0 : ¬ (k_rl κ V tk f).1 = 0) (h' : tkN b (k_rl κ V tk f).2 m j') : ∃ j1, (j1 = j ∨ j1 = j + 1 ∧ tkP b j < kLen b) ∧ j' = j1 + 1 ∧ tkP b j1 < kLen b ∧ k_dg b (tkP b j1) = true := by
  have S : ∃ j1, (j1 = j ∨ j1 = j + 1 ∧ tkP b j < kLen b) ∧ tkN b (k_rl1 κ) m j1 := by
    by_cases e : κ 5 7 = -1
    · have hj : j < m := by
        rcases Nat.lt_or_ge j m with x | x
        · exact x
        · have := (h.tok.2 (by have := h.2.1; omega)).2
          rw [e] at this; exact absurd this (by decide)
      have er : k_rl1 κ = k_adv κ := by unfold k_rl1; rw [if_pos e]
      rw [er]
      exact ⟨j + 1, .inr ⟨rfl, (h.tok.1 hj).1⟩, (h.adv hj).2⟩
    · have er : k_rl1 κ = κ := by unfold k_rl1; rw [if_neg e]
      rw [er]
      exact ⟨j, .inl rfl, h⟩
  obtain ⟨j1, s1, s2⟩ := S
  have K : ¬ k_rl1 κ 5 7 < 0 ∧ (k_rl κ V tk f).2 = k_adv (k_rl1 κ) := by
    unfold k_rl at h0 ⊢
    by_cases e1 : κ 5 7 = -1 ∧ f = true
    · rw [if_pos e1] at h0; exact absurd rfl h0
    · rw [if_neg e1] at h0 ⊢
      by_cases e2 : k_rl1 κ 5 7 < 0
      · rw [if_pos e2] at h0; exact absurd rfl h0
      · rw [if_neg e2] at h0 ⊢
        by_cases e3 : k_rl1 κ 5 7 < nI 1 ∨ V < k_rl1 κ 5 7 ∨ ¬ tk &&& kb (k_rl1 κ 5 7) = 0
        · rw [if_pos e3] at h0; exact absurd rfl h0
        · rw [if_neg e3] at h0 ⊢
          by_cases e4 : f = true
          · rw [if_pos e4] at h0; exact absurd rfl h0
          · rw [if_neg e4]; exact ⟨e2, rfl⟩
  have hj1 : j1 < m := by
    rcases Nat.lt_or_ge j1 m with x | x
    · exact x
    · have := (s2.tok.2 (by have := s2.2.1; omega)).2
      exact absurd (by rw [this]; decide) K.1
  obtain ⟨lt, tkn⟩ := s2.tok.1 hj1
  have n := (s2.adv hj1).2
  rw [← K.2] at n
  have hm := n.1.1
  have e : j1 + 1 = j' := w_nI (by omega) (by have := h'.2.1; omega) (n.2.2.1.symm.trans h'.2.2.1)
  refine ⟨j1, s1, e.symm, lt, ?_⟩
  cases x : k_dg b (tkP b j1) with
  | true => rfl
  | false => exact absurd (tkn ▸ (tok_kind lt).2.2.2.mpr (fun y => by rw [x] at y; exact absurd y.1 (by decide))) K.1
theorem lnH.lit {i j' j1 : Nat} (h : lnH b i j) (h1 : j1 = j ∨ j1 = j + 1 ∧ tkP b j < kLen b) (h2 : j' = j1 + 1) (h3 : tkP b j1 < kLen b) (h4 : k_dg b (tkP b j1) = true) : lnH b (i + 1) j' := by
  subst h2
  obtain ⟨t1, t2, t3⟩ := tkP_lt h3
  have er := eot_rng h3
  have p : 2 * i ≤ tkP b j1 := by
    rcases h1 with rfl | ⟨rfl, lt⟩
    · exact h.2 h3 h4
    · have := tkP_lt lt
      have := h.1
      omega
  refine ⟨by omega, fun x y => ?_⟩
  rcases t3 with t | t
  · exfalso
    have eq : k_eot b (tkP b j1) = zspan (k_dg b) (kLen b - (tkP b j1 + 1)) (tkP b j1 + 1) := by unfold k_eot; rw [if_pos h4]
    have z := (zspan_rng (k_dg b) (kLen b - (tkP b j1 + 1)) (tkP b j1 + 1)).2.2.2
    rw [← eq, ← t, y] at z
    exact absurd (z (by omega)) (by decide)
  · omega
theorem lnH.stop {i : Nat} (h : lnH b i j) (lt : tkP b j < kLen b) : lnH b i (j + 1) := by
  have := tkP_lt lt
  have := h.1
  exact ⟨by omega, fun _ _ => by omega⟩
/-- the line so far: literals s .. i -/
def lnR (κ α : Nat → Nat → Int32) (s i : Nat) : Prop := s ≤ i ∧ κ 4 3 = pM (α 118) s (i - s) ∧ κ 4 4 = nM (α 118) s (i - s) ∧ (∀ q, s ≤ q → q < i → lok (aV α) (α 118 q)) ∧ (∀ v, 1 ≤ v → v ≤ 30 → (¬ α 126 v = 0 ↔ ∃ q, s ≤ q ∧ q < i ∧ zv (α 118 q) = v)) ∧ ∀ x y, s ≤ x → x < y → y < i → ¬ zv (α 118 x) = zv (α 118 y)
theorem lnR.mR {s i : Nat} (h : lnR κ α s i) (hV : aV α ≤ 30) : mR (κ 4 3) (κ 4 4) (i - s) (fun x => α 118 (s + x)) := by
  rw [h.2.1, h.2.2.1]
  exact pM_mR _ (fun x hx => (h.2.2.2.1 (s + x) (by omega) (by omega)).mono hV)
theorem lnR.has {s i : Nat} (h : lnR κ α s i) (hV : aV α ≤ 30) {v : Nat} (v1 : 1 ≤ v) (v2 : v ≤ 30) : kt (κ 4 3 ||| κ 4 4) v = true ↔ ∃ q, s ≤ q ∧ q < i ∧ zv (α 118 q) = v := by
  rw [(h.mR hV).has (fun x hx => (h.2.2.2.1 (s + x) (by omega) (by omega)).mono hV) v1 v2]
  have hs := h.1
  exact ⟨fun ⟨x, x1, x2⟩ => ⟨s + x, by omega, by omega, x2⟩, fun ⟨q, q1, q2, q3⟩ => ⟨q - s, by omega, by show zv (α 118 (s + (q - s))) = v; rw [show s + (q - s) = q from by omega]; exact q3⟩⟩
theorem lnR.of {s i : Nat} (h : lnR κ α s i) (k3 : κ' 4 3 = κ 4 3) (k4 : κ' 4 4 = κ 4 4) (a0 : ∀ p x, p = 118 ∨ p = 126 → α' p x = α p x) (eV : aV α' = aV α) : lnR κ' α' s i := by
  have e8 : α' 118 = α 118 := funext fun x => a0 118 x (by omega)
  obtain ⟨h1, h2, h3, h4, h5, h6⟩ := h
  unfold lnR
  rw [k3, k4, e8, eV]
  exact ⟨h1, h2, h3, h4, fun v v1 v2 => by rw [a0 126 v (by omega)]; exact h5 v v1 v2, h6⟩
/-- one literal more -/
theorem lnR.more {s i : Nat} {l : Int32} (h : lnR κ α s i) (hl : lok (aV α) l) (hV : aV α ≤ 30) (h0 : α 126 (zv l) = 0) (k3 : κ' 4 3 = κ 4 3) (k4 : κ' 4 4 = κ 4 4) (a0 : ∀ x, α' 126 x = if x = zv l then nI 1 else α 126 x) (a1 : ∀ x, α' 118 x = if x = i then l else α 118 x) (eV : aV α' = aV α) : lnR (k_lnF κ' l) α' s (i + 1) := by
  obtain ⟨h1, h2, h3, h4, h5, h6⟩ := h
  obtain ⟨u, u1, u2, eu, -⟩ := lok_two (hl.mono hV)
  have cg := pM_cg (g := α' 118) (g' := α 118) (s := s) (i - s) (fun x hx => by rw [a1, if_neg (by omega)])
  have sp := pM_s (g := α' 118) s (i - s)
  rw [show s + (i - s) = i from by omega, a1 i, if_pos rfl, cg.1, cg.2, ← h2, ← h3, show i - s + 1 = i + 1 - s from by omega] at sp
  have fresh : ∀ q, s ≤ q → q < i → ¬ zv (α 118 q) = zv l := fun q q1 q2 x => absurd h0 ((h5 (zv l) (by omega) (by omega)).mpr ⟨q, q1, q2, x⟩)
  refine ⟨by omega, ?_, ?_, fun q q1 q2 => ?_, fun v v1 v2 => ?_, fun x y x1 x2 x3 => ?_⟩
  · rw [sp.1]
    unfold k_lnF
    by_cases e : 0 < l
    · rw [if_pos e, if_pos e, zup_same, k3]
    · rw [if_neg e, if_neg e, zup_i (by decide), k3]
  · rw [sp.2]
    unfold k_lnF
    by_cases e : 0 < l
    · rw [if_pos e, if_pos e, zup_i (by decide), k4]
    · rw [if_neg e, if_neg e, zup_same, k4]
  · rw [a1, eV]
    by_cases e : q = i
    · rw [if_pos e]; exact hl
    · rw [if_neg e]; exact h4 q q1 (by omega)
  · rw [a0]
    by_cases e : v = zv l
    · rw [if_pos e]
      exact ⟨fun _ => ⟨i, h1, by omega, by rw [a1, if_pos rfl]; exact e.symm⟩, fun _ => by decide⟩
    · rw [if_neg e, h5 v v1 v2]
      refine ⟨fun ⟨q, q1, q2, q3⟩ => ⟨q, q1, by omega, by rw [a1, if_neg (by omega)]; exact q3⟩, fun ⟨q, q1, q2, q3⟩ => ?_⟩
      rw [a1] at q3
      by_cases e2 : q = i
      · rw [if_pos e2] at q3; exact absurd q3.symm e
      · rw [if_neg e2] at q3; exact ⟨q, q1, by omega, q3⟩
  · rw [a1, a1, if_neg (show ¬ x = i by omega)]
    by_cases e : y = i
    · rw [if_pos e]; exact fresh x x1 (by omega)
    · rw [if_neg e]; exact h6 x y x1 x2 (by omega)
theorem rdI_st {n i : Nat} (h : ¬ α 100 25 = 0) : a_rdI n i α = (i, α) := by
  cases n with
  | zero => rfl
  | succ n => exact if_neg h
theorem ln_sim {V : Int32} {s : Nat} : ∀ n c i κ α j, m + 2 ≤ n + j → m + 1 ≤ c + j → rdR b κ α m j → α 100 25 = 0 → V = α 101 0 → lnR κ α s i → lnH b i j →
    rdIOK n i α ∧ (((k_lnL V c κ).1 = false ∧ (k_lnL V c κ).2 5 6 = (a_rdI n i α).2 100 25 ∧ ¬ (a_rdI n i α).2 100 25 = 0) ∨
    ((k_lnL V c κ).1 = true ∧ (k_lnL V c κ).2 5 7 = -2 ∧ (∃ j', j ≤ j' ∧ rdR b (k_lnL V c κ).2 (a_rdI n i α).2 m j' ∧ (a_rdI n i α).2 100 24 = nI (tkP b j') ∧ lnH b (a_rdI n i α).1 j') ∧ (a_rdI n i α).2 100 25 = 0 ∧ lnR (k_lnL V c κ).2 (a_rdI n i α).2 s (a_rdI n i α).1 ∧ i ≤ (a_rdI n i α).1 ∧ (∀ p x, ¬ (p = 5 ∧ (x = 4 ∨ x = 7)) → ¬ (p = 4 ∧ (x = 3 ∨ x = 4)) → (k_lnL V c κ).2 p x = κ p x) ∧ ∀ p x, ¬ (p = 100 ∧ x = 24) → ¬ p = 126 → ¬ (p = 118 ∧ i ≤ x) → (a_rdI n i α).2 p x = α p x))
  | 0, c, i, κ, α, j, hn, hc, h, h0, hV, hr, hH => by have := h.1.2.1; omega
  | n + 1, 0, i, κ, α, j, hn, hc, h, h0, hV, hr, hH => by have := h.1.2.1; omega
  | n + 1, c + 1, i, κ, α, j, hn, hc, h, h0, hV, hr, hH => by
    have hjm := h.1.2.1
    have hm : m ≤ 400 := h.1.1.1
    have pl := h.pl
    have V1 := h.2.2.1.2.2
    have hh := h.here
    have eH : ∀ p x, ¬ (p = 100 ∧ x = 24) → a_here α p x = α p x := fun p x y => a_here_at (by omega)
    have eVh : aV (a_here α) = aV α := by unfold aV; rw [eH 101 0 (by omega)]
    by_cases e2 : κ 5 7 = -2
    · have ch : a_chr α = nI 59 := h.chr.2.1.mpr e2
      have ek : k_lnL V (c + 1) κ = (true, κ) := if_pos e2
      have ea : a_rdI (n + 1) i α = (i, a_here α) := by
        show (if α 100 25 = 0 then (if a_chr α = nI 59 then _ else _) else _) = _
        rw [if_pos h0, if_pos ch]
      rw [ek, ea]
      refine ⟨fun _ x => absurd ch x, .inr ⟨rfl, e2, ⟨j, Nat.le_refl _, hh, ?_, hH⟩, (eH 100 25 (by omega)).trans h0, hr.of rfl rfl (fun p x y => eH p x (by omega)) eVh, Nat.le_refl _, fun _ _ _ _ => rfl, fun p x y _ _ => eH p x y⟩⟩
      show a_here α 100 24 = _
      unfold a_here; rw [zup_same, h.2.2.2]
    · have ch : ¬ a_chr α = nI 59 := fun x => e2 (h.chr.2.1.mp x)
      have i400 : i < 400 := by have := hH.1; omega
      have lit := hh.lit ((eH 100 25 (by omega)).trans h0) (u := true) (f := false) (tk := κ 4 3 ||| κ 4 4) (fun v v1 v2 => by
        rw [eH 126 v (by omega), hr.has V1.2 v1 v2]
        exact ⟨fun x => (hr.2.2.2.2.1 v v1 v2).mp x.2, fun x => ⟨rfl, (hr.2.2.2.2.1 v v1 v2).mpr x⟩⟩)
      rw [eH 101 0 (by omega), ← hV] at lit
      have ek : k_lnL V (c + 1) κ = if (k_rl κ V (κ 4 3 ||| κ 4 4) false).1 = 0 then (false, (k_rl κ V (κ 4 3 ||| κ 4 4) false).2) else k_lnL V c (k_lnF (k_rl κ V (κ 4 3 ||| κ 4 4) false).2 (k_rl κ V (κ 4 3 ||| κ 4 4) false).1) := if_neg e2
      have ea : a_rdI (n + 1) i α = a_rdI n (i + 1) (zup (a_lit (a_here α) true false) 118 i (a_litV (a_here α) true false)) := by
        show (if α 100 25 = 0 then (if a_chr α = nI 59 then _ else _) else _) = _
        rw [if_pos h0, if_neg ch]
      have ok : rdIOK n (i + 1) (zup (a_lit (a_here α) true false) 118 i (a_litV (a_here α) true false)) → rdIOK (n + 1) i α := fun x _ _ => ⟨i400, x⟩
      have ps := fun j' => lit_pos (κ := κ) (V := V) (tk := κ 4 3 ||| κ 4 4) (f := false) (j' := j') h.1
      rw [ek, ea]
      generalize k_rl κ V (κ 4 3 ||| κ 4 4) false = R at lit ps
      rcases lit with ⟨f1, f2, f3⟩ | ⟨-, s2, s3, s4, s5, s6, ⟨j1, jj, s7⟩, s8, s9⟩
      · generalize a_litV (a_here α) true false = l at *
        generalize a_lit (a_here α) true false = γ at *
        have eu : zup γ 118 i l 100 25 = γ 100 25 := zup_p (by decide)
        have f3' : ¬ zup γ 118 i l 100 25 = 0 := by rw [eu]; exact f3
        have f2' : R.2 5 6 = zup γ 118 i l 100 25 := by rw [eu]; exact f2
        generalize zup γ 118 i l = δ at *
        rw [if_pos f1, rdI_st f3']
        refine ⟨ok ?_, .inl ⟨rfl, f2', f3'⟩⟩
        rw [show n = n - 1 + 1 from by omega]
        exact fun x => absurd x f3'
      · obtain ⟨j0, p1, p2, p3, p4⟩ := ps j1 s3 s7.1
        have H2 := hH.lit p1 p2 p3 p4
        rw [if_neg s3, s2]
        have q1 : α 126 (zv (a_litV (a_here α) true false)) = 0 := by rw [← eH 126 _ (by omega)]; exact s5 rfl
        rw [eVh] at s4
        generalize a_litV (a_here α) true false = l at *
        generalize a_lit (a_here α) true false = γ at *
        have g9 : ∀ p x, ¬ (p = 100 ∧ x = 24) → ¬ p = 118 → zup γ 118 i l p x = if p = 126 ∧ x = zv l then nI 1 else α p x := fun p x y z => by rw [zup_p z, s9 p x y, eH p x y]
        have eV2 : aV (zup γ 118 i l) = aV α := by unfold aV; rw [g9 101 0 (by omega) (by omega), if_neg (by omega)]
        have pp : ∀ p x, ¬ (p = 4 ∧ (x = 3 ∨ x = 4)) → k_lnF R.2 l p x = R.2 p x := fun p x y => by
          unfold k_lnF
          split
          · exact if_neg (by omega)
          · exact if_neg (by omega)
        have rr : lnR (k_lnF R.2 l) (zup γ 118 i l) s (i + 1) := hr.more s4 V1.2 q1 (s8 4 3 (by omega)) (s8 4 4 (by omega)) (fun x => by
          rw [g9 126 x (by omega) (by omega)]
          by_cases e : x = zv l
          · rw [if_pos ⟨rfl, e⟩, if_pos e]
          · rw [if_neg (fun y => e y.2), if_neg e]) (fun x => by
          by_cases e : x = i
          · rw [e, zup_same, if_pos rfl]
          · rw [zup_i e, if_neg e, s9 118 x (by omega), if_neg (by omega), eH 118 x (by omega)]) eV2
        have R2 : rdR b (k_lnF R.2 l) (zup γ 118 i l) m j1 := s7.of (fun x _ => pp 5 x (by omega)) (fun p x y => pp p x (by omega)) (zup_p (by decide)) (zup_p (by decide)) (fun x => zup_p (by decide)) (by rw [eV2, g9 101 0 (by omega) (by omega), if_neg (by omega)]; exact V1)
        obtain ⟨i0, ii⟩ := ln_sim (V := V) (s := s) n c (i + 1) (k_lnF R.2 l) (zup γ 118 i l) j1 (by omega) (by omega) R2 (by rw [zup_p (by decide)]; exact s6) (by rw [g9 101 0 (by omega) (by omega), if_neg (by omega)]; exact hV) rr H2
        refine ⟨ok i0, ?_⟩
        rcases ii with x | ⟨i1, i2, ⟨j2, jj2, i3, i4, i5⟩, i6, i7, i8, i9, i10⟩
        · exact .inl x
        · refine .inr ⟨i1, i2, ⟨j2, by omega, i3, i4, i5⟩, i6, i7, by omega, fun p x y w => ?_, fun p x y w v => ?_⟩
          · rw [i9 p x y w, pp p x w, s8 p x y]
          · rw [i10 p x y w (by omega)]
            by_cases e : p = 118
            · subst e
              rw [zup_i (by omega), s9 118 x (by omega), if_neg (by omega), eH 118 x (by omega)]
            · rw [g9 p x y e, if_neg (fun u => w u.1)]
end LN
