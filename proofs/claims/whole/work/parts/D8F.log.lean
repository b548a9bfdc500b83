/-! a told log is read, both alike -/
def lpM (α : Nat → Nat → Int32) (k : Nat) : Int32 := pM (α 118) (aF α k) (aF α (k + 1) - aF α k)
def lnM (α : Nat → Nat → Int32) (k : Nat) : Int32 := nM (α 118) (aF α k) (aF α (k + 1) - aF α k)
/-- R lines are read -/
def lgA (α : Nat → Nat → Int32) (R : Nat) : Prop := α 100 20 = nI R ∧ aRd α R ∧ aRd2 α R
/-- cnt of them are accepted so far; t: the told rows -/
def lgK (t a α : Nat → Nat → Int32) (T : Nat) (al : Bool) (cnt R : Nat) : Prop := (∀ i, i < T → a 75 i = t 75 i ∧ a 76 i = t 76 i) ∧ rdQ a α T cnt ∧ a 4 2 = nI (T + cnt) ∧ cnt ≤ R ∧ (al = true → cnt = R) ∧ (∀ k, k < cnt → k_acL a (T + k) 31 (lnM α k, lpM α k, true) = true) ∧ (al = false → cnt < R ∧ k_acL a (T + cnt) 31 (lnM α cnt, lpM α cnt, true) = false) ∧ (a 4 5 = 0 ∨ a 4 5 = nI 1) ∧ (¬ a 4 5 = 0 ↔ ∃ k, k < cnt ∧ aF α (k + 1) = aF α k)
section LG
variable {b t a a' κ κ' α α' : Nat → Nat → Int32} {m j T R cnt s i : Nat} {al : Bool}
theorem aRd.up (h : aRd α R) : ∀ d k, k + d = R → aF α k ≤ aF α R
  | 0, k, e => by rw [Nat.add_zero] at e; subst e; exact Nat.le_refl _
  | d + 1, k, e => Nat.le_trans (h.2.2.1 k (by omega)) (aRd.up h d (k + 1) (by omega))
theorem aRd.upl (h : aRd α R) {k : Nat} (hk : k ≤ R) : aF α k ≤ aF α R := h.up (R - k) k (by omega)
theorem lM_cg (h : aRd α R) (f9 : ∀ k, k ≤ R → α' 119 k = α 119 k) (f8 : ∀ q, q < aF α R → α' 118 q = α 118 q) : (∀ k, k ≤ R → aF α' k = aF α k) ∧ ∀ k, k < R → lpM α' k = lpM α k ∧ lnM α' k = lnM α k := by
  have eF : ∀ k, k ≤ R → aF α' k = aF α k := fun k hk => by unfold aF; rw [f9 k hk]
  refine ⟨eF, fun k hk => ?_⟩
  unfold lpM lnM
  rw [eF k (by omega), eF (k + 1) (by omega)]
  have u := h.upl (k := k + 1) (by omega)
  exact pM_cg _ (fun x hx => f8 _ (by omega))
theorem lgK.of (h : lgK t a α T al cnt R) (hR : aRd α R) (k75 : ∀ x, a' 75 x = a 75 x ∧ a' 76 x = a 76 x) (k4 : a' 4 2 = a 4 2 ∧ a' 4 5 = a 4 5) (f9 : ∀ k, k ≤ R → α' 119 k = α 119 k) (f8 : ∀ q, q < aF α R → α' 118 q = α 118 q) : lgK t a' α' T al cnt R := by
  obtain ⟨h0, h1, h2, h3, h4, h5, h6, h7, h8⟩ := h
  obtain ⟨eF, eM⟩ := lM_cg hR f9 f8
  have eL : ∀ n x, k_acL a' n 31 x = k_acL a n 31 x := fun n x => acL_cg (fun y _ => k75 y) 31 x
  refine ⟨fun x hx => by rw [(k75 x).1, (k75 x).2]; exact h0 x hx, fun k hk => ?_, by rw [k4.1]; exact h2, h3, h4, fun k hk => ?_, fun x => ⟨(h6 x).1, ?_⟩, by rw [k4.2]; exact h7, ?_⟩
  · have e1 : lpM α' k = lpM α k := (eM k (by omega)).1
    have e2 : lnM α' k = lnM α k := (eM k (by omega)).2
    rw [(k75 _).1, (k75 _).2]
    exact ⟨(h1 k hk).1.trans e1.symm, (h1 k hk).2.trans e2.symm⟩
  · rw [eL, (eM k (by omega)).1, (eM k (by omega)).2]; exact h5 k hk
  · have := (h6 x).1
    rw [eL, (eM cnt this).1, (eM cnt this).2]; exact (h6 x).2
  · rw [k4.2, h8]
    exact ⟨fun ⟨k, x, y⟩ => ⟨k, x, by rw [eF k (by omega), eF (k + 1) (by omega)]; exact y⟩, fun ⟨k, x, y⟩ => ⟨k, x, by rw [eF k (by omega), eF (k + 1) (by omega)] at y; exact y⟩⟩
/-- one line more is read -/
theorem lgA.more (h : lgA α R) (hs : aF α R = s) (hR : R ≤ 400) (hi : s ≤ i) (h4 : i ≤ 400) (e20 : α' 100 20 = nI (R + 1)) (f9 : ∀ k, k ≤ R → α' 119 k = α 119 k) (f9' : α' 119 (R + 1) = nI i) (f8 : ∀ q, q < s → α' 118 q = α 118 q) (hl : ∀ q, s ≤ q → q < i → lok 30 (α' 118 q)) (hd : ∀ x y, s ≤ x → x < y → y < i → ¬ zv (α' 118 x) = zv (α' 118 y)) :
    lgA α' (R + 1) ∧ aF α' (R + 1) = i ∧ lpM α' R = pM (α' 118) s (i - s) ∧ lnM α' R = nM (α' 118) s (i - s) := by
  obtain ⟨h1, h2, h3⟩ := h
  subst hs
  obtain ⟨eF, eM⟩ := lM_cg h2 f9 f8
  have ei : aF α' (R + 1) = i := by unfold aF; rw [f9']; exact nI_clamp (by omega)
  refine ⟨⟨e20, ⟨by omega, fun k hk => ?_, fun k hk => ?_, fun k hk q q1 q2 => ?_⟩, fun k hk x y x1 x2 x3 => ?_⟩, ei, by unfold lpM; rw [eF R (Nat.le_refl _), ei], by unfold lnM; rw [eF R (Nat.le_refl _), ei]⟩
  · by_cases e : k = R + 1
    · subst e; rw [ei]; exact ⟨f9', h4⟩
    · rw [eF k (by omega), f9 k (by omega)]; exact h2.2.1 k (by omega)
  · by_cases e : k = R
    · subst e; rw [ei, eF k (Nat.le_refl _)]; exact hi
    · rw [eF k (by omega), eF (k + 1) (by omega)]; exact h2.2.2.1 k (by omega)
  · by_cases e : k = R
    · subst e; rw [eF k (Nat.le_refl _)] at q1; rw [ei] at q2; exact hl q q1 q2
    · rw [eF k (by omega)] at q1
      rw [eF (k + 1) (by omega)] at q2
      have u := h2.upl (k := k + 1) (by omega)
      rw [f8 q (by omega)]; exact h2.2.2.2 k (by omega) q q1 q2
  · by_cases e : k = R
    · subst e; rw [eF k (Nat.le_refl _)] at x1; rw [ei] at x3; exact hd x y x1 x2 x3
    · rw [eF k (by omega)] at x1
      rw [eF (k + 1) (by omega)] at x3
      have u := h2.upl (k := k + 1) (by omega)
      rw [f8 x (by omega), f8 y (by omega)]; exact h3 k (by omega) x y x1 x2 x3
/-- a line that is not accepted, or behind one -/
theorem lgK.no (h : lgK t a α T al cnt R) (hx : al = true → k_acL a (T + cnt) 31 (lnM α cnt, lpM α cnt, true) = false) : lgK t a α T false cnt (R + 1) := by
  obtain ⟨h0, h1, h2, h3, h4, h5, h6, h7, h8⟩ := h
  refine ⟨h0, h1, h2, by omega, fun x => absurd x (by decide), h5, fun _ => ⟨by omega, ?_⟩, h7, h8⟩
  cases al with
  | true => exact hx rfl
  | false => exact (h6 rfl).2
/-- a line that is accepted -/
theorem lgK.yes (h : lgK t a α T true cnt R) (hT : T ≤ 80) (hc : cnt ≤ 400) (hx : k_acL a (T + cnt) 31 (lnM α cnt, lpM α cnt, true) = true) (m3 : a 4 3 = lpM α cnt) (m4 : a 4 4 = lnM α cnt) (he : a 4 3 ||| a 4 4 = 0 ↔ aF α (cnt + 1) = aF α cnt) : lgK t (k_lg1 a) α T true (cnt + 1) (R + 1) := by
  obtain ⟨h0, h1, h2, h3, h4, h5, -, h7, h8⟩ := h
  have hcR := h4 rfl
  have z42 : zup a 4 5 (zbo (decide (¬ a 4 5 = 0) || decide (a 4 3 ||| a 4 4 = 0))) 4 2 = nI (T + cnt) := (zup_i (by decide)).trans h2
  obtain ⟨t1, t2, t3, t4, t5⟩ := take_is (x := a 4 3) (y := a 4 4) z42 (by omega)
  have ek : k_lg1 a = k_take (zup a 4 5 (zbo (decide (¬ a 4 5 = 0) || decide (a 4 3 ||| a 4 4 = 0)))) (a 4 3) (a 4 4) := rfl
  have t45 : k_lg1 a 4 5 = zbo (decide (¬ a 4 5 = 0) || decide (a 4 3 ||| a 4 4 = 0)) := by
    rw [ek]
    unfold k_take
    split
    · rw [zup_i (by decide), zup_p (by decide), zup_p (by decide), zup_same]
    · rw [zup_same]
  rw [← ek] at t1 t2 t3 t4
  have t4' : ∀ x, ¬ x = T + cnt → k_lg1 a 75 x = a 75 x ∧ k_lg1 a 76 x = a 76 x := fun x hx => by
    obtain ⟨u, v⟩ := t4 x hx
    rw [zup_p (by decide)] at u v
    exact ⟨u, v⟩
  have eL : ∀ k x, k ≤ cnt → k_acL (k_lg1 a) (T + k) 31 x = k_acL a (T + k) 31 x := fun k x hk => acL_cg (fun y hy => t4' y (by omega)) 31 x
  refine ⟨fun x hx => by rw [(t4' x (by omega)).1, (t4' x (by omega)).2]; exact h0 x hx, fun k hk => ?_, by rw [t3]; rfl, by omega, fun _ => by omega, fun k hk => ?_, fun x => absurd x (by decide), ?_, ?_⟩
  · by_cases e : k = cnt
    · subst e; rw [t1, t2]; exact ⟨m3, m4⟩
    · rw [(t4' (T + k) (by omega)).1, (t4' (T + k) (by omega)).2]; exact h1 k (by omega)
  · rw [eL k _ (by omega)]
    by_cases e : k = cnt
    · subst e; exact hx
    · exact h5 k (by omega)
  · rw [t45]
    cases (decide (¬ a 4 5 = 0) || decide (a 4 3 ||| a 4 4 = 0)) with
    | true => exact .inr rfl
    | false => exact .inl rfl
  · rw [t45]
    have z : ∀ x : Bool, (¬ zbo x = 0) ↔ x = true := fun x => by cases x <;> decide
    rw [z, Bool.or_eq_true, decide_eq_true_eq, decide_eq_true_eq, h8, he]
    constructor
    · rintro (⟨k, x, y⟩ | x)
      · exact ⟨k, by omega, y⟩
      · exact ⟨cnt, by omega, x⟩
    · rintro ⟨k, x, y⟩
      by_cases e : k = cnt
      · subst e; exact .inr y
      · exact .inl ⟨k, by omega, y⟩
theorem rdO_st {n : Nat} (h : ¬ α 100 25 = 0) : a_rdO n α = α := by
  cases n with
  | zero => rfl
  | succ n => exact if_neg h
theorem lg_sim {V : Int32} (hT : T ≤ 80) : ∀ n c al cnt κ α j R, m + 2 ≤ n + j → m + 1 ≤ c + j → rdR b κ α m j → α 100 25 = 0 → κ 5 6 = 0 → V = α 101 0 → lgA α R → lgK t κ α T al cnt R → lnH b (aF α R) j → R ≤ j →
    rdOOK n α ∧ (((k_lgL V c al cnt κ).1 = -1 ∧ (k_lgL V c al cnt κ).2 5 6 = a_rdO n α 100 25 ∧ ¬ a_rdO n α 100 25 = 0) ∨ (∃ al' cnt' R', (k_lgL V c al cnt κ).1 = nI cnt' ∧ (k_lgL V c al cnt κ).2 5 6 = 0 ∧ a_rdO n α 100 25 = 0 ∧ lgA (a_rdO n α) R' ∧ lgK t (k_lgL V c al cnt κ).2 (a_rdO n α) T al' cnt' R' ∧ R' ≤ 400))
  | 0, c, al, cnt, κ, α, j, R, hn, hc, h, h0, h5, hV, hA, hK, hH, hR => by have := h.1.2.1; omega
  | n + 1, 0, al, cnt, κ, α, j, R, hn, hc, h, h0, h5, hV, hA, hK, hH, hR => by have := h.1.2.1; omega
  | n + 1, c + 1, al, cnt, κ, α, j, R, hn, hc, h, h0, h5, hV, hA, hK, hH, hR => by
    have hjm := h.1.2.1
    have hm : m ≤ 400 := h.1.1.1
    have hh := h.here
    have V1 := h.2.2.1.2.2
    have eH : ∀ p x, ¬ (p = 100 ∧ x = 24) → a_here α p x = α p x := fun p x y => a_here_at (by omega)
    by_cases e7 : κ 5 7 = -7
    · have ch := h.chr.2.2.1.mpr e7
      have ea : a_rdO (n + 1) α = a_here α := by
        show (if α 100 25 = 0 then (if a_chr α = -1 then _ else _) else _) = _
        rw [if_pos h0, if_pos ch]
      have ek : k_lgL V (c + 1) al cnt κ = (nI cnt, κ) := if_pos e7
      have eFh : ∀ k, aF (a_here α) k = aF α k := fun k => by unfold aF; rw [eH 119 k (by omega)]
      rw [ea, ek]
      refine ⟨fun _ => ⟨h.2.2.1, fun x => absurd ch x⟩, .inr ⟨al, cnt, R, rfl, h5, (eH 100 25 (by omega)).trans h0, ?_, hK.of hA.2.1 (fun _ => ⟨rfl, rfl⟩) ⟨rfl, rfl⟩ (fun k _ => eH 119 k (by omega)) (fun q _ => eH 118 q (by omega)), by omega⟩⟩
      obtain ⟨h1, h2, h3⟩ := hA
      have e8 : a_here α 118 = α 118 := funext fun x => eH 118 x (by omega)
      have e9 : a_here α 119 = α 119 := funext fun x => eH 119 x (by omega)
      refine ⟨(eH 100 20 (by omega)).trans h1, ?_, ?_⟩
      · unfold aRd aF at *; rw [e8, e9]; exact h2
      · unfold aRd2 aF at *; rw [e8, e9]; exact h3
    · have hj := h.lt e7
      have ch : ¬ a_chr α = -1 := fun x => e7 (h.chr.2.2.1.mp x)
      have eR : aRm α = R := by unfold aRm; rw [hA.1]; exact nI_clamp (by omega)
      have ea : a_rdO (n + 1) α = a_rdO n (a_rdS α) := by
        show (if α 100 25 = 0 then (if a_chr α = -1 then _ else _) else _) = _
        rw [if_pos h0, if_neg ch]
      have ek : k_lgL V (c + 1) al cnt κ = if (k_line κ V).1 = true then (if (al && k_acc (k_line κ V).2 ((k_line κ V).2 4 3) ((k_line κ V).2 4 4)) = true then k_lgL V c true (cnt + 1) (k_adv (k_lg1 (k_line κ V).2)) else k_lgL V c false cnt (k_adv (k_line κ V).2)) else (-1, (k_line κ V).2) := if_neg e7
      -- the line is read
      have kz : ∀ p x, ¬ (p = 4 ∧ (x = 3 ∨ x = 4)) → zup (zup κ 4 3 (nI 0)) 4 4 (nI 0) p x = κ p x := fun p x y => (if_neg (by omega)).trans (if_neg (by omega))
      have ac : ∀ p x, ¬ (p = 100 ∧ x = 24) → ¬ p = 126 → a_clTold (a_here α) p x = α p x := fun p x y w => (clTold_p w).trans (eH p x y)
      have eVc : aV (a_clTold (a_here α)) = aV α := by unfold aV; rw [ac 101 0 (by omega) (by omega)]
      have R0 : rdR b (zup (zup κ 4 3 (nI 0)) 4 4 (nI 0)) (a_clTold (a_here α)) m j := hh.of (fun x _ => kz 5 x (by omega)) (fun p x _ => kz p x (by omega)) (clTold_p (by decide)) (clTold_p (by decide)) (fun x => clTold_p (by decide)) (by rw [eVc, ac 101 0 (by omega) (by omega)]; exact V1)
      have L0 : lnR (zup (zup κ 4 3 (nI 0)) 4 4 (nI 0)) (a_clTold (a_here α)) (aF α R) (aF α R) := by
        refine ⟨Nat.le_refl _, ?_, ?_, fun q q1 q2 => absurd q1 (by omega), fun v v1 v2 => ?_, fun x y x1 x2 x3 => absurd x1 (by omega)⟩
        · rw [zup_i (by decide), zup_same, Nat.sub_self]; exact (pM_0 _).1.symm
        · rw [zup_same, Nat.sub_self]; exact (pM_0 _).2.symm
        · rw [clTold_0 (by omega)]
          exact ⟨fun x => absurd rfl x, fun ⟨q, x, y, _⟩ => absurd x (by omega)⟩
      obtain ⟨i0, ii⟩ := ln_sim (b := b) (m := m) (V := V) (s := aF α R) 500 401 (aF α R) (zup (zup κ 4 3 (nI 0)) 4 4 (nI 0)) (a_clTold (a_here α)) j (by omega) (by omega) R0 ((ac 100 25 (by omega) (by omega)).trans h0) (by rw [ac 101 0 (by omega) (by omega)]; exact hV) L0 hH
      have ex : a_rdx α = a_rdI 500 (aF α R) (a_clTold (a_here α)) := by unfold a_rdx; rw [eR]
      have el : k_line κ V = k_lnL V 401 (zup (zup κ 4 3 (nI 0)) 4 4 (nI 0)) := rfl
      have eS : a_rdS α = zup (zup (zup (a_rdx α).2 100 24 ((a_rdx α).2 100 24 + nI 1)) 100 20 (nI (R + 1))) 119 (R + 1) (nI (a_rdx α).1) := by unfold a_rdS; rw [eR]
      have ok : rdOOK n (a_rdS α) → rdOOK (n + 1) α := fun x _ => ⟨h.2.2.1, fun _ => by
        rw [eR]
        exact ⟨hA.1, by omega, (hA.2.1.2.1 R (Nat.le_refl _)).1, i0, x⟩⟩
      rw [← ex, ← el] at ii
      rw [ea, ek]
      generalize k_line κ V = X at *
      obtain ⟨xb, κ2⟩ := X
      generalize a_rdx α = Y at *
      obtain ⟨i, β⟩ := Y
      rcases ii with ⟨f1, f2, f3⟩ | ⟨s1, s2, ⟨j1, jj, s3, s4, s5⟩, s6, s7, s8, s9, s10⟩
      · have f1 : xb = false := f1
        have f2 : κ2 5 6 = β 100 25 := f2
        have f3 : ¬ β 100 25 = 0 := f3
        subst f1
        have eS : a_rdS α = zup (zup (zup β 100 24 (β 100 24 + nI 1)) 100 20 (nI (R + 1))) 119 (R + 1) (nI i) := eS
        have e25 : a_rdS α 100 25 = β 100 25 := by rw [eS, zup_p (by decide), zup_i (by decide), zup_i (by decide)]
        have n25 : ¬ a_rdS α 100 25 = 0 := by rw [e25]; exact f3
        generalize a_rdS α = γ at *
        rw [if_neg (show ¬ (false = true) by decide), rdO_st n25]
        refine ⟨ok ?_, .inl ⟨rfl, f2.trans e25.symm, n25⟩⟩
        rw [show n = n - 1 + 1 from by omega]
        exact fun x => absurd x n25
      · have s1 : xb = true := s1
        subst s1
        have s2 : κ2 5 7 = -2 := s2
        have s3 : rdR b κ2 β m j1 := s3
        have s4 : β 100 24 = nI (tkP b j1) := s4
        have s5 : lnH b i j1 := s5
        have s6 : β 100 25 = 0 := s6
        have s7 : lnR κ2 β (aF α R) i := s7
        have s8 : aF α R ≤ i := s8
        have s9 : ∀ p x, ¬ (p = 5 ∧ (x = 4 ∨ x = 7)) → ¬ (p = 4 ∧ (x = 3 ∨ x = 4)) → κ2 p x = κ p x := fun p x y w => (s9 p x y w).trans (kz p x w)
        have s10 : ∀ p x, ¬ (p = 100 ∧ x = 24) → ¬ p = 126 → ¬ (p = 118 ∧ aF α R ≤ x) → β p x = α p x := fun p x y w v => (s10 p x y w v).trans (ac p x y w)
        have eS : a_rdS α = zup (zup (zup β 100 24 (β 100 24 + nI 1)) 100 20 (nI (R + 1))) 119 (R + 1) (nI i) := eS
        rw [s4, nI_add] at eS
        have j1m := s3.lt (by rw [s2]; decide)
        obtain ⟨lt, tk⟩ := s3.1.tok.1 j1m
        have b59 : b 77 (tkP b j1) = nI 59 := (tok_kind lt).2.1.mp (tk ▸ s2)
        have eo : k_eot b (tkP b j1) = tkP b j1 + 1 := by
          unfold k_eot
          rw [if_neg (by unfold k_dg; rw [b59]; decide), if_neg (by unfold k_lt; rw [b59]; decide)]
        have P1 := s3.adv j1m
        rw [eo] at P1
        have g0 : ∀ p x, ¬ (p = 100 ∧ (x = 20 ∨ x = 24)) → ¬ (p = 119 ∧ x = R + 1) → a_rdS α p x = β p x := fun p x y w => by rw [eS]; exact (if_neg w).trans ((if_neg (by omega)).trans (if_neg (by omega)))
        have g20 : a_rdS α 100 20 = nI (R + 1) := by rw [eS, zup_p (by decide), zup_same]
        have g9 : a_rdS α 119 (R + 1) = nI i := by rw [eS, zup_same]
        have g24 : a_rdS α 100 24 = zup β 100 24 (nI (tkP b j1 + 1)) 100 24 := by rw [eS, zup_p (by decide), zup_i (by decide)]
        generalize a_rdS α = γ at *
        have eVg : aV γ = aV α := by unfold aV; rw [g0 101 0 (by omega) (by omega), s10 101 0 (by omega) (by omega) (by omega)]
        have eVb : aV β = aV α := by unfold aV; rw [s10 101 0 (by omega) (by omega) (by omega)]
        have i400 : i ≤ 400 := by have := s5.1; have := s3.pl; omega
        have e8 : γ 118 = β 118 := funext fun x => g0 118 x (by omega) (by omega)
        obtain ⟨A1, A2, A3, A4⟩ := hA.more (α' := γ) (i := i) rfl (by omega) s8 i400 g20 (fun k hk => (g0 119 k (by omega) (by omega)).trans (s10 119 k (by omega) (by omega) (by omega))) g9 (fun q hq => (g0 118 q (by omega) (by omega)).trans (s10 118 q (by omega) (by omega) (by omega))) (fun q q1 q2 => by rw [e8]; exact (s7.2.2.2.1 q q1 q2).mono (by rw [eVb]; exact V1.2)) (fun x y x1 x2 x3 => by rw [e8]; exact s7.2.2.2.2.2 x y x1 x2 x3)
        have K1 : lgK t κ2 γ T al cnt R := hK.of hA.2.1 (fun x => ⟨s9 75 x (by omega) (by omega), s9 76 x (by omega) (by omega)⟩) ⟨s9 4 2 (by omega) (by omega), s9 4 5 (by omega) (by omega)⟩ (fun k hk => (g0 119 k (by omega) (by omega)).trans (s10 119 k (by omega) (by omega) (by omega))) (fun q hq => (g0 118 q (by omega) (by omega)).trans (s10 118 q (by omega) (by omega) (by omega)))
        have M3 : κ2 4 3 = lpM γ R := by rw [A3, e8]; exact s7.2.1
        have M4 : κ2 4 4 = lnM γ R := by rw [A4, e8]; exact s7.2.2.1
        have hcnt := K1.2.2.2.1
        have rn : k_rn κ2 = T + cnt := by unfold k_rn; rw [K1.2.2.1]; exact nI_clamp (by omega)
        have ac2 : al = true → k_acc κ2 (κ2 4 3) (κ2 4 4) = k_acL κ2 (T + cnt) 31 (lnM γ cnt, lpM γ cnt, true) := fun x => by
          unfold k_acc
          rw [rn, M3, M4, K1.2.2.2.2.1 x]
        -- the next line
        have NX : ∀ κ3 al' cnt', (∀ p x, ¬ p = 4 → ¬ p = 75 → ¬ p = 76 → κ3 p x = κ2 p x) → lgK t κ3 γ T al' cnt' (R + 1) →
            rdOOK n γ ∧ (((k_lgL V c al' cnt' (k_adv κ3)).1 = -1 ∧ (k_lgL V c al' cnt' (k_adv κ3)).2 5 6 = a_rdO n γ 100 25 ∧ ¬ a_rdO n γ 100 25 = 0) ∨ (∃ al'' cnt'' R', (k_lgL V c al' cnt' (k_adv κ3)).1 = nI cnt'' ∧ (k_lgL V c al' cnt' (k_adv κ3)).2 5 6 = 0 ∧ a_rdO n γ 100 25 = 0 ∧ lgA (a_rdO n γ) R' ∧ lgK t (k_lgL V c al' cnt' (k_adv κ3)).2 (a_rdO n γ) T al'' cnt'' R' ∧ R' ≤ 400)) := fun κ3 al' cnt' F K => by
          have P2 : rdR b κ3 β m j1 := s3.of (fun x _ => F 5 x (by decide) (by decide) (by decide)) (fun p x _ => F p x (by omega) (by omega) (by omega)) rfl rfl (fun _ => rfl) s3.2.2.1.2.2
          have P3 := P2.adv j1m
          rw [eo] at P3
          have P4 : rdR b (k_adv κ3) γ m (j1 + 1) := P3.of (fun _ _ => rfl) (fun _ _ _ => rfl) ((g0 100 23 (by omega) (by omega)).trans (zup_i (by decide)).symm) g24 (fun x => (g0 121 x (by omega) (by omega)).trans (zup_p (by decide)).symm) (by rw [eVg, g0 101 0 (by omega) (by omega), s10 101 0 (by omega) (by omega) (by omega)]; exact V1)
          have ad : ∀ p x, ¬ (p = 5 ∧ (x = 4 ∨ x = 7)) → k_adv κ3 p x = κ3 p x := fun p x y => adv_at P2.1 j1m y
          refine lg_sim hT n c al' cnt' (k_adv κ3) γ (j1 + 1) (R + 1) (by omega) (by omega) P4 ((g0 100 25 (by omega) (by omega)).trans s6) ?_ (by rw [g0 101 0 (by omega) (by omega), s10 101 0 (by omega) (by omega) (by omega)]; exact hV) A1 (K.of A1.2.1 (fun x => ⟨ad 75 x (by omega), ad 76 x (by omega)⟩) ⟨ad 4 2 (by omega), ad 4 5 (by omega)⟩ (fun _ _ => rfl) (fun _ _ => rfl)) (by rw [A2]; exact s5.stop lt) (by omega)
          rw [ad 5 6 (by omega), F 5 6 (by decide) (by decide) (by decide), s9 5 6 (by omega) (by omega)]; exact h5
        rw [if_pos rfl]
        cases ha : (al && k_acc κ2 (κ2 4 3) (κ2 4 4)) with
        | true =>
          rw [Bool.and_eq_true] at ha
          have al1 := ha.1
          subst al1
          have hc : cnt = R := K1.2.2.2.2.1 rfl
          subst hc
          have K2 := K1.yes hT (by omega) (by rw [← ac2 rfl]; exact ha.2) M3 M4 (by
            have hs := s7.mR (by rw [eVb]; exact V1.2)
            have zz := kz_or hs.1 hs.2.1
            rw [A2, (lM_cg hA.2.1 (α' := γ) (fun k hk => (g0 119 k (by omega) (by omega)).trans (s10 119 k (by omega) (by omega) (by omega))) (fun q hq => (g0 118 q (by omega) (by omega)).trans (s10 118 q (by omega) (by omega) (by omega)))).1 cnt (Nat.le_refl _), kz_zero zz]
            constructor
            · intro x
              rcases Nat.eq_or_lt_of_le s8 with y | y
              · exact y.symm
              · have l := (s7.2.2.2.1 (aF α cnt) (Nat.le_refl _) y).mono (show aV β ≤ 30 by rw [eVb]; exact V1.2)
                obtain ⟨u, u1, u2, eu, -⟩ := lok_two l
                have := (s7.has (by rw [eVb]; exact V1.2) u1 u2).mpr ⟨aF α cnt, Nat.le_refl _, y, eu⟩
                rw [x u u1 u2] at this; exact absurd this (by decide)
            · intro x v v1 v2
              cases y : kt (κ2 4 3 ||| κ2 4 4) v with
              | false => rfl
              | true =>
                obtain ⟨q, q1, q2, -⟩ := (s7.has (by rw [eVb]; exact V1.2) v1 v2).mp y
                omega)
          obtain ⟨n1, n2⟩ := NX (k_lg1 κ2) true (cnt + 1) (fun p x y w v => by
            unfold k_lg1
            rw [k_take_p y w v, zup_p y]) K2
          exact ⟨ok n1, n2⟩
        | false =>
          have K2 := K1.no (fun x => by rw [← ac2 x]; rw [x] at ha; exact ha)
          obtain ⟨n1, n2⟩ := NX κ2 false cnt (fun _ _ _ _ _ => rfl) K2
          exact ⟨ok n1, n2⟩
end LG
