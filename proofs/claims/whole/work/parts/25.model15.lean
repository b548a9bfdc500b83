/-! the reference: reading a text -/
theorem zup_self {α : Nat → Nat → Int32} {p i : Nat} {v : Int32} (h : α p i = v) : zup α p i v = α := by
  funext q j
  unfold zup
  split
  · rename_i e; rw [e.1, e.2, h]
  · rfl
theorem zup_zup {α : Nat → Nat → Int32} {p i : Nat} {v w : Int32} : zup (zup α p i v) p i w = zup α p i w := by
  funext q j
  unfold zup
  split <;> rfl
/-- go on while P holds, m places at most -/
def zspan (P : Nat → Bool) : Nat → Nat → Nat
  | 0, p => p
  | m + 1, p => bif P p then zspan P m (p + 1) else p
theorem zspan_ge (P : Nat → Bool) : ∀ m p, p ≤ zspan P m p ∧ zspan P m p ≤ p + m
  | 0, p => ⟨Nat.le_refl _, Nat.le_refl _⟩
  | m + 1, p => by
    unfold zspan
    have := zspan_ge P m (p + 1)
    cases P p <;> simp only [cond_true, cond_false] <;> omega
theorem zspan_in (P : Nat → Bool) : ∀ m p j, p ≤ j → j < zspan P m p → P j = true
  | 0, p, j, h1, h2 => by unfold zspan at h2; omega
  | m + 1, p, j, h1, h2 => by
    unfold zspan at h2
    cases hp : P p with
    | false => rw [hp] at h2; simp only [cond_false] at h2; omega
    | true =>
      rw [hp] at h2
      rcases Nat.eq_or_lt_of_le h1 with rfl | h3
      · exact hp
      · exact zspan_in P m (p + 1) j h3 h2
theorem zspan_out (P : Nat → Bool) : ∀ m p, zspan P m p < p + m → P (zspan P m p) = false
  | 0, p, h => by unfold zspan at h; omega
  | m + 1, p, h => by
    unfold zspan at h ⊢
    cases hp : P p with
    | false => simp only [cond_false]; exact hp
    | true => rw [hp] at h; simp only [cond_true] at h ⊢; exact zspan_out P m (p + 1) (by omega)
def aPl (α : Nat → Nat → Int32) : Nat := (α 100 24).toNatClampNeg
def aLen (α : Nat → Nat → Int32) : Nat := (α 100 23).toNatClampNeg
/-- a text is being read -/
def aWT (α : Nat → Nat → Int32) : Prop := α 100 24 = nI (aPl α) ∧ aPl α ≤ 1000 ∧ α 100 23 = nI (aLen α) ∧ aLen α ≤ 400
def a_blank (α : Nat → Nat → Int32) (i : Nat) : Bool := decide (α 121 i = nI 32) || decide (α 121 i = nI 10)
def a_hp (α : Nat → Nat → Int32) : Nat := zspan (a_blank α) (aLen α - aPl α) (aPl α)
def a_chr (α : Nat → Nat → Int32) : Int32 := if a_hp α < aLen α then α 121 (a_hp α) &&& nI 255 else -1
def a_here (α : Nat → Nat → Int32) : Nat → Nat → Int32 := zup α 100 24 (nI (a_hp α))
theorem a_hp_le {α : Nat → Nat → Int32} (h : aWT α) : a_hp α ≤ 1000 ∧ aPl α ≤ a_hp α := by
  have h1 := zspan_ge (a_blank α) (aLen α - aPl α) (aPl α)
  obtain ⟨_, h2, _, h3⟩ := h
  unfold a_hp
  omega
theorem aPl_at {α : Nat → Nat → Int32} {p : Nat} (hp : p < 2 ^ 31) : aPl (zup α 100 24 (nI p)) = p := by unfold aPl; rw [zup_same]; exact nI_clamp hp
theorem aLen_up {α : Nat → Nat → Int32} {p i : Nat} {v : Int32} (h : ¬ p = 100 ∨ ¬ i = 23) : aLen (zup α p i v) = aLen α := by unfold aLen zup; rw [if_neg (fun q => h.elim (fun z => z q.1.symm) (fun z => z q.2.symm))]
theorem aPl_up {α : Nat → Nat → Int32} {p i : Nat} {v : Int32} (h : ¬ p = 100 ∨ ¬ i = 24) : aPl (zup α p i v) = aPl α := by unfold aPl zup; rw [if_neg (fun q => h.elim (fun z => z q.1.symm) (fun z => z q.2.symm))]
theorem aWT.up {α : Nat → Nat → Int32} {p i : Nat} {v : Int32} (h : aWT α) (hp : ¬ p = 100 ∨ ¬ i = 24 ∧ ¬ i = 23) : aWT (zup α p i v) := by
  have h1 : ¬ p = 100 ∨ ¬ i = 24 := hp.elim Or.inl (fun q => Or.inr q.1)
  have h2 : ¬ p = 100 ∨ ¬ i = 23 := hp.elim Or.inl (fun q => Or.inr q.2)
  obtain ⟨a, b, c, e⟩ := h
  refine ⟨?_, by rw [aPl_up h1]; exact b, ?_, by rw [aLen_up h2]; exact e⟩
  · rw [aPl_up h1]; unfold zup; rw [if_neg (fun q => h1.elim (fun z => z q.1.symm) (fun z => z q.2.symm))]; exact a
  · rw [aLen_up h2]; unfold zup; rw [if_neg (fun q => h2.elim (fun z => z q.1.symm) (fun z => z q.2.symm))]; exact c
theorem aWT.to {α : Nat → Nat → Int32} {p : Nat} (h : aWT α) (hp : p ≤ 1000) : aWT (zup α 100 24 (nI p)) := by
  obtain ⟨a, b, c, e⟩ := h
  refine ⟨by rw [zup_same, aPl_at (by omega)], by rw [aPl_at (by omega)]; exact hp, ?_, by rw [aLen_up (Or.inr (by decide))]; exact e⟩
  rw [aLen_up (Or.inr (by decide)), zup_i (by decide)]; exact c
theorem a_here_WT {α : Nat → Nat → Int32} (h : aWT α) : aWT (a_here α) := h.to (a_hp_le h).1
def a_fails (α : Nat → Nat → Int32) (k w : Int32) : Nat → Nat → Int32 := if α 100 25 = 0 then zup α 100 25 (k + nI 8 * w) else α
def a_dig (c : Int32) : Bool := decide (nI 48 ≤ c) && decide (c ≤ nI 57)
section M16
variable {E : zEnv} {κ α : Nat → Nat → Int32} {τ : (Nat → Nat → Int64) × (Nat → Nat)}
theorem t_startsText (d : Nat) : zTr E (d + 1) mX9_startsText [.ref 100] (κ, α, τ) none (κ, zup (zup (zup (zup α 100 23 (α 100 22)) 100 22 (nI 0)) 100 24 (nI 0)) 100 25 (nI 0), τ) := by
  refine zM.tr (zM_of [some (.ref 100)] (by decide) rfl (Nat.le_of_ble_eq_true rfl) ?_)
  refine x_aload_n (pc := 0) 0 dX9_startsText_0 rfl rfl ?_
  refine x_aload_n (pc := 1) 0 dX9_startsText_1 rfl rfl ?_
  refine x_geti_h (pc := 2) dX9_startsText_2 fX9_192 (zat_b rfl rfl) rfl rfl ?_
  refine x_puti_h (pc := 5) dX9_startsText_5 pX9_242 (zat_b rfl rfl) rfl rfl ?_
  refine x_aload_n (pc := 8) 0 dX9_startsText_8 rfl rfl ?_
  refine x_iconst (pc := 9) (nI 0) dX9_startsText_9 (by decide) ?_
  refine x_puti_h (pc := 10) dX9_startsText_10 pX9_192 (zat_b rfl rfl) rfl rfl ?_
  refine x_aload_n (pc := 13) 0 dX9_startsText_13 rfl rfl ?_
  refine x_iconst (pc := 14) (nI 0) dX9_startsText_14 (by decide) ?_
  refine x_puti_h (pc := 15) dX9_startsText_15 pX9_233 (zat_b rfl rfl) rfl rfl ?_
  refine x_aload_n (pc := 18) 0 dX9_startsText_18 rfl rfl ?_
  refine x_iconst (pc := 19) (nI 0) dX9_startsText_19 (by decide) ?_
  refine x_puti_h (pc := 20) dX9_startsText_20 pX9_220 (zat_b rfl rfl) rfl rfl ?_
  refine x_vret (pc := 23) dX9_startsText_23 rfl ?_
  exact ⟨rfl, rfl⟩
theorem l_here (d : Nat) {L : Nat} (hL : α 100 23 = nI L) (hL4 : L ≤ 400) : ∀ m p, (p + m = L ∨ m = 0 ∧ L ≤ p) → p ≤ 1000 → zX E (d + 1) mX9_here 0 [some (.ref 100)] [] (κ, zup α 100 24 (nI p), τ) (fun r ν => r = some (.int (if zspan (a_blank α) m p < L then α 121 (zspan (a_blank α) m p) &&& nI 255 else -1)) ∧ ν = (κ, zup α 100 24 (nI (zspan (a_blank α) m p)), τ)) := by
  have fin : ∀ p, p ≤ 1000 → zX E (d + 1) mX9_here 52 [some (.ref 100)] [] (κ, zup α 100 24 (nI p), τ) (fun r ν => r = some (.int (if p < L then α 121 p &&& nI 255 else -1)) ∧ ν = (κ, zup α 100 24 (nI p), τ)) := by
    intro p hp
    refine x_aload_n (pc := 52) 0 dX9_here_52 rfl rfl ?_
    refine x_geti_h (pc := 53) dX9_here_53 fX9_233 (zat_b rfl rfl) rfl rfl ?_
    refine x_aload_n (pc := 56) 0 dX9_here_56 rfl rfl ?_
    refine x_geti_h (pc := 57) dX9_here_57 fX9_242 (zat_b rfl rfl) rfl rfl ?_
    rw [zup_same, zup_i (by decide), hL]
    by_cases h : p < L
    · rw [if_pos h]
      refine x_icmp_ge_f (pc := 60) 79 dX9_here_60 (by decide) (nI_ge h (by omega)) ?_
      refine x_aload_n (pc := 63) 0 dX9_here_63 rfl rfl ?_
      refine x_getr (pc := 64) (121) dX9_here_64 fX9_53 (zat_b rfl rfl) rfl ?_
      refine x_aload_n (pc := 67) 0 dX9_here_67 rfl rfl ?_
      refine x_geti_h (pc := 68) dX9_here_68 fX9_233 (zat_b rfl rfl) rfl rfl ?_
      rw [zup_same]
      have hj71 : p < 400 := by omega
      refine x_bald_h (pc := 71) (p) dX9_here_71 (zar_b rfl rfl rfl) rfl (by first | rfl | simp only [pk_mul, nI_add] | simp only [zon, pk_mul, nI_add]) hj71 (Nat.lt_of_lt_of_le hj71 (by decide)) ?_
      rw [zup_p (by decide)]
      refine x_sipush (pc := 72) (nI 255) dX9_here_72 (by decide) ?_
      refine x_iand (pc := 75) dX9_here_75 ?_
      refine x_goto (pc := 76) 80 dX9_here_76 (by decide) ?_
      refine x_iret (pc := 80) dX9_here_80 rfl ?_
      exact ⟨rfl, rfl⟩
    · rw [if_neg h]
      refine x_icmp_ge_t (pc := 60) 79 dX9_here_60 (by decide) (nI_le (by omega) (by omega)) ?_
      refine x_iconst (pc := 79) (-1) dX9_here_79 (by decide) ?_
      refine x_iret (pc := 80) dX9_here_80 rfl ?_
      exact ⟨rfl, rfl⟩
  intro m
  induction m with
  | zero =>
    intro p hm hp
    have hge : L ≤ p := by omega
    refine x_aload_n (pc := 0) 0 dX9_here_0 rfl rfl ?_
    refine x_geti_h (pc := 1) dX9_here_1 fX9_233 (zat_b rfl rfl) rfl rfl ?_
    refine x_aload_n (pc := 4) 0 dX9_here_4 rfl rfl ?_
    refine x_geti_h (pc := 5) dX9_here_5 fX9_242 (zat_b rfl rfl) rfl rfl ?_
    rw [zup_same, zup_i (by decide), hL]
    refine x_icmp_ge_t (pc := 8) 52 dX9_here_8 (by decide) (nI_le hge (by omega)) ?_
    exact fin p hp
  | succ m ih =>
    intro p hm hp
    have hlt : p < L := by omega
    have e : zspan (a_blank α) (m + 1) p = bif a_blank α p then zspan (a_blank α) m (p + 1) else p := rfl
    refine x_aload_n (pc := 0) 0 dX9_here_0 rfl rfl ?_
    refine x_geti_h (pc := 1) dX9_here_1 fX9_233 (zat_b rfl rfl) rfl rfl ?_
    refine x_aload_n (pc := 4) 0 dX9_here_4 rfl rfl ?_
    refine x_geti_h (pc := 5) dX9_here_5 fX9_242 (zat_b rfl rfl) rfl rfl ?_
    rw [zup_same, zup_i (by decide), hL]
    refine x_icmp_ge_f (pc := 8) 52 dX9_here_8 (by decide) (nI_ge hlt (by omega)) ?_
    refine x_aload_n (pc := 11) 0 dX9_here_11 rfl rfl ?_
    refine x_getr (pc := 12) (121) dX9_here_12 fX9_53 (zat_b rfl rfl) rfl ?_
    refine x_aload_n (pc := 15) 0 dX9_here_15 rfl rfl ?_
    refine x_geti_h (pc := 16) dX9_here_16 fX9_233 (zat_b rfl rfl) rfl rfl ?_
    rw [zup_same]
    have hj19 : p < 400 := by omega
    refine x_bald_h (pc := 19) (p) dX9_here_19 (zar_b rfl rfl rfl) rfl (by first | rfl | simp only [pk_mul, nI_add] | simp only [zon, pk_mul, nI_add]) hj19 (Nat.lt_of_lt_of_le hj19 (by decide)) ?_
    rw [zup_p (by decide)]
    have more : a_blank α p = true → zX E (d + 1) mX9_here 39 [some (.ref 100)] [] (κ, zup α 100 24 (nI p), τ) (fun r ν => r = some (.int (if zspan (a_blank α) (m + 1) p < L then α 121 (zspan (a_blank α) (m + 1) p) &&& nI 255 else -1)) ∧ ν = (κ, zup α 100 24 (nI (zspan (a_blank α) (m + 1) p)), τ)) := by
      intro hb
      rw [hb, cond_true] at e
      rw [e]
      refine x_aload_n (pc := 39) 0 dX9_here_39 rfl rfl ?_
      refine x_dup (pc := 40) dX9_here_40 rfl ?_
      refine x_geti_h (pc := 41) dX9_here_41 fX9_233 (zat_b rfl rfl) rfl rfl ?_
      rw [zup_same]
      refine x_iconst (pc := 44) (nI 1) dX9_here_44 (by decide) ?_
      refine x_iadd (pc := 45) dX9_here_45 ?_
      rw [nI_add]
      refine x_puti_h (pc := 46) dX9_here_46 pX9_233 (zat_b rfl rfl) rfl rfl ?_
      refine x_goto (pc := 49) 0 dX9_here_49 (by decide) ?_
      rw [zup_zup]
      exact ih (p + 1) (by omega) (by omega)
    by_cases h1 : α 121 p = nI 32
    ·
      refine x_bipush (pc := 20) (nI 32) dX9_here_20 (by decide) ?_
      refine x_icmp_eq_t (pc := 22) 39 dX9_here_22 (by decide) (h1) ?_
      exact more (by simp [a_blank, h1])
    ·
      refine x_bipush (pc := 20) (nI 32) dX9_here_20 (by decide) ?_
      refine x_icmp_eq_f (pc := 22) 39 dX9_here_22 (by decide) (h1) ?_
      refine x_aload_n (pc := 25) 0 dX9_here_25 rfl rfl ?_
      refine x_getr (pc := 26) (121) dX9_here_26 fX9_53 (zat_b rfl rfl) rfl ?_
      refine x_aload_n (pc := 29) 0 dX9_here_29 rfl rfl ?_
      refine x_geti_h (pc := 30) dX9_here_30 fX9_233 (zat_b rfl rfl) rfl rfl ?_
      rw [zup_same]
      have hj33 : p < 400 := by omega
      refine x_bald_h (pc := 33) (p) dX9_here_33 (zar_b rfl rfl rfl) rfl (by first | rfl | simp only [pk_mul, nI_add] | simp only [zon, pk_mul, nI_add]) hj33 (Nat.lt_of_lt_of_le hj33 (by decide)) ?_
      rw [zup_p (by decide)]
      by_cases h2 : α 121 p = nI 10
      ·
        refine x_bipush (pc := 34) (nI 10) dX9_here_34 (by decide) ?_
        refine x_icmp_ne_f (pc := 36) 52 dX9_here_36 (by decide) (h2) ?_
        exact more (by simp [a_blank, h2])
      · have hb : a_blank α p = false := by simp [a_blank, h1, h2]
        rw [hb, cond_false] at e
        rw [e]
        refine x_bipush (pc := 34) (nI 10) dX9_here_34 (by decide) ?_
        refine x_icmp_ne_t (pc := 36) 52 dX9_here_36 (by decide) (h2) ?_
        exact fin p hp
theorem t_here (d : Nat) (h : aWT α) : zTr E (d + 1) mX9_here [.ref 100] (κ, α, τ) (some (.int (a_chr α))) (κ, a_here α, τ) := by
  refine zM.tr (zM_of [some (.ref 100)] (by decide) rfl (Nat.le_of_ble_eq_true rfl) ?_)
  obtain ⟨a, b, c, e⟩ := h
  have K := l_here (E := E) (κ := κ) (τ := τ) d c e (aLen α - aPl α) (aPl α) (by omega) b
  rw [zup_self a] at K
  exact K
theorem t_fails (d : Nat) (k w : Int32) : zTr E (d + 1) mX9_fails [.ref 100, .int k, .int w] (κ, α, τ) none (κ, a_fails α k w, τ) := by
  refine zM.tr (zM_of [some (.ref 100), some (.int k), some (.int w)] (by decide) rfl (Nat.le_of_ble_eq_true rfl) ?_)
  unfold a_fails
  by_cases h : α 100 25 = 0
  · rw [if_pos h]
    refine x_aload_n (pc := 0) 0 dX9_fails_0 rfl rfl ?_
    refine x_geti_h (pc := 1) dX9_fails_1 fX9_220 (zat_b rfl rfl) rfl rfl ?_
    refine x_if_ne_f (pc := 4) 17 dX9_fails_4 (by decide) (h) ?_
    refine x_aload_n (pc := 7) 0 dX9_fails_7 rfl rfl ?_
    refine x_iload_n (pc := 8) 1 dX9_fails_8 rfl rfl ?_
    refine x_bipush (pc := 9) (nI 8) dX9_fails_9 (by decide) ?_
    refine x_iload_n (pc := 11) 2 dX9_fails_11 rfl rfl ?_
    refine x_imul (pc := 12) dX9_fails_12 ?_
    refine x_iadd (pc := 13) dX9_fails_13 ?_
    refine x_puti_h (pc := 14) dX9_fails_14 pX9_220 (zat_b rfl rfl) rfl rfl ?_
    refine x_vret (pc := 17) dX9_fails_17 rfl ?_
    exact ⟨rfl, rfl⟩
  · rw [if_neg h]
    refine x_aload_n (pc := 0) 0 dX9_fails_0 rfl rfl ?_
    refine x_geti_h (pc := 1) dX9_fails_1 fX9_220 (zat_b rfl rfl) rfl rfl ?_
    refine x_if_ne_t (pc := 4) 17 dX9_fails_4 (by decide) (h) ?_
    refine x_vret (pc := 17) dX9_fails_17 rfl ?_
    exact ⟨rfl, rfl⟩
theorem t_isDigit (d : Nat) (h : aWT α) : zTr E (d + 2) mX9_isDigit [.ref 100] (κ, α, τ) (some (.int (zbo (a_dig (a_chr α))))) (κ, a_here α, τ) := by
  refine zM.tr (zM_of [some (.ref 100)] (by decide) rfl (Nat.le_of_ble_eq_true rfl) ?_)
  refine x_aload_n (pc := 0) 0 dX9_isDigit_0 rfl rfl ?_
  refine x_callV0i (pc := 1) dX9_isDigit_1 lX9_223 (zat_b rfl rfl) rfl (t_here d h) (Nat.le_of_ble_eq_true rfl) (Or.inl zgr) ?_
  refine x_bipush (pc := 4) (nI 48) dX9_isDigit_4 (by decide) ?_
  refine x_bipush (pc := 6) (nI 57) dX9_isDigit_6 (by decide) ?_
  refine x_callS3i (pc := 8) dX9_isDigit_8 lX9_67 (t_isIn d _ _ _) (Nat.le_of_ble_eq_true rfl) (Or.inl zgr) ?_
  refine x_zret (pc := 11) dX9_isDigit_11 rfl (zbo_nar _) ?_
  exact ⟨rfl, rfl⟩
theorem t_isLit (d : Nat) (h : aWT α) : zTr E (d + 3) mX9_isLit [.ref 100] (κ, α, τ) (some (.int (zbo (decide (a_chr α = nI 45) || a_dig (a_chr α))))) (κ, a_here α, τ) := by
  have h1 := a_here_WT h
  have e1 : a_chr (a_here α) = a_chr α ∧ a_here (a_here α) = a_here α := by
    have hh := a_hp_le h
    have hb : a_blank (a_here α) = a_blank α := by funext i; unfold a_blank a_here; rw [zup_p (by decide)]
    have hp : aPl (a_here α) = a_hp α := aPl_at (by omega)
    have hl : aLen (a_here α) = aLen α := aLen_up (Or.inr (by decide))
    have hq : a_hp (a_here α) = a_hp α := by
      unfold a_hp
      rw [hb, hp, hl]
      have g := zspan_ge (a_blank α) (aLen α - aPl α) (aPl α)
      show zspan (a_blank α) (aLen α - a_hp α) (a_hp α) = a_hp α
      cases hm : aLen α - a_hp α with
      | zero => rfl
      | succ m =>
        have := zspan_out (a_blank α) (aLen α - aPl α) (aPl α) (by unfold a_hp at hm; omega)
        show (bif a_blank α (a_hp α) then _ else _) = _
        unfold a_hp at this ⊢
        rw [this]
        rfl
    refine ⟨?_, ?_⟩
    · unfold a_chr
      rw [hq, hl]
      unfold a_here
      rw [zup_p (by decide)]
    · show zup (a_here α) 100 24 (nI (a_hp (a_here α))) = a_here α
      rw [hq]
      exact zup_zup
  refine zM.tr (zM_of [some (.ref 100)] (by decide) rfl (Nat.le_of_ble_eq_true rfl) ?_)
  by_cases hc : a_chr α = nI 45
  ·
    refine x_aload_n (pc := 0) 0 dX9_isLit_0 rfl rfl ?_
    refine x_callV0i (pc := 1) dX9_isLit_1 lX9_223 (zat_b rfl rfl) rfl (t_here (d + 1) h) (Nat.le_of_ble_eq_true rfl) (Or.inl zgr) ?_
    refine x_bipush (pc := 4) (nI 45) dX9_isLit_4 (by decide) ?_
    refine x_icmp_eq_t (pc := 6) 16 dX9_isLit_6 (by decide) (hc) ?_
    refine x_iconst (pc := 16) (nI 1) dX9_isLit_16 (by decide) ?_
    refine x_goto (pc := 17) 21 dX9_isLit_17 (by decide) ?_
    refine x_zret (pc := 21) dX9_isLit_21 rfl (by decide) ?_
    exact ⟨by simp [hc, zbo], rfl⟩
  ·
    refine x_aload_n (pc := 0) 0 dX9_isLit_0 rfl rfl ?_
    refine x_callV0i (pc := 1) dX9_isLit_1 lX9_223 (zat_b rfl rfl) rfl (t_here (d + 1) h) (Nat.le_of_ble_eq_true rfl) (Or.inl zgr) ?_
    refine x_bipush (pc := 4) (nI 45) dX9_isLit_4 (by decide) ?_
    refine x_icmp_eq_f (pc := 6) 16 dX9_isLit_6 (by decide) (hc) ?_
    refine x_aload_n (pc := 9) 0 dX9_isLit_9 rfl rfl ?_
    refine x_callV0i (pc := 10) dX9_isLit_10 lX9_245 (zat_b rfl rfl) rfl (t_isDigit d h1) (Nat.le_of_ble_eq_true rfl) (Or.inl zgr) ?_
    rw [e1.1, e1.2]
    cases hd : a_dig (a_chr α) with
    | true =>
      refine x_if_eq_f (pc := 13) 20 dX9_isLit_13 (by decide) (by decide) ?_
      refine x_iconst (pc := 16) (nI 1) dX9_isLit_16 (by decide) ?_
      refine x_goto (pc := 17) 21 dX9_isLit_17 (by decide) ?_
      refine x_zret (pc := 21) dX9_isLit_21 rfl (by decide) ?_
      exact ⟨by simp [zbo], rfl⟩
    | false =>
      refine x_if_eq_t (pc := 13) 20 dX9_isLit_13 (by decide) (rfl) ?_
      refine x_iconst (pc := 20) (nI 0) dX9_isLit_20 (by decide) ?_
      refine x_zret (pc := 21) dX9_isLit_21 rfl (by decide) ?_
      exact ⟨by simp [hc, zbo], rfl⟩
def a_clTold (α : Nat → Nat → Int32) : Nat → Nat → Int32 := zit (fun v a => zup a 126 v (nI 0)) 0 31 α
theorem l_clearsTold (d : Nat) : ∀ m v α, v + m = 31 → zX E (d + 1) mX9_clearsTold 2 [some (.ref 100), some (.int (nI v))] [] (κ, α, τ) (fun r ν => r = none ∧ ν = (κ, zit (fun v a => zup a 126 v (nI 0)) v m α, τ)) := by
  intro m
  induction m with
  | zero =>
    intro v α hv
    refine x_iload_n (pc := 2) 1 dX9_clearsTold_2 rfl rfl ?_
    refine x_bipush (pc := 3) (nI 30) dX9_clearsTold_3 (by decide) ?_
    refine x_icmp_gt_t (pc := 5) 21 dX9_clearsTold_5 (by decide) (nI_lt (by omega) (by omega)) ?_
    refine x_vret (pc := 21) dX9_clearsTold_21 rfl ?_
    exact ⟨rfl, rfl⟩
  | succ m ih =>
    intro v α hv
    refine x_iload_n (pc := 2) 1 dX9_clearsTold_2 rfl rfl ?_
    refine x_bipush (pc := 3) (nI 30) dX9_clearsTold_3 (by decide) ?_
    refine x_icmp_gt_f (pc := 5) 21 dX9_clearsTold_5 (by decide) (nI_nlt (by omega) (by omega)) ?_
    refine x_aload_n (pc := 8) 0 dX9_clearsTold_8 rfl rfl ?_
    refine x_getr (pc := 9) (126) dX9_clearsTold_9 fX9_57 (zat_b rfl rfl) rfl ?_
    refine x_iload_n (pc := 12) 1 dX9_clearsTold_12 rfl rfl ?_
    refine x_iconst (pc := 13) (nI 0) dX9_clearsTold_13 (by decide) ?_
    have hj14 : v < 31 := by omega
    refine x_zast_h (pc := 14) (v) dX9_clearsTold_14 (zar_b rfl rfl rfl) rfl (by first | rfl | simp only [pk_mul, nI_add] | simp only [zon, pk_mul, nI_add]) hj14 (Nat.lt_of_lt_of_le hj14 (by decide)) (by decide) ?_
    refine x_iinc (pc := 15) (nI (v + 1)) dX9_clearsTold_15 rfl (zinc _) (by decide) rfl ?_
    refine x_goto (pc := 18) 2 dX9_clearsTold_18 (by decide) ?_
    exact ih (v + 1) _ (by omega)
theorem t_clearsTold (d : Nat) : zTr E (d + 1) mX9_clearsTold [.ref 100] (κ, α, τ) none (κ, a_clTold α, τ) := by
  refine zM.tr (zM_of [some (.ref 100), none] (by decide) rfl (Nat.le_of_ble_eq_true rfl) ?_)
  refine x_iconst (pc := 0) (nI 0) dX9_clearsTold_0 (by decide) ?_
  refine x_istore_n (pc := 1) 1 dX9_clearsTold_1 rfl (by decide) rfl ?_
  exact l_clearsTold d 31 0 α (by omega)
end M16
