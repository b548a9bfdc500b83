/-! refute, as a call -/
section RG
variable {E : zEnv} {κ κ' α α' t a Y : Nat → Nat → Int32} {τ : (Nat → Nat → Int64) × (Nat → Nat)} {k T R cnt : Nat} {al : Bool}
/-- all literals of a row made false -/
theorem asR_ngG {m1 m2 : Int32} {S : Nat} {f : Nat → Int32} {β : Nat → Nat → Int32} (m : mR m1 m2 S f) (lk : ∀ i, i < S → lok 30 (f i)) (hd : ∀ i j, i < j → j < S → ¬ zv (f i) = zv (f j)) (h0 : ∀ v, 1 ≤ v → v ≤ 30 → β 105 v = 0) : asR m2 m1 (zit (a_ngF f) 0 S β 105) := by
  obtain ⟨n1, n2, -⟩ := ng_is (f := f) S β lk
  intro v v1 v2
  have N := zv_tab (v := v) (by omega) v1
  have T1 := zv_tab1 v (by omega)
  have M := m.2.2 v v1 v2
  by_cases e : ∃ i, i < S ∧ zv (f i) = v
  · obtain ⟨i, i1, i2⟩ := e
    have g := n2 i i1 (fun j a b => hd i j a b)
    rw [i2] at g
    have un : ∀ j, j < S → zv (f j) = v → j = i := fun j j1 j2 => by
      rcases Nat.lt_trichotomy j i with x | x | x
      · exact absurd (j2.trans i2.symm) (hd j i x i1)
      · exact x
      · exact absurd (i2.trans j2.symm) (hd i j x j1)
    obtain ⟨u, u1, u2, eu, d⟩ := lok_two (lk i i1)
    have : u = v := eu.symm.trans i2
    subst this
    rw [g]
    rcases d with d | d
    · right; left
      rw [d, if_neg N.2.1]
      refine ⟨rfl, ?_, M.1.mpr ⟨i, i1, d⟩⟩
      cases x : kt m2 u with
      | false => rfl
      | true =>
        obtain ⟨j, j1, j2⟩ := M.2.mp x
        have := un j j1 (by rw [j2]; exact zvm v2)
        subst this; exact absurd (d.symm.trans j2) N.2.2.2.2.1
    · left
      rw [d, T1.2.2.2, if_pos N.1]
      refine ⟨rfl, M.2.mpr ⟨i, i1, d⟩, ?_⟩
      cases x : kt m1 u with
      | false => rfl
      | true =>
        obtain ⟨j, j1, j2⟩ := M.1.mp x
        have := un j j1 (by rw [j2]; exact zvn v2)
        subst this; exact absurd (j2.symm.trans d) N.2.2.2.2.1
  · have hn : ∀ i, i < S → ¬ zv (f i) = v := fun i hi x => e ⟨i, hi, x⟩
    right; right
    rw [n1 v v1 v2 hn]
    refine ⟨h0 v v1 v2, ?_, ?_⟩
    · cases x : kt m2 v with
      | false => rfl
      | true => obtain ⟨j, j1, j2⟩ := M.2.mp x; exact absurd (by rw [j2]; exact zvm v2) (hn j j1)
    · cases x : kt m1 v with
      | false => rfl
      | true => obtain ⟨j, j1, j2⟩ := M.1.mp x; exact absurd (by rw [j2]; exact zvn v2) (hn j j1)
/-- only whether it is closed changes -/
theorem stR.clo (h : stR κ α τ) {x : Int32} (ek : ∀ p j, 10 ≤ p → p ≤ 21 → ¬ (p = 10 ∧ j = 16) → κ' p j = κ p j) (ek6 : κ' 10 16 = x) (ea : ∀ j, ¬ j = 15 → α' 101 j = α 101 j) (e15 : α' 101 15 = x) : stR κ' α' τ := by
  have eV : aV α' = aV α := by unfold aV; rw [ea 0 (by omega)]
  obtain ⟨m1, m2, m3, m4, m5, m6⟩ := h.1.2.2.2.2.1
  obtain ⟨⟨o1, o2, o3⟩, ⟨o4, o5⟩, mo, r1, r2⟩ := h.2
  have hO : oR κ' α' := by
    refine ⟨⟨?_, ?_, ek6.trans e15.symm⟩, ⟨?_, ?_⟩, mo.eq ⟨ek 10 14 (by omega) (by omega) (by omega), ek 10 15 (by omega) (by omega) (by omega)⟩ (fun j hj => ea j (by omega)), r1.eq (fun j => ek 17 j (by omega) (by omega) (by omega)) (fun j => ek 18 j (by omega) (by omega) (by omega)) (ea 4 (by omega)) (fun j _ => ea _ (by omega)) (by omega), r2.eq (fun j => ek 19 j (by omega) (by omega) (by omega)) (fun j => ek 20 j (by omega) (by omega) (by omega)) (ea 3 (by omega)) (fun j _ => ea _ (by omega)) (by omega)⟩
    · rw [ek 10 7 (by omega) (by omega) (by omega), ea 7 (by omega)]; exact o1
    · rw [ek 10 12 (by omega) (by omega) (by omega), ea 12 (by omega)]; exact o2
    · rw [ek 10 12 (by omega) (by omega) (by omega), ek 10 13 (by omega) (by omega) (by omega), ea 13 (by omega)]; exact o4
    · rw [ek 10 12 (by omega) (by omega) (by omega), ea 13 (by omega)]; exact o5
  refine h.mk2 (by rw [eV, ea 0 (by omega)]; exact h.1.1.2.1.1.1) ⟨by omega, by rw [eV]; exact h.1.1.2.1.1.2⟩ (fun p a b => funext fun j => ek p j (by omega) (by omega) (by omega)) (fun j hj => ea j (by omega)) ?_ (fun v a b => ?_) (fun v a b => ?_) ⟨?_, ?_, ?_, ?_, ?_⟩ hO rfl
  · rw [ek 10 4 (by omega) (by omega) (by omega), ea 0 (by omega)]; exact h.1.2.1.1
  · rw [ek 10 5 (by omega) (by omega) (by omega), ea (32 + v) (by omega)]; exact h.1.2.2.1 v a b
  · rw [ek 21 v (by omega) (by omega) (by omega), ea (63 + v) (by omega)]; exact h.1.2.2.2.1 v a b
  · rw [ek 10 6 (by omega) (by omega) (by omega), ea 5 (by omega)]; exact m1
  · rw [ek 10 8 (by omega) (by omega) (by omega), ea 8 (by omega)]; exact m2
  · rw [ek 10 9 (by omega) (by omega) (by omega), ea 9 (by omega)]; exact m3
  · rw [ek 10 10 (by omega) (by omega) (by omega), ea 10 (by omega)]; exact m4
  · rw [ek 10 11 (by omega) (by omega) (by omega), ea 11 (by omega)]; exact m5
/-- what is left alone while the lines are looked at -/
def rfF (β γ : Nat → Nat → Int32) : Prop := (∀ p, p ∉ aSc → ¬ p = 101 → γ p = β p) ∧ (∀ i, ¬ i = 15 → γ 101 i = β 101 i) ∧ zo1 β γ
theorem rfF.tr {β γ δ : Nat → Nat → Int32} (h : rfF β γ) (k : rfF γ δ) : rfF β δ := ⟨fun p a b => (k.1 p a b).trans (h.1 p a b), fun i a => (k.2.1 i a).trans (h.2.1 i a), h.2.2.tr k.2.2⟩
theorem rfK_sim (h : stR κ α τ) (hT : T = zcnt (zNl α) 0 (aN α)) (hrT : rdT κ α t) (hA : lgA Y R) (hK : lgK t a Y T al cnt R) : ∀ mr k (α' : Nat → Nat → Int32), k + mr = R → k ≤ cnt → α' 118 = Y 118 → α' 119 = Y 119 → (∀ i, ¬ i = 15 → α' 101 i = α 101 i) → (α' 101 15 = 0 ∨ α' 101 15 = nI 1) → (¬ α' 101 15 = 0 ↔ ∃ k', k' < k ∧ aF Y (k' + 1) = aF Y k') →
    (a_rfK mr k α').1 = cnt ∧ rfF α' (a_rfK mr k α').2 ∧ ((a_rfK mr k α').2 101 15 = 0 ∨ (a_rfK mr k α').2 101 15 = nI 1) ∧ (¬ (a_rfK mr k α').2 101 15 = 0 ↔ ∃ k', k' < cnt ∧ aF Y (k' + 1) = aF Y k')
  | 0, k, α', hk, hc, e8, e9, e1, h15, hcl => by
    have := hK.2.2.2.1
    have e : k = cnt := by omega
    subst e
    exact ⟨rfl, ⟨fun _ _ _ => rfl, fun _ _ => rfl, zo1.rf⟩, h15, hcl⟩
  | mr + 1, k, α', hk, hc, e8, e9, e1, h15, hcl => by
    obtain ⟨k0, k1, k2, k3, k4, k5, k6, k7, k8⟩ := hK
    have s : stR (zup κ 10 16 (α' 101 15)) α' τ := h.clo (fun p j _ _ x => if_neg x) (zup_same _ _ _ _) e1 rfl
    have el : a_learnt α' = a_learnt α := funext fun c => by unfold a_learnt; rw [e1 (525 + c) (by omega)]
    have en : zNl α' = zNl α := funext fun c => by unfold zNl; rw [el]
    have eN : aN α' = aN α := by unfold aN; rw [e1 1 (by omega)]
    have zle : ∀ c, c < aN α → a_learnt α c = false → zcnt (zNl α) 0 c < T := fun c hc hl => by
      have := zcnt_add (zNl α) (c + 1) 0 (aN α - (c + 1))
      rw [show c + 1 + (aN α - (c + 1)) = aN α from by omega, zcnt_succ, Nat.zero_add] at this
      have h1 : (bif zNl α c then 1 else 0) = 1 := by unfold zNl; rw [hl]; rfl
      omega
    have rt : rdT (zup κ 10 16 (α' 101 15)) α' a := fun c hc hl => by
      rw [eN] at hc
      rw [el] at hl
      rw [en, zup_p (by decide), zup_p (by decide)]
      have z := zle c hc hl
      rw [(k0 _ z).1, (k0 _ z).2]; exact hrT c hc hl
    have eF : ∀ x, aF α' x = aF Y x := fun x => by unfold aF; rw [e9]
    have hR : aRd α' R := by have := hA.2.1; unfold aRd aF at *; rw [e8, e9]; exact this
    have hR2 : aRd2 α' R := by have := hA.2.2; unfold aRd2 aF at *; rw [e8, e9]; exact this
    have hQ : rdQ a α' (zcnt (zNl α') 0 (aN α')) k := fun x hx => by
      rw [en, eN, ← hT, eF, eF, e8]; exact k1 x (by omega)
    have lk : ∀ i, i < aF Y (k + 1) - aF Y k → lok 30 (Y 118 (aF Y k + i)) := fun i hi => hA.2.1.2.2.2 k (by omega) _ (by omega) (by omega)
    have as := asR_ngG (β := a_emp α') (hA.2.1.mR (k := k) (by omega)) lk (fun x y hx hy => hA.2.2 k (by omega) _ _ (by omega) (by omega) (by omega)) (fun v _ v2 => emp_105 α' v2)
    rw [← ng_sft, ← e8, ← eF, ← eF] at as
    have o1 : zoff aSc α' (zit (a_ngF (α' 118)) (aF α' k) (aF α' (k + 1) - aF α' k) (a_emp α')) := (a_emp_off α').tr (zit_off _ (fun x y => a_ngF_off _ x y) _ _ _)
    have o2 : zo1 α' (zit (a_ngF (α' 118)) (aF α' k) (aF α' (k + 1) - aF α' k) (a_emp α')) := (zo1_emp α').tr (zo1_it _ (fun x y => zo1_comes y _ _) _ _ _)
    have rs := rf_sim2 s rt (K := k) (R := R) (by omega) hR hR2 hQ 31 _ _ _ (fun x hx => o1 x (by rcases hx with rfl | rfl | rfl <;> decide)) as
    have oo := o1.tr (a_rf_off 0 k 31 _)
    have oz := o2.tr (zo1_rf 0 k 31 _)
    have ek : a_rfK (mr + 1) k α' = (if (a_rf 0 k 31 (zit (a_ngF (α' 118)) (aF α' k) (aF α' (k + 1) - aF α' k) (a_emp α'))).1 = true then a_rfK mr (k + 1) (zup (a_rf 0 k 31 (zit (a_ngF (α' 118)) (aF α' k) (aF α' (k + 1) - aF α' k) (a_emp α'))).2 101 15 (if aF α' (k + 1) = aF α' k then nI 1 else α' 101 15)) else (k, (a_rf 0 k 31 (zit (a_ngF (α' 118)) (aF α' k) (aF α' (k + 1) - aF α' k) (a_emp α'))).2)) := rfl
    rw [en, eN, ← hT] at rs
    have rs : (a_rf 0 k 31 (zit (a_ngF (α' 118)) (aF α' k) (aF α' (k + 1) - aF α' k) (a_emp α'))).1 = k_acL a (T + k) 31 (lnM Y k, lpM Y k, true) := by rw [rs, e8, eF, eF]; rfl
    rw [ek]
    generalize a_rf 0 k 31 (zit (a_ngF (α' 118)) (aF α' k) (aF α' (k + 1) - aF α' k) (a_emp α')) = Z at *
    obtain ⟨z, β⟩ := Z
    have oo : zoff aSc α' β := oo
    have oz : zo1 α' β := oz
    have rs : z = k_acL a (T + k) 31 (lnM Y k, lpM Y k, true) := rs
    have fb : rfF α' β := ⟨fun p x _ => oo p x, fun i _ => by rw [oo 101 (by decide)], oz⟩
    rcases Nat.lt_or_ge k cnt with lt | ge
    · rw [k5 k lt] at rs
      subst rs
      rw [if_pos rfl, eF, eF]
      have e15 : zup β 101 15 (if aF Y (k + 1) = aF Y k then nI 1 else α' 101 15) 101 15 = if aF Y (k + 1) = aF Y k then nI 1 else α' 101 15 := zup_same _ _ _ _
      have fz : rfF β (zup β 101 15 (if aF Y (k + 1) = aF Y k then nI 1 else α' 101 15)) := ⟨fun p _ x => funext fun i => zup_p x, fun i x => zup_i x, fun i _ _ => zup_p (by decide)⟩
      have F := fb.tr fz
      generalize zup β 101 15 (if aF Y (k + 1) = aF Y k then nI 1 else α' 101 15) = δ at *
      obtain ⟨i1, i2, i3, i4⟩ := rfK_sim h hT hrT hA ⟨k0, k1, k2, k3, k4, k5, k6, k7, k8⟩ mr (k + 1) δ (by omega) (by omega) ((F.1 118 (by decide) (by decide)).trans e8) ((F.1 119 (by decide) (by decide)).trans e9) (fun i x => (F.2.1 i x).trans (e1 i x)) (by
        rw [e15]; split
        · exact .inr rfl
        · exact h15) (by
        rw [e15]
        by_cases x : aF Y (k + 1) = aF Y k
        · rw [if_pos x]
          exact ⟨fun _ => ⟨k, by omega, x⟩, fun _ => by decide⟩
        · rw [if_neg x, hcl]
          refine ⟨fun ⟨k', y, w⟩ => ⟨k', by omega, w⟩, fun ⟨k', y, w⟩ => ?_⟩
          by_cases e : k' = k
          · subst e; exact absurd w x
          · exact ⟨k', by omega, w⟩)
      exact ⟨i1, F.tr i2, i3, i4⟩
    · have ec : k = cnt := by omega
      subst ec
      have af : al = false := by
        cases al with
        | false => rfl
        | true => have := k4 rfl; omega
      rw [(k6 af).2] at rs
      subst rs
      rw [if_neg (fun x => absurd (show false = true from x) (by decide))]
      have e15 : β 101 15 = α' 101 15 := congrFun (oo 101 (by decide)) 15
      refine ⟨rfl, fb, ?_, ?_⟩
      · show β 101 15 = 0 ∨ β 101 15 = nI 1
        rw [e15]; exact h15
      · show ¬ β 101 15 = 0 ↔ _
        rw [e15]; exact hcl
end RG
