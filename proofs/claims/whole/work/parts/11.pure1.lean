/-! plain facts: small ints, loops as functions, literals -/
/-- iterate f over k, k+1, .. (m of them) -/
def zit {β : Type} (f : Nat → β → β) : Nat → Nat → β → β
  | _, 0, b => b
  | k, m + 1, b => zit f (k + 1) m (f k b)
/-- the first of k, k+1, .. (m of them) with p -/
def zfind (p : Nat → Bool) : Nat → Nat → Option Nat
  | _, 0 => none
  | k, m + 1 => bif p k then some k else zfind p (k + 1) m
/-- how many of k, k+1, .. (m of them) have p -/
def zcnt (p : Nat → Bool) : Nat → Nat → Nat
  | _, 0 => 0
  | k, m + 1 => (bif p k then 1 else 0) + zcnt p (k + 1) m
theorem zfind_some {p : Nat → Bool} : ∀ {m k c : Nat}, zfind p k m = some c → k ≤ c ∧ c < k + m ∧ p c = true ∧ ∀ j, k ≤ j → j < c → p j = false
  | 0, k, c, h => by cases h
  | m + 1, k, c, h => by
    unfold zfind at h
    cases hp : p k with
    | true => rw [hp] at h; cases h; exact ⟨Nat.le_refl _, by omega, hp, fun j h1 h2 => by omega⟩
    | false =>
      rw [hp] at h
      obtain ⟨a, b, e, f⟩ := zfind_some (m := m) h
      refine ⟨by omega, by omega, e, fun j h1 h2 => ?_⟩
      rcases Nat.eq_or_lt_of_le h1 with rfl | h3
      · exact hp
      · exact f j h3 h2
theorem zfind_none {p : Nat → Bool} : ∀ {m k : Nat}, zfind p k m = none → ∀ j, k ≤ j → j < k + m → p j = false
  | 0, k, h, j, h1, h2 => by omega
  | m + 1, k, h, j, h1, h2 => by
    unfold zfind at h
    cases hp : p k with
    | true => rw [hp] at h; cases h
    | false =>
      rw [hp] at h
      rcases Nat.eq_or_lt_of_le h1 with rfl | h3
      · exact hp
      · exact zfind_none (m := m) h j h3 (by omega)
theorem zfind_is {p : Nat → Bool} {m k c : Nat} (h1 : k ≤ c) (h2 : c < k + m) (h3 : p c = true) (h4 : ∀ j, k ≤ j → j < c → p j = false) : zfind p k m = some c := by
  cases h : zfind p k m with
  | none => rw [zfind_none h c h1 h2] at h3; cases h3
  | some e =>
    obtain ⟨a1, a2, a3, a4⟩ := zfind_some h
    rcases Nat.lt_trichotomy e c with q | q | q
    · rw [h4 e a1 q] at a3; cases a3
    · rw [q]
    · rw [a4 c h1 q] at h3; cases h3
theorem zfind_isn {p : Nat → Bool} {m k : Nat} (h : ∀ j, k ≤ j → j < k + m → p j = false) : zfind p k m = none := by
  cases h1 : zfind p k m with
  | none => rfl
  | some e =>
    obtain ⟨a1, a2, a3, a4⟩ := zfind_some h1
    rw [h e a1 a2] at a3; cases a3
theorem zfind_congr {p q : Nat → Bool} {m k : Nat} (h : ∀ j, k ≤ j → j < k + m → p j = q j) : zfind p k m = zfind q k m := by
  cases h1 : zfind q k m with
  | none => exact zfind_isn (fun j a b => by rw [h j a b]; exact zfind_none h1 j a b)
  | some e =>
    obtain ⟨a1, a2, a3, a4⟩ := zfind_some h1
    exact zfind_is a1 a2 (by rw [h e a1 a2]; exact a3) (fun j x y => by rw [h j x (by omega)]; exact a4 j x y)
theorem zcnt_congr {p q : Nat → Bool} : ∀ {m k : Nat}, (∀ j, k ≤ j → j < k + m → p j = q j) → zcnt p k m = zcnt q k m
  | 0, k, h => rfl
  | m + 1, k, h => by
    unfold zcnt
    rw [h k (Nat.le_refl _) (by omega), zcnt_congr (m := m) (fun j a b => h j (by omega) (by omega))]
theorem zcnt_le (p : Nat → Bool) : ∀ (m k : Nat), zcnt p k m ≤ m
  | 0, k => Nat.le_refl _
  | m + 1, k => by
    unfold zcnt
    have := zcnt_le p m (k + 1)
    cases p k <;> simp only [cond_true, cond_false] <;> omega
theorem zcnt_zero {p : Nat → Bool} : ∀ {m k : Nat}, zcnt p k m = 0 ↔ ∀ j, k ≤ j → j < k + m → p j = false
  | 0, k => ⟨fun _ j a b => by omega, fun _ => rfl⟩
  | m + 1, k => by
    unfold zcnt
    constructor
    · intro h j a b
      cases hp : p k with
      | true => rw [hp] at h; simp only [cond_true] at h; omega
      | false =>
        rw [hp] at h; simp only [cond_false] at h
        rcases Nat.eq_or_lt_of_le a with rfl | a'
        · exact hp
        · exact (zcnt_zero (m := m) (k := k + 1)).mp (by omega) j a' (by omega)
    · intro h
      rw [h k (Nat.le_refl _) (by omega), (zcnt_zero (m := m)).mpr (fun j a b => h j (by omega) (by omega))]; rfl
theorem zcnt_add (p : Nat → Bool) : ∀ (a k b : Nat), zcnt p k (a + b) = zcnt p k a + zcnt p (k + a) b
  | 0, k, b => by simp [zcnt]
  | a + 1, k, b => by
    rw [show a + 1 + b = (a + b) + 1 by omega]
    show (bif p k then 1 else 0) + zcnt p (k + 1) (a + b) = ((bif p k then 1 else 0) + zcnt p (k + 1) a) + zcnt p (k + (a + 1)) b
    rw [zcnt_add p a (k + 1) b, show k + 1 + a = k + (a + 1) by omega]
    omega
theorem zcnt_succ (p : Nat → Bool) (k m : Nat) : zcnt p k (m + 1) = zcnt p k m + (bif p (k + m) then 1 else 0) := by
  rw [zcnt_add p m k 1]; simp [zcnt]
theorem zit_add {β : Type} (f : Nat → β → β) : ∀ (a k b : Nat) (x : β), zit f k (a + b) x = zit f (k + a) b (zit f k a x)
  | 0, k, b, x => by simp [zit]
  | a + 1, k, b, x => by
    rw [show a + 1 + b = (a + b) + 1 by omega]
    show zit f (k + 1) (a + b) (f k x) = zit f (k + (a + 1)) b (zit f (k + 1) a (f k x))
    rw [zit_add f a (k + 1) b, show k + 1 + a = k + (a + 1) by omega]
theorem zit_succ {β : Type} (f : Nat → β → β) (k m : Nat) (x : β) : zit f k (m + 1) x = f (k + m) (zit f k m x) := by
  rw [zit_add f m k 1]; rfl
/-- -1 for none -/
def zon : Option Nat → Int32
  | none => -1
  | some c => nI c
/-- a literal of one of the variables 1 .. V -/
def lok (V : Nat) (l : Int32) : Prop := ∃ v, 1 ≤ v ∧ v ≤ V ∧ (l = nI v ∨ l = -(nI v))
/-- its variable -/
def zv (l : Int32) : Nat := (zab l).toNatClampNeg
theorem zv_tab1 : ∀ v < 31, zab (nI v) = nI v ∧ zab (-(nI v)) = nI v ∧ (nI v).toNatClampNeg = v ∧ -(-(nI v)) = nI v := by decide +kernel
theorem zv_tab2 : ∀ v < 30, 0 < nI (v + 1) ∧ ¬ 0 < -(nI (v + 1)) ∧ ¬ nI (v + 1) = 0 ∧ ¬ -(nI (v + 1)) = 0 ∧ ¬ nI (v + 1) = -(nI (v + 1)) ∧ -(nI (v + 1)) < 0 ∧ ¬ nI (v + 1) < 0 ∧ ¬ nI (v + 1) ≤ 0 ∧ -(nI (v + 1)) ≤ 0 ∧ 0 ≤ nI (v + 1) ∧ ¬ 0 ≤ -(nI (v + 1)) := by decide +kernel
theorem zv_tab {v : Nat} (h : v < 31) (h0 : 0 < v) : 0 < nI v ∧ ¬ 0 < -(nI v) ∧ ¬ nI v = 0 ∧ ¬ -(nI v) = 0 ∧ ¬ nI v = -(nI v) ∧ -(nI v) < 0 ∧ ¬ nI v < 0 ∧ ¬ nI v ≤ 0 ∧ -(nI v) ≤ 0 ∧ 0 ≤ nI v ∧ ¬ 0 ≤ -(nI v) := by
  obtain ⟨w, rfl⟩ : ∃ w, v = w + 1 := ⟨v - 1, by omega⟩
  exact zv_tab2 w (by omega)
theorem lok.mono {V W : Nat} {l : Int32} (h : lok V l) (hW : V ≤ W) : lok W l := by
  obtain ⟨v, a, b, c⟩ := h
  exact ⟨v, a, Nat.le_trans b hW, c⟩
theorem lok.is {V : Nat} {l : Int32} (h : lok V l) (hV : V ≤ 30) : 1 ≤ zv l ∧ zv l ≤ V ∧ zab l = nI (zv l) ∧ (0 < l ∧ l = nI (zv l) ∨ ¬ 0 < l ∧ l = -(nI (zv l))) ∧ ¬ l = 0 := by
  obtain ⟨v, a, b, c⟩ := h
  obtain ⟨t1, t2, t3, t4⟩ := zv_tab1 v (by omega)
  obtain ⟨u1, u2, u3, u4, u5, u6, u7, u8, u9, u10, u11⟩ := zv_tab (v := v) (by omega) (by omega)
  rcases c with rfl | rfl
  · have e : zv (nI v) = v := by unfold zv; rw [t1, t3]
    rw [e]
    exact ⟨a, b, t1, Or.inl ⟨u1, rfl⟩, u3⟩
  · have e : zv (-(nI v)) = v := by unfold zv; rw [t2, t3]
    rw [e]
    exact ⟨a, b, t2, Or.inr ⟨u2, rfl⟩, u4⟩
theorem lok.neg {V : Nat} {l : Int32} (h : lok V l) (hV : V ≤ 30) : lok V (-l) := by
  obtain ⟨v, a, b, c⟩ := h
  obtain ⟨t1, t2, t3, t4⟩ := zv_tab1 v (by omega)
  rcases c with rfl | rfl
  · exact ⟨v, a, b, Or.inr rfl⟩
  · exact ⟨v, a, b, Or.inl t4⟩
/-! locals at a loop's head: some of them forgotten -/
def zsub (a b : List (Option Value)) : Prop := ∀ (i : Nat) (v : Value), a[i]? = some (some v) → b[i]? = some (some v)
theorem zse {b : List (Option Value)} : zsub [] b := fun i v h => by simp at h
theorem zs1 {x : Option Value} {a b : List (Option Value)} (h : zsub a b) : zsub (x :: a) (x :: b) := fun i v hi => by
  cases i with
  | zero => exact hi
  | succ i => exact h i v hi
theorem zsn {x : Option Value} {a b : List (Option Value)} (h : zsub a b) : zsub (none :: a) (x :: b) := fun i v hi => by
  cases i with
  | zero => simp at hi
  | succ i => exact h i v hi
theorem zX.sub {E : zEnv} {d : Nat} {y : zY} {pc : Nat} {ls ls' : List (Option Value)} {st : List Value} {μ : zMem} {P : Option Value → zMem → Prop} (h : zsub ls' ls) (k : zX E d y pc ls' st μ P) : zX E d y pc ls st μ P := k.frame h
