/-! the run's own numbers: classes, array classes, old cells -/
section EV
variable {s : State} {b : Nat}
theorem zv_len {A : Array Value} {tm : Term} {N : Int32} (h : (Cond.eq (.length tm) (.int N)).before A s = true) : ∃ t : Nat, tm.eval A s none [] s = some (.ref t) := by
  obtain ⟨t, cell, ht, -⟩ := Term.length_spec (va_eqt h)
  exact ⟨t, ht⟩
theorem zv_ref {A : Array Value} {C n d : String} (h : (Cond.isRef (.static C n d)).before A s = true) : (Term.static C n d).eval A s none [] s = some .null ∨ ∃ t : Nat, (Term.static C n d).eval A s none [] s = some (.ref t) := by
  cases hv : (Term.static C n d).eval A s none [] s with
  | none => simp [Cond.before, Cond.holds, Cond.value, hv] at h
  | some w =>
    simp only [Cond.before, Cond.holds, Cond.value, hv] at h
    cases w with
    | null => exact Or.inl rfl
    | ref t => exact Or.inr ⟨t, rfl⟩
    | _ => simp at h
theorem zin_t {w : Cond} (h : w ∈ zT) : w ∈ lw_tbl := (List.mem_filter.mp h).1
theorem zcy_ex (hts : ∀ w ∈ lw_tbl, w.before #[Value.ref b] s = true) : ∃ cy : Nat → ClassId, ∀ a, a < 6 → ArrOfT s (cy a) (zty a) ∧ va_RA s (cy a) (zty a) := by
  have ex : ∀ a, ∃ c : ClassId, a < 6 → ArrOfT s c (zty a) ∧ va_RA s c (zty a) := by
    intro a
    match a with
    | 0 =>
      obtain ⟨cA, kA, comp, hf, hk, hkind⟩ := Cond.arrayClass_spec (hts _ (zin_t w_arrI))
      exact ⟨cA, fun _ => ⟨fun n z => ⟨(fun k h => by cases h), kA, hk, comp, hkind⟩, hf⟩⟩
    | 1 =>
      obtain ⟨cA, kA, comp, hf, hk, hkind⟩ := Cond.arrayClass_spec (hts _ (zin_t w_arrB))
      exact ⟨cA, fun _ => ⟨fun n z => ⟨(fun k h => by cases h), kA, hk, comp, hkind⟩, hf⟩⟩
    | 2 =>
      obtain ⟨cA, kA, comp, hf, hk, hkind⟩ := Cond.arrayClass_spec (hts _ (zin_t w_arrS))
      exact ⟨cA, fun _ => ⟨fun n z => ⟨(fun k h => by cases h), kA, hk, comp, hkind⟩, hf⟩⟩
    | 3 =>
      obtain ⟨cA, kA, comp, hf, hk, hkind⟩ := Cond.arrayClass_spec (hts _ (zin_t w_arrZ))
      exact ⟨cA, fun _ => ⟨fun n z => ⟨(fun k h => by cases h), kA, hk, comp, hkind⟩, hf⟩⟩
    | 4 =>
      obtain ⟨cA, kA, comp, hf, hk, hkind⟩ := Cond.arrayClass_spec (hts _ (zin_t w_arrL))
      exact ⟨cA, fun _ => ⟨fun n z => ⟨(fun k h => by cases h), kA, hk, comp, hkind⟩, hf⟩⟩
    | 5 =>
      obtain ⟨comp, c, k, h1, -, h3, h4, h5⟩ := Cond.arrayOver_spec (hts (.arrayOver (.object RX3)) (List.mem_of_getElem? (i := 293) (by decide +kernel)))
      exact ⟨c, fun _ => ⟨fun n z => ⟨(fun k h => by cases h), k, h3, comp, h4⟩, k, comp, h3, h4, h1, h5⟩⟩
    | a + 6 => exact ⟨0, fun h => absurd h (by omega)⟩
  exact ⟨fun a => Classical.choose (ex a), fun a ha => Classical.choose_spec (ex a) ha⟩
theorem zin_inst : ∀ q ∈ vwCl, Cond.instantiable q.1 q.2.2 ∈ lw_tbl := by decide +kernel
theorem zdc_ex (hts : ∀ w ∈ lw_tbl, w.before #[Value.ref b] s = true) : ∃ (dC : Nat → ClassId) (dI : Nat → Nat → Nat), ∀ (c : Nat) (q : vw_C), vwCl[c]? = some q → u_Kn s q.1 q.2.1 q.2.2 (dC c) (dI c) := by
  have ex : ∀ k : Nat, ∃ x : ClassId × (Nat → Nat), ∀ q : vw_C, vwCl[k]? = some q → u_Kn s q.1 q.2.1 q.2.2 x.1 x.2 := by
    intro k
    cases h : vwCl[k]? with
    | none => exact ⟨(0, fun _ => 0), fun q hq => by cases hq⟩
    | some q =>
      obtain ⟨cC, iS, hk⟩ := u_known (C := q.1) (T := q.2.1) (N := q.2.2) (n := q.2.2) hts (fun w hw => zin_t (zin_tbl k q h w hw)) (hts _ (zin_inst q (List.mem_of_getElem? h)))
      exact ⟨(cC, iS), fun q' hq' => by cases hq'; exact hk⟩
  exact ⟨fun k => (Classical.choose (ex k)).1, fun k => (Classical.choose (ex k)).2, fun c q hq => Classical.choose_spec (ex c) q hq⟩
theorem zin_nest : ∀ q ∈ zNest, Cond.methodLinkNest q.1 q.2.1 q.2.2.1 q.2.2.2 ∈ lw_tbl := by decide +kernel
def zold (a0 a1 a2 a3 a4 a5 a6 a7 a8 : Nat) (p : Nat) : Nat := match p with
  | 140 => a0
  | 141 => a1
  | 142 => a2
  | 143 => a3
  | 144 => a4
  | 145 => a5
  | 146 => a6
  | 147 => a7
  | _ => a8
theorem zE_ex (l : Launch) (hflags : l.flags = flags0) (hts : ∀ w ∈ lw_tbl, w.before #[Value.ref b] s = true) (hgv : (Jvm.Cond.and given_1 narrow_1).before #[Value.ref b] s = true) :
    ∃ (dC : Nat → ClassId) (dI : Nat → Nat → Nat) (cy : Nat → ClassId) (old : Nat → Nat), zK (l, dC, dI, cy, s.heap.size, s, b) s ∧ zN (l, dC, dI, cy, s.heap.size, s, b) s ∧ old 144 = b ∧ ∀ qs : Nat → Nat, zAS (l, dC, dI, cy, s.heap.size, s, b) (zad51 qs old) := by
  obtain ⟨dC, dI, hd⟩ := zdc_ex hts
  obtain ⟨cy, hc⟩ := zcy_ex hts
  have G : ∀ {w : Cond}, w ∈ flatC (Jvm.Cond.and given_1 narrow_1) → w.before #[Value.ref b] s = true := fun hi => flat_of_before _ hgv _ hi
  obtain ⟨a0, -, -, -, h0, -⟩ := Cond.exactly_spec (G (w := Cond.exactly (Term.string RX6 63) RJ0) (by decide +kernel))
  obtain ⟨a1, -, -, -, h1, -⟩ := Cond.exactly_spec (G (w := Cond.exactly (Term.string RX6 69) RJ0) (by decide +kernel))
  obtain ⟨a2, -, -, -, h2, -⟩ := Cond.exactly_spec (G (w := Cond.exactly (Term.string RX6 71) RJ0) (by decide +kernel))
  obtain ⟨a5, h5⟩ := zv_len (G (w := Cond.eq (.length (.field (Term.string RX6 63) RJ0 "value" "[B")) (.int 4)) (by decide +kernel))
  obtain ⟨a6, h6⟩ := zv_len (G (w := Cond.eq (.length (.field (Term.string RX6 69) RJ0 "value" "[B")) (.int 6)) (by decide +kernel))
  obtain ⟨a7, h7⟩ := zv_len (G (w := Cond.eq (.length (.field (Term.string RX6 71) RJ0 "value" "[B")) (.int 5)) (by decide +kernel))
  obtain ⟨a3, h3⟩ := zv_len (G (w := Cond.eq (.length (.static RX7 "COLUMNS" "[J")) (.int 6)) (by decide +kernel))
  obtain ⟨a8, h8⟩ : ∃ t : Nat, (Term.static RJ3 "SIOOBE_FORMATTER" "Ljava/util/function/BiFunction;").eval #[Value.ref b] s none [] s = some .null ∨ (Term.static RJ3 "SIOOBE_FORMATTER" "Ljava/util/function/BiFunction;").eval #[Value.ref b] s none [] s = some (.ref t) := by
    rcases zv_ref (G (w := Cond.isRef (.static RJ3 "SIOOBE_FORMATTER" "Ljava/util/function/BiFunction;")) (by decide +kernel)) with h | ⟨t, h⟩
    · exact ⟨0, .inl h⟩
    · exact ⟨t, .inr h⟩
  refine ⟨dC, dI, cy, zold a0 a1 a2 a3 b a5 a6 a7 a8, ⟨hd, fun k q hq => ?_⟩, ⟨fun q hq => va_Nw.of rfl (hts _ (zin_nest q hq)), State.WarmedH.refl s, fun _ _ => rfl, hflags, rfl, hgv, hts⟩, rfl, fun qs => ⟨fun k hk => ?_, fun k hk => ?_, h3, h8, rfl⟩⟩
  · unfold ztys at hq
    rw [List.getElem?_map] at hq
    cases hr : (List.range 6)[k]? with
    | none => rw [hr] at hq; cases hq
    | some a =>
      rw [hr] at hq
      have ha : a < 6 := List.mem_range.mp (List.mem_of_getElem? hr)
      have e := Option.some.inj hq
      rw [← e]
      exact hc a ha
  · match k, hk with
    | 0, _ => exact h0
    | 1, _ => exact h1
    | 2, _ => exact h2
  · match k, hk with
    | 0, _ => exact h5
    | 1, _ => exact h6
    | 2, _ => exact h7
end EV
