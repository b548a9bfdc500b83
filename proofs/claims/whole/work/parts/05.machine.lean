/-! THE MACHINE LAYER: all cells of the class and of the reference as one memory 'zMem' over fixed places; 'zTr': a method's contract; 'zGo': a frame of a method, on its way to its end -/
def zT : List Cond := lw_tbl.filter goodWord
/-- the class's ints, the reference's ints (places from 100 on), longs, what is known beside: lengths of the rows of literals (0, 1, 2), which states are kept (3, 4), cells and slots made (5, 6) -/
abbrev zMem : Type := (Nat → Nat → Int32) × (Nat → Nat → Int32) × (Nat → Nat → Int64) × (Nat → Nat)
def zup (f : Nat → Nat → Int32) (p i : Nat) (v : Int32) : Nat → Nat → Int32 := fun q j => if q = p ∧ j = i then v else f q j
theorem zup_same (f : Nat → Nat → Int32) (p i : Nat) (v : Int32) : zup f p i v p i = v := by simp [zup]
theorem zup_p {f : Nat → Nat → Int32} {p i q j : Nat} {v : Int32} (h : q ≠ p) : zup f p i v q j = f q j := by simp [zup, h]
theorem zup_i {f : Nat → Nat → Int32} {p i q j : Nat} {v : Int32} (h : j ≠ i) : zup f p i v q j = f q j := by simp [zup, h]
def zr (μ : zMem) (p i : Nat) : Int32 := bif Nat.ble 100 p then μ.2.1 p i else μ.1 p i
def zrl (μ : zMem) (p i : Nat) : Int64 := μ.2.2.1 p i
def zg (μ : zMem) (k : Nat) : Nat := μ.2.2.2 k
def zw (μ : zMem) (p i : Nat) (v : Int32) : zMem := (bif Nat.ble 100 p then μ.1 else zup μ.1 p i v, bif Nat.ble 100 p then zup μ.2.1 p i v else μ.2.1, μ.2.2)
theorem zw_hi {κ α : Nat → Nat → Int32} {τ : (Nat → Nat → Int64) × (Nat → Nat)} {p i : Nat} {v : Int32} (h : Nat.ble 100 p = true) : zw (κ, α, τ) p i v = (κ, zup α p i v, τ) := by unfold zw; rw [h]; rfl
theorem zw_lo {κ α : Nat → Nat → Int32} {τ : (Nat → Nat → Int64) × (Nat → Nat)} {p i : Nat} {v : Int32} (h : Nat.ble 100 p = false) : zw (κ, α, τ) p i v = (zup κ p i v, α, τ) := by unfold zw; rw [h]; rfl
theorem zr_hi {κ α : Nat → Nat → Int32} {τ : (Nat → Nat → Int64) × (Nat → Nat)} {p i : Nat} (h : Nat.ble 100 p = true) : zr (κ, α, τ) p i = α p i := by unfold zr; rw [h]; rfl
theorem zr_lo {κ α : Nat → Nat → Int32} {τ : (Nat → Nat → Int64) × (Nat → Nat)} {p i : Nat} (h : Nat.ble 100 p = false) : zr (κ, α, τ) p i = κ p i := by unfold zr; rw [h]; rfl
def zwl (μ : zMem) (p i : Nat) (v : Int64) : zMem := (μ.1, μ.2.1, fun q j => if q = p ∧ j = i then v else μ.2.2.1 q j, μ.2.2.2)
theorem zr_zw (μ : zMem) (p i q j : Nat) (v : Int32) : zr (zw μ p i v) q j = if q = p ∧ j = i then v else zr μ q j := by
  unfold zr zw zup
  cases hp : Nat.ble 100 p <;> cases hq : Nat.ble 100 q <;> simp only [cond_true, cond_false]
  · rw [if_neg]; rintro ⟨rfl, -⟩; rw [hp] at hq; cases hq
  · rw [if_neg]; rintro ⟨rfl, -⟩; rw [hp] at hq; cases hq
theorem zr_zw_same (μ : zMem) (p i : Nat) (v : Int32) : zr (zw μ p i v) p i = v := by simp [zr_zw]
theorem zr_zw_p {μ : zMem} {p i q j : Nat} {v : Int32} (h : q ≠ p) : zr (zw μ p i v) q j = zr μ q j := by simp [zr_zw, h]
theorem zr_zw_i {μ : zMem} {p i q j : Nat} {v : Int32} (h : j ≠ i) : zr (zw μ p i v) q j = zr μ q j := by simp [zr_zw, h]
theorem zw_rest (μ : zMem) (p i : Nat) (v : Int32) : (zw μ p i v).2.2 = μ.2.2 := rfl
theorem zrl_zw (μ : zMem) (p i q j : Nat) (v : Int32) : zrl (zw μ p i v) q j = zrl μ q j := rfl
theorem zr_zwl (μ : zMem) (p i q j : Nat) (v : Int64) : zr (zwl μ p i v) q j = zr μ q j := rfl
theorem zrl_zwl (μ : zMem) (p i q j : Nat) (v : Int64) : zrl (zwl μ p i v) q j = if q = p ∧ j = i then v else zrl μ q j := rfl
theorem zg_zw (μ : zMem) (p i k : Nat) (v : Int32) : zg (zw μ p i v) k = zg μ k := rfl
theorem zg_zwl (μ : zMem) (p i k : Nat) (v : Int64) : zg (zwl μ p i v) k = zg μ k := rfl
/-- a kept state's places (30 .. 41, 50 .. 61) are those of the state now (10 .. 21), moved -/
def zb (p : Nat) : Nat := bif Nat.ble 50 p && Nat.ble p 61 then p - 40 else bif Nat.ble 30 p && Nat.ble p 41 then p - 20 else p
def zcls0 (b : Nat) : Option Nat :=
  bif Nat.beq b 100 then some 9 else bif Nat.beq b 3 then some 2 else bif Nat.beq b 10 then some 3 else bif Nat.beq b 11 then some 5 else
  bif Nat.beq b 17 || Nat.beq b 19 || Nat.beq b 73 || Nat.beq b 80 then some 1 else bif Nat.beq b 0 then some 8 else bif Nat.beq b 4 then some 0 else
  bif Nat.beq b 5 then some 6 else bif Nat.beq b 6 then some 4 else bif Nat.beq b 7 then some 7 else none
def zcls (p : Nat) : Option Nat := zcls0 (zb p)
def znf (c : Nat) : Nat :=
  bif Nat.beq c 9 then 28 else bif Nat.beq c 2 || Nat.beq c 3 then 17 else bif Nat.beq c 5 || Nat.beq c 4 || Nat.beq c 8 then 7 else bif Nat.beq c 6 then 8 else bif Nat.beq c 1 then 3 else bif Nat.beq c 0 then 6 else 2
/-- where a reference field points -/
def zrf0 (c p k : Nat) : Option Nat :=
  bif Nat.beq c 9 then (bif (Nat.ble 1 k && Nat.ble k 9) || (Nat.ble 12 k && Nat.ble k 14) || Nat.beq k 18 || Nat.beq k 19 || Nat.beq k 21 || Nat.beq k 26 || Nat.beq k 27 then some (100 + k) else none) else
  bif Nat.beq c 3 then (bif Nat.beq k 0 then some (p + 1) else bif Nat.beq k 1 then some (p + 7) else bif Nat.beq k 2 then some (p + 9) else bif Nat.beq k 3 then some (p + 11) else none) else
  bif Nat.beq c 5 then (bif Nat.ble k 4 then some (p + 1 + k) else none) else
  bif Nat.beq c 1 then (bif Nat.beq k 0 then some (p + 1) else none) else
  bif Nat.beq c 2 then (bif Nat.beq k 0 then some 10 else bif Nat.beq k 1 then some 70 else bif Nat.beq k 3 then some 71 else bif Nat.beq k 4 then some 72 else bif Nat.beq k 5 then some 73 else none) else
  bif Nat.beq c 8 then (bif Nat.beq k 0 then some 10 else bif Nat.ble k 6 then some (k + 1) else none) else
  bif Nat.beq c 0 then (bif Nat.beq k 0 then some 75 else bif Nat.beq k 1 then some 76 else none) else
  bif Nat.beq c 6 then (bif Nat.beq k 0 then some 77 else bif Nat.beq k 1 then some 78 else bif Nat.beq k 2 then some 79 else none) else
  bif Nat.beq c 4 then (bif Nat.beq k 0 then some 5 else bif Nat.beq k 1 then some 10 else bif Nat.beq k 2 then some 80 else none) else
  bif Nat.beq c 7 then (bif Nat.beq k 0 then some 82 else none) else none
def zrf (p k : Nat) : Option Nat := match zcls p with
  | some c => zrf0 c p k
  | none => none
def zStT : FieldType := .object "LearntReasons$State"
/-- the type of an array's elements: 0 int, 1 byte, 2 short, 3 boolean, 4 long, 5 states -/
def zaty0 (b : Nat) : Option Nat :=
  bif Nat.beq b 101 || Nat.beq b 102 || Nat.beq b 103 || (Nat.ble 105 b && Nat.ble b 109) || Nat.beq b 118 || Nat.beq b 119 || Nat.beq b 127 then some 0 else
  bif Nat.beq b 104 || (Nat.ble 112 b && Nat.ble b 114) || Nat.beq b 126 then some 3 else
  bif Nat.beq b 14 || Nat.beq b 77 || Nat.beq b 78 || Nat.beq b 121 then some 1 else
  bif Nat.beq b 12 || Nat.beq b 13 || Nat.beq b 15 || Nat.beq b 16 || Nat.beq b 18 || Nat.beq b 20 || Nat.beq b 21 || (Nat.ble 70 b && Nat.ble b 72) || (Nat.ble 74 b && Nat.ble b 76) || Nat.beq b 81 then some 0 else
  bif Nat.beq b 79 then some 2 else bif Nat.beq b 82 || Nat.beq b 130 then some 4 else bif Nat.beq b 2 then some 5 else none
def zaty (p : Nat) : Option Nat := zaty0 (zb p)
def zln0 (b : Nat) : Nat :=
  bif Nat.beq b 101 || Nat.beq b 102 then 13326 else bif Nat.beq b 103 then 26652 else bif Nat.beq b 104 || Nat.beq b 2 then 2 else
  bif (Nat.ble 105 b && Nat.ble b 108) || (Nat.ble 112 b && Nat.ble b 114) || Nat.beq b 126 || Nat.beq b 21 || Nat.beq b 71 || Nat.beq b 72 then 31 else
  bif Nat.beq b 109 || Nat.beq b 70 || Nat.beq b 74 then 30 else bif Nat.beq b 118 || Nat.beq b 121 || Nat.beq b 12 || Nat.beq b 13 || Nat.beq b 14 || Nat.beq b 77 then 400 else
  bif Nat.beq b 119 then 402 else bif Nat.beq b 127 || Nat.beq b 18 || Nat.beq b 20 || Nat.beq b 81 then 8 else bif Nat.beq b 15 || Nat.beq b 78 || Nat.beq b 79 then 401 else
  bif Nat.beq b 75 || Nat.beq b 76 then 481 else bif Nat.beq b 82 then 64 else 1
/-- an array's length; of the three rows of literals it is told by the memory -/
def zln (μ : zMem) (p : Nat) : Nat := bif Nat.beq p 16 then zg μ 0 else bif Nat.beq p 36 then zg μ 1 else bif Nat.beq p 56 then zg μ 2 else zln0 (zb p)
def zbase (p : Nat) : Bool := Nat.ble p 130 && ((Nat.ble 10 p && Nat.ble p 21) || (Nat.ble 70 p && Nat.ble p 82) || (Nat.ble 100 p && Nat.ble p 109) || (Nat.ble p 7 && !(Nat.beq p 1)) || (Nat.ble 112 p && Nat.ble p 114) || Nat.beq p 118 || Nat.beq p 119 || Nat.beq p 121 || Nat.beq p 126 || Nat.beq p 127 || Nat.beq p 130)
def zS0 : List Nat := (List.range 131).filter zbase
def zB0 : List Nat := [30, 31, 32, 33, 34, 35, 36, 37, 38, 39, 40, 41]
def zB1 : List Nat := [50, 51, 52, 53, 54, 55, 56, 57, 58, 59, 60, 61]
/-- the places that are there -/
def zpl (μ : zMem) : List Nat := zS0 ++ ((if zg μ 3 = 1 then zB0 else []) ++ (if zg μ 4 = 1 then zB1 else []))
theorem zpl_b {μ : zMem} {p : Nat} (h : zbase p = true) : p ∈ zpl μ := by
  refine List.mem_append_left _ (List.mem_filter.mpr ⟨List.mem_range.mpr ?_, h⟩)
  unfold zbase at h
  have h1 := (Bool.and_eq_true _ _ ▸ h).1
  exact Nat.lt_succ_of_le (Nat.le_of_ble_eq_true h1)
def zstab (p : Nat) : Bool := !(Nat.beq p 16 || Nat.beq p 36 || Nat.beq p 56)
/-- the fixed things of a run: the launch, the classes' numbers and slots, the array classes, where the run's own cells begin -/
abbrev zEnv : Type := Launch × (Nat → ClassId) × (Nat → Nat → Nat) × (Nat → ClassId) × Nat × State × Nat
def zD (E : zEnv) : va_G := (E.2.1, E.2.2.1)
def zcy (E : zEnv) : Nat → ClassId := E.2.2.2.1
def zlo (E : zEnv) : Nat := E.2.2.2.2.1
/-- the run's first state: what it says of old cells and of the tables stays -/
def zs0 (E : zEnv) : State := E.2.2.2.2.2.1
/-- the script's cell -/
def zsc (E : zEnv) : Nat := E.2.2.2.2.2.2
/-- what the run's first state says for good -/
def zG (E : zEnv) : Prop := E.1.flags = flags0 ∧ zlo E = (zs0 E).heap.size ∧ (Jvm.Cond.and given_1 narrow_1).before #[Value.ref (zsc E)] (zs0 E) = true ∧ ∀ w ∈ lw_tbl, w.before #[Value.ref (zsc E)] (zs0 E) = true
/-- cells that were there before: three words (140 .. 142) and their bytes (145 .. 147), the columns of bits (143), the script (144), a formatter (148) -/
def zsx (k : Nat) : Nat := bif Nat.beq k 0 then 63 else bif Nat.beq k 1 then 69 else 71
def zAS (E : zEnv) (ad : Nat → Nat) : Prop := (∀ k, k < 3 → (Term.string RX6 (zsx k)).eval #[Value.ref (zsc E)] (zs0 E) none [] (zs0 E) = some (.ref (ad (140 + k)))) ∧ (∀ k, k < 3 → (Term.field (Term.string RX6 (zsx k)) RJ0 "value" "[B").eval #[Value.ref (zsc E)] (zs0 E) none [] (zs0 E) = some (.ref (ad (145 + k)))) ∧ (Term.static RX7 "COLUMNS" "[J").eval #[Value.ref (zsc E)] (zs0 E) none [] (zs0 E) = some (.ref (ad 143)) ∧ ((Term.static RJ3 "SIOOBE_FORMATTER" "Ljava/util/function/BiFunction;").eval #[Value.ref (zsc E)] (zs0 E) none [] (zs0 E) = some .null ∨ (Term.static RJ3 "SIOOBE_FORMATTER" "Ljava/util/function/BiFunction;").eval #[Value.ref (zsc E)] (zs0 E) none [] (zs0 E) = some (.ref (ad 148))) ∧ ad 144 = zsc E
theorem zAS.of {E : zEnv} {ad ad' : Nat → Nat} (h : zAS E ad) (k : ∀ p, 140 ≤ p → ad' p = ad p) : zAS E ad' := by
  unfold zAS
  rw [k 143 (by omega), k 148 (by omega), k 144 (by omega)]
  exact ⟨fun i hi => by rw [k _ (by omega)]; exact h.1 i hi, fun i hi => by rw [k _ (by omega)]; exact h.2.1 i hi, h.2.2⟩
def zA (E : zEnv) : Nat → Prop := fun q => zlo E ≤ q
def zty (a : Nat) : FieldType := match a with
  | 0 => .int
  | 1 => .byte
  | 2 => .short
  | 3 => .boolean
  | 4 => .long
  | _ => zStT
def ztys (E : zEnv) : List (ClassId × FieldType) := (List.range 6).map (fun a => (zcy E a, zty a))
def zfv (ad : Nat → Nat) (μ : zMem) (p k : Nat) : Value := match zrf p k with
  | some q => .ref (ad q)
  | none => .int (zr μ p k)
def zarr (E : zEnv) (ad : Nat → Nat) (μ : zMem) (p a : Nat) : va_E := match a with
  | 4 => .inl (zcy E 4, zln μ p, .inr (.inl (fun j => zrl μ p j)))
  | 5 => .inl (zcy E 5, zln μ p, .inr (.inr (.inr (.inr (fun i => if zr μ p i = 0 then none else some (ad (30 + 20 * i)))))))
  | a => .inl (zcy E a, zln μ p, .inl (fun j => zr μ p j))
def zcel (E : zEnv) (ad : Nat → Nat) (μ : zMem) (p : Nat) : va_E := match zcls p with
  | some c => .inr (c, (List.range (znf c)).map (fun k => zfv ad μ p k))
  | none => match zaty p with
    | some a => zarr E ad μ p a
    | none => .inr (0, [])
def zws (E : zEnv) (ad : Nat → Nat) (μ : zMem) : va_W := (zpl μ).map (fun p => (ad p, zcel E ad μ p))
/-- the heap holds the memory -/
def zWd (E : zEnv) (ad : Nat → Nat) (μ : zMem) (H : Heap) : Prop := va_P (zD E) vwCl (zws E ad μ) H ∧ va_D (zA E) (zws E ad μ) ∧ zAS E ad
def zK (E : zEnv) (U : State) : Prop := va_K (zD E) vwCl (ztys E) U
/-- calls of private methods of the outer class: these words are kept beside the tables' -/
def zNest : List (String × Nat × MethodName × String) := [(RX6, 88, yX8_bitOf, "LearntReasons"), (RX1, 24, yX8_bitOf, "LearntReasons"), (RX3, 47, yX8_bitOf, "LearntReasons"), (RX5, 49, yX8_bitOf, "LearntReasons"), (RX2, 147, yX8_variableOf, "LearntReasons"), (RX2, 150, yX8_bitOf, "LearntReasons"), (RX0, 83, yX8_bitOf, "LearntReasons"), (RX7, 69, yX8_bitOf, "LearntReasons")]
def zN (E : zEnv) (U : State) : Prop := (∀ q ∈ zNest, va_Nw (.methodLinkNest q.1 q.2.1 q.2.2.1 q.2.2.2) U) ∧ (zs0 E).WarmedH U.vm ∧ (∀ q : Nat, q < zlo E → U.heap[q]? = (zs0 E).heap[q]?) ∧ zG E
theorem zN.warm {E : zEnv} {s U : State} {H : Heap} {locs : List Loc} (hW : s.WarmedH U.vm) (hU : U.heap = H) (h5 : va_S (zA E) s.heap H locs) (hlo : zlo E ≤ s.heap.size) (h : zN E s) : zN E U := ⟨fun q hq => (h.1 q hq).warmM hW, State.WarmedH.trans h.2.1 hW, fun q hq => by rw [hU, h5.2.1 q (Nat.lt_of_lt_of_le hq hlo) (Nat.not_le_of_lt hq), h.2.2.1 q hq], h.2.2.2⟩
theorem zN.same {E : zEnv} {s U : State} (hv : s.vm = U.vm) (hh : U.heap = s.heap) (h : zN E s) : zN E U := ⟨fun q hq => (h.1 q hq).same rfl hv, by rw [← hv]; exact h.2.1, fun q hq => by rw [hh]; exact h.2.2.1 q hq, h.2.2.2⟩
def ztv (ad : Nat → Nat) (v : Value) : Value := match v with
  | .ref p => .ref (ad p)
  | v => v
/-- what new cells leave as it was -/
def zagr (μ : zMem) (ad ad' : Nat → Nat) : Prop := ∀ p ∈ zpl μ, zstab p = true → ad' p = ad p
def zmono (μ ν : zMem) : Prop := zg μ 5 ≤ zg ν 5 ∧ zg μ 6 ≤ zg ν 6 ∧ (zg μ 3 = 1 → zg ν 3 = 1) ∧ (zg μ 4 = 1 → zg ν 4 = 1)
theorem zmono.rf {μ : zMem} : zmono μ μ := ⟨Nat.le_refl _, Nat.le_refl _, id, id⟩
theorem zmono.tr {μ ν ρ : zMem} (h : zmono μ ν) (k : zmono ν ρ) : zmono μ ρ := ⟨Nat.le_trans h.1 k.1, Nat.le_trans h.2.1 k.2.1, fun z => k.2.2.1 (h.2.2.1 z), fun z => k.2.2.2 (h.2.2.2 z)⟩
theorem zpl_mono {μ ν : zMem} (h : zmono μ ν) {p : Nat} (hp : p ∈ zpl μ) : p ∈ zpl ν := by
  unfold zpl at hp ⊢
  simp only [List.mem_append] at hp ⊢
  rcases hp with hp | hp | hp
  · exact Or.inl hp
  · refine Or.inr (Or.inl ?_)
    by_cases z : zg μ 3 = 1
    · rw [if_pos z] at hp; rw [if_pos (h.2.2.1 z)]; exact hp
    · rw [if_neg z] at hp; cases hp
  · refine Or.inr (Or.inr ?_)
    by_cases z : zg μ 4 = 1
    · rw [if_pos z] at hp; rw [if_pos (h.2.2.2 z)]; exact hp
    · rw [if_neg z] at hp; cases hp
theorem zagr.rf {μ : zMem} {ad : Nat → Nat} : zagr μ ad ad := fun _ _ _ => rfl
theorem zagr.tr {μ ν : zMem} {a b c : Nat → Nat} (h : zagr μ a b) (m : zmono μ ν) (k : zagr ν b c) : zagr μ a c := fun p hp hs => (k p (zpl_mono m hp) hs).trans (h p hp hs)
/-- a method: its name, code, number of locals, what it returns -/
abbrev zY : Type := MethodName × ByteArray × Nat × Option FieldType
def zrm (d : Nat) (μ ν : zMem) : Room := { frames := d, cells := zg ν 5 - zg μ 5, slots := zg ν 6 - zg μ 6, locals := 60 * d }
def zwd (y : zY) : List Cond := .code y.1 y.2.1 y.2.2.1 y.2.2.2 :: zT
def zQ (E : zEnv) (ad : Nat → Nat) (μ : zMem) (r : Option Value) (ν : zMem) : Array Value → State → Outcome → State → Prop := fun _ st o t =>
  ∃ ad', zagr μ ad ad' ∧ (zg ν 5 = zg μ 5 → ad' = ad) ∧ o = .returned (r.map (ztv ad')) ∧ zWd E ad' ν t.heap ∧ va_F (zA E) st t
def zPre (E : zEnv) (ad : Nat → Nat) (μ : zMem) : State → Prop := fun U => zK E U ∧ zWd E ad μ U.heap ∧ zlo E ≤ U.heap.size ∧ zN E U
/-- THE CONTRACT of a method at depth d, at these arguments and memory: it returns r, and leaves the memory ν -/
def zTr (E : zEnv) (d : Nat) (y : zY) (as : List Value) (μ : zMem) (r : Option Value) (ν : zMem) : Prop :=
  zmono μ ν ∧ ∀ ad : Nat → Nat, Met E.1 y.1 (zwd y) (zrm d μ ν) (va_Pc (as.map (ztv ad)) (zPre E ad μ)) (zQ E ad μ r ν) (zg ν 5 - zg μ 5) (zg ν 6 - zg μ 6) (zA E)
/-- what stays in a frame -/
def zCx (E : zEnv) (y : zY) (p : Program) (s : State) (m : MethodId) (args : Array Value) (meth : Method) (c : Code) : Prop :=
  p.tables.exec = Jvm.exec ∧ c.code = y.2.1 ∧ c.maxLocals = y.2.2.1 ∧ meth.sig.returnType = y.2.2.2 ∧ meth.locks = false ∧ s.vm.findClass y.1.cls = some m.cls ∧ (∀ w ∈ zT, w.before args s = true) ∧ zK E s ∧ zlo E ≤ s.heap.size ∧ zN E s
def zlr (ad : Nat → Nat) (n : Nat) (ls : List (Option Value)) (LS : Array Slot) : Prop := LS.size = n ∧ lv_wf LS ∧ ∀ (i : Nat) (v : Value), ls[i]? = some (some v) → LS[i]? = some (.val (ztv ad v))
/-- A FRAME of method y at pc with these locals and stack: it comes to its end, returns r, and leaves the memory ν -/
def zGo (E : zEnv) (d : Nat) (y : zY) (pc : Nat) (ls : List (Option Value)) (st : List Value) (μ : zMem) (r : Option Value) (ν : zMem) : Prop :=
  zmono μ ν ∧ ∀ (p : Program) (e : Env) (s : State) (m : MethodId) (args : Array Value) (below : List Frame) (meth : Method) (c : Code) (μ0 : zMem) (ad0 ad : Nat → Nat) (H : Heap) (locs : List Loc) (LS : Array Slot),
    zCx E y p s m args meth c → zmono μ0 μ → zagr μ0 ad0 ad → (zg μ 5 = zg μ0 5 → ad = ad0) → zWd E ad μ H → va_S (zA E) s.heap H locs → zlr ad y.2.2.1 ls LS →
    W p E.1 e (zrm d μ0 ν) s m args below meth c H locs (zg μ 5 - zg μ0 5) (zg μ 6 - zg μ0 6) (MQ below (zQ E ad0 μ0 r ν) args s (zg ν 5 - zg μ0 5) (zg ν 6 - zg μ0 6) (zA E)) (F0 m pc LS (st.map (ztv ad)))
def zent : List Value → List (Option Value)
  | [] => []
  | v :: as => bif Nat.beq v.category 2 then some v :: none :: zent as else some v :: zent as
def zpad (n : Nat) (l : List (Option Value)) : List (Option Value) := l ++ List.replicate (n - l.length) none
theorem ztv_cat (ad : Nat → Nat) (v : Value) : (ztv ad v).category = v.category := by cases v <;> rfl
theorem zcls_lt {p c : Nat} (h : zcls p = some c) : ∃ q : vw_C, vwCl[c]? = some q ∧ q.2.2 = znf c := by
  unfold zcls zcls0 at h
  simp only [Bool.cond_eq_ite] at h
  repeat' split at h
  all_goals first | (cases h; done) | (cases h; exact ⟨_, rfl, rfl⟩)
theorem zin_tbl : ∀ (c : Nat) (q : vw_C), vwCl[c]? = some q → ∀ w ∈ u_ws q.1 q.2.1 q.2.2, w ∈ zT := by
  have key : ∀ q ∈ vwCl, ∀ w ∈ u_ws q.1 q.2.1 q.2.2, w ∈ lw_tbl ∧ goodWord w = true := by decide +kernel
  exact fun c q h w hw => List.mem_filter.mpr (key q (List.mem_of_getElem? h) w hw)
theorem znm_tbl : ∀ (c : Nat) (q : vw_C), vwCl[c]? = some q → ∀ a, a < q.2.2 → ∀ b, b < q.2.2 → a ≠ b → (q.2.1 a).2.1 ≠ (q.2.1 b).2.1 := by
  have key : ∀ q ∈ vwCl, ∀ a, a < q.2.2 → ∀ b, b < q.2.2 → a ≠ b → (q.2.1 a).2.1 ≠ (q.2.1 b).2.1 := by decide +kernel
  exact fun c q h => key q (List.mem_of_getElem? h)
theorem zty_tbl : ∀ (c : Nat) (q : vw_C), vwCl[c]? = some q → ∃ ty0 : Nat → FieldType, ∀ k, k < q.2.2 → parseFieldDescriptor (q.2.1 k).2.2.1 = some (ty0 k) := by
  intro c q h
  have hm := List.mem_of_getElem? h
  simp only [vwCl, List.mem_cons, List.not_mem_nil, or_false] at hm
  rcases hm with rfl | rfl | rfl | rfl | rfl | rfl | rfl | rfl | rfl | rfl
  · exact ⟨_, tyX0_ok⟩
  · exact ⟨_, tyX1_ok⟩
  · exact ⟨_, tyX2_ok⟩
  · exact ⟨_, tyX3_ok⟩
  · exact ⟨_, tyX4_ok⟩
  · exact ⟨_, tyX5_ok⟩
  · exact ⟨_, tyX6_ok⟩
  · exact ⟨_, tyX7_ok⟩
  · exact ⟨_, tyX8_ok⟩
  · exact ⟨_, tyX9_ok⟩
theorem zgood {ws : List Cond} (h : ∀ w ∈ ws, w ∈ zT) : GoodIn zT ws := fun w hw => ⟨h w hw, good_of_word (List.mem_filter.mp (h w hw)).2⟩
/-! ### the memory's cells -/
theorem zws_at {E : zEnv} {ad : Nat → Nat} {μ : zMem} {p : Nat} (h : p ∈ zpl μ) : ∃ k : Nat, (zpl μ)[k]? = some p ∧ (zws E ad μ)[k]? = some (ad p, zcel E ad μ p) := by
  obtain ⟨k, hk⟩ := List.getElem?_of_mem h
  exact ⟨k, hk, by unfold zws; rw [List.getElem?_map, hk]; rfl⟩
/-- one cell changes: the world's row at its place -/
theorem zws_set {E : zEnv} {ad : Nat → Nat} {μ ν : zMem} {p k : Nat} {e : va_E} (hD : va_D (zA E) (zws E ad μ)) (hk : (zpl μ)[k]? = some p) (hpl : zpl ν = zpl μ) (he : zcel E ad ν p = e) (ho : ∀ q, q ≠ p → zcel E ad ν q = zcel E ad μ q) : (zws E ad μ).set k (ad p, e) = zws E ad ν := by
  have hkw : (zws E ad μ)[k]? = some (ad p, zcel E ad μ p) := by unfold zws; rw [List.getElem?_map, hk]; rfl
  have hl := (List.getElem?_eq_some_iff.mp hkw).1
  apply List.ext_getElem?
  intro j
  by_cases hj : j = k
  · subst hj
    rw [List.getElem?_set_self hl]
    unfold zws
    rw [List.getElem?_map, hpl, hk, ← he]; rfl
  · rw [List.getElem?_set_ne (Ne.symm hj)]
    unfold zws
    rw [List.getElem?_map, List.getElem?_map, hpl]
    cases hq : (zpl μ)[j]? with
    | none => rfl
    | some q =>
      have hne : q ≠ p := by
        intro hqp
        subst hqp
        have h1 : (zws E ad μ)[j]? = some (ad q, zcel E ad μ q) := by unfold zws; rw [List.getElem?_map, hq]; rfl
        exact hj (hD.1 j k _ _ h1 hkw rfl)
      show some (ad q, _) = some (ad q, _)
      rw [ho q hne]
theorem zpl_zw (μ : zMem) (p i : Nat) (v : Int32) : zpl (zw μ p i v) = zpl μ := rfl
theorem zln_zw (μ : zMem) (p i q : Nat) (v : Int32) : zln (zw μ p i v) q = zln μ q := rfl
theorem zcel_ne {E : zEnv} {ad : Nat → Nat} {μ : zMem} {p i : Nat} {v : Int32} {q : Nat} (h : q ≠ p) : zcel E ad (zw μ p i v) q = zcel E ad μ q := by
  have h2 : ∀ j, zr (zw μ p i v) q j = zr μ q j := fun j => zr_zw_p h
  unfold zcel zfv zarr
  simp only [h2, zln_zw, zrl_zw]
theorem zcel_nel {E : zEnv} {ad : Nat → Nat} {μ : zMem} {p i : Nat} {v : Int64} {q : Nat} (h : q ≠ p) : zcel E ad (zwl μ p i v) q = zcel E ad μ q := by
  have h2 : ∀ j, zrl (zwl μ p i v) q j = zrl μ q j := fun j => by rw [zrl_zwl, if_neg (fun z => h z.1)]
  unfold zcel zfv zarr
  simp only [h2]
  rfl
theorem zcel_obj {E : zEnv} {ad : Nat → Nat} {μ : zMem} {p c : Nat} (h : zcls p = some c) : zcel E ad μ p = .inr (c, (List.range (znf c)).map (fun k => zfv ad μ p k)) := by unfold zcel; rw [h]
theorem zcel_arr {E : zEnv} {ad : Nat → Nat} {μ : zMem} {p a : Nat} (h : zcls p = none) (ha : zaty p = some a) : zcel E ad μ p = zarr E ad μ p a := by unfold zcel; rw [h, ha]
theorem zcel_put {E : zEnv} {ad : Nat → Nat} {μ : zMem} {p c k : Nat} {v : Int32} (h : zcls p = some c) (hk : k < znf c) (hr : zrf p k = none) : zcel E ad (zw μ p k v) p = .inr (c, ((List.range (znf c)).map (fun j => zfv ad μ p j)).set k (.int v)) := by
  rw [zcel_obj h]
  congr 2
  apply List.ext_getElem?
  intro j
  by_cases hj : j = k
  · subst hj
    rw [List.getElem?_set_self (by simpa using hk)]
    simp [hk, zfv, hr, zr_zw_same]
  · rw [List.getElem?_set_ne (Ne.symm hj)]
    by_cases hjn : j < znf c
    · simp [hjn, zfv, zr_zw_i hj]
    · simp [hjn]
