/-! the first memory -/
def zL51 (E : zEnv) (qs : Nat → Nat) : va_W := [(qs 0, .inr (8, [.ref (qs 1), .ref (qs 13), .ref (qs 14), .ref (qs 20), .ref (qs 23), .ref (qs 27), .ref (qs 30)])), (qs 1, .inr (3, [.ref (qs 2), .ref (qs 8), .ref (qs 10), .ref (qs 12), .int 0, .int 0, .int 0, .int 0, .int 0, .int 0, .int 0, .int 0, .int (-1), .int 0, .int 0, .int 0, .int (-1)])), (qs 2, .inr (5, [.ref (qs 3), .ref (qs 4), .ref (qs 5), .ref (qs 6), .ref (qs 7), .int 0, .int 0])), (qs 3, .inl (zcy E 0, 400, .inl (fun _ => (0 : Int32)))), (qs 4, .inl (zcy E 0, 400, .inl (fun _ => (0 : Int32)))), (qs 5, .inl (zcy E 1, 400, .inl (fun _ => (0 : Int32)))), (qs 6, .inl (zcy E 0, 401, .inl (fun _ => (0 : Int32)))), (qs 7, .inl (zcy E 0, 512, .inl (fun _ => (0 : Int32)))), (qs 8, .inr (1, [.ref (qs 9), .int 0, .int 0])), (qs 9, .inl (zcy E 0, 8, .inl (fun _ => (0 : Int32)))), (qs 10, .inr (1, [.ref (qs 11), .int 0, .int 0])), (qs 11, .inl (zcy E 0, 8, .inl (fun _ => (0 : Int32)))), (qs 12, .inl (zcy E 0, 31, .inl (fun _ => (0 : Int32)))), (qs 13, .inl (zcy E 5, 2, .inr (.inr (.inr (.inr (fun _ => none)))))), (qs 14, .inr (2, [.ref (qs 1), .ref (qs 15), .int 0, .ref (qs 16), .ref (qs 17), .ref (qs 18), .int 0, .int 0, .int 0, .int 0, .int 0, .int 0, .int 0, .int 0, .int 0, .int 0, .int 0])), (qs 15, .inl (zcy E 0, 30, .inl (fun _ => (0 : Int32)))), (qs 16, .inl (zcy E 0, 31, .inl (fun _ => (0 : Int32)))), (qs 17, .inl (zcy E 0, 31, .inl (fun _ => (0 : Int32)))), (qs 18, .inr (1, [.ref (qs 19), .int 0, .int 0])), (qs 19, .inl (zcy E 0, 30, .inl (fun _ => (0 : Int32)))), (qs 20, .inr (0, [.ref (qs 21), .ref (qs 22), .int 0, .int 0, .int 0, .int 0])), (qs 21, .inl (zcy E 0, 481, .inl (fun _ => (0 : Int32)))), (qs 22, .inl (zcy E 0, 481, .inl (fun _ => (0 : Int32)))), (qs 23, .inr (6, [.ref (qs 24), .ref (qs 25), .ref (qs 26), .int 0, .int 0, .int 0, .int 0, .int 0])), (qs 24, .inl (zcy E 1, 400, .inl (fun _ => (0 : Int32)))), (qs 25, .inl (zcy E 1, 401, .inl (fun _ => (0 : Int32)))), (qs 26, .inl (zcy E 2, 401, .inl (fun _ => (0 : Int32)))), (qs 27, .inr (4, [.ref (qs 23), .ref (qs 1), .ref (qs 28), .int 0, .int 0, .int 0, .int 0])), (qs 28, .inr (1, [.ref (qs 29), .int 0, .int 0])), (qs 29, .inl (zcy E 0, 8, .inl (fun _ => (0 : Int32)))), (qs 30, .inr (7, [.ref (qs 31), .int 0])), (qs 31, .inl (zcy E 4, 64, .inr (.inl (fun _ => (0 : Int64))))), (qs 32, .inr (9, [.int 0, .ref (qs 33), .ref (qs 34), .ref (qs 35), .ref (qs 36), .ref (qs 37), .ref (qs 38), .ref (qs 39), .ref (qs 40), .ref (qs 41), .int 0, .int 0, .ref (qs 42), .ref (qs 43), .ref (qs 44), .int 0, .int 0, .int 0, .ref (qs 45), .ref (qs 46), .int 0, .ref (qs 47), .int 0, .int 0, .int 0, .int 0, .ref (qs 48), .ref (qs 49)])), (qs 33, .inl (zcy E 0, 13326, .inl (upd ((upd ((upd ((upd ((fun _ => (0 : Int32))) 12 (-1))) 13 (-1))) 14 (-1))) 15 (-1)))), (qs 34, .inl (zcy E 0, 13326, .inl (fun _ => (0 : Int32)))), (qs 35, .inl (zcy E 0, 26652, .inl (fun _ => (0 : Int32)))), (qs 36, .inl (zcy E 3, 2, .inl (fun _ => (0 : Int32)))), (qs 37, .inl (zcy E 0, 31, .inl (fun _ => (0 : Int32)))), (qs 38, .inl (zcy E 0, 31, .inl (fun _ => (0 : Int32)))), (qs 39, .inl (zcy E 0, 31, .inl (fun _ => (0 : Int32)))), (qs 40, .inl (zcy E 0, 31, .inl (fun _ => (0 : Int32)))), (qs 41, .inl (zcy E 0, 30, .inl (fun _ => (0 : Int32)))), (qs 42, .inl (zcy E 3, 31, .inl (fun _ => (0 : Int32)))), (qs 43, .inl (zcy E 3, 31, .inl (fun _ => (0 : Int32)))), (qs 44, .inl (zcy E 3, 31, .inl (fun _ => (0 : Int32)))), (qs 45, .inl (zcy E 0, 400, .inl (fun _ => (0 : Int32)))), (qs 46, .inl (zcy E 0, 402, .inl (fun _ => (0 : Int32)))), (qs 47, .inl (zcy E 1, 400, .inl (fun _ => (0 : Int32)))), (qs 48, .inl (zcy E 3, 31, .inl (fun _ => (0 : Int32)))), (qs 49, .inl (zcy E 0, 8, .inl (fun _ => (0 : Int32)))), (qs 50, .inl (zcy E 4, 1, .inr (.inl (fun _ => (0 : Int64)))))]
def zi51 (p : Nat) : Nat := match p with
  | 0 => 0
  | 2 => 13
  | 3 => 14
  | 4 => 20
  | 5 => 23
  | 6 => 27
  | 7 => 30
  | 10 => 1
  | 11 => 2
  | 12 => 3
  | 13 => 4
  | 14 => 5
  | 15 => 6
  | 16 => 7
  | 17 => 8
  | 18 => 9
  | 19 => 10
  | 20 => 11
  | 21 => 12
  | 70 => 15
  | 71 => 16
  | 72 => 17
  | 73 => 18
  | 74 => 19
  | 75 => 21
  | 76 => 22
  | 77 => 24
  | 78 => 25
  | 79 => 26
  | 80 => 28
  | 81 => 29
  | 82 => 31
  | 100 => 32
  | 101 => 33
  | 102 => 34
  | 103 => 35
  | 104 => 36
  | 105 => 37
  | 106 => 38
  | 107 => 39
  | 108 => 40
  | 109 => 41
  | 112 => 42
  | 113 => 43
  | 114 => 44
  | 118 => 45
  | 119 => 46
  | 121 => 47
  | 126 => 48
  | 127 => 49
  | 130 => 50
  | _ => 50
def zo51 : List Nat := [0, 2, 3, 4, 5, 6, 7, 10, 11, 12, 13, 14, 15, 16, 17, 18, 19, 20, 21, 70, 71, 72, 73, 74, 75, 76, 77, 78, 79, 80, 81, 82, 100, 101, 102, 103, 104, 105, 106, 107, 108, 109, 112, 113, 114, 118, 119, 121, 126, 127, 130]
def zκ1 : Nat → Nat → Int32 := fun p j => if p = 10 ∧ (j = 12 ∨ j = 16) then -1 else 0
def zα1 : Nat → Nat → Int32 := fun p j => if p = 101 then (upd ((upd ((upd ((upd ((fun _ => (0 : Int32))) 12 (-1))) 13 (-1))) 14 (-1))) 15 (-1)) j else 0
def zτ1 : (Nat → Nat → Int64) × (Nat → Nat) := (fun _ _ => 0, fun k => if k = 0 then 512 else if k = 5 then 51 else if k = 6 then 100000 else 0)
def zad51 (qs old : Nat → Nat) : Nat → Nat := fun p => if 140 ≤ p then old p else qs (zi51 p)
theorem zpl51 : zpl (zκ1, zα1, zτ1) = zo51 := by decide +kernel
section F51
variable {E : zEnv} {qs old : Nat → Nat}
theorem z51_0 : (zad51 qs old 0, zcel E (zad51 qs old) (zκ1, zα1, zτ1) 0) = (zL51 E qs).getD 0 (0, .inr (0, [])) := rfl
theorem z51_1 : (zad51 qs old 2, zcel E (zad51 qs old) (zκ1, zα1, zτ1) 2) = (zL51 E qs).getD 13 (0, .inr (0, [])) := rfl
theorem z51_2 : (zad51 qs old 3, zcel E (zad51 qs old) (zκ1, zα1, zτ1) 3) = (zL51 E qs).getD 14 (0, .inr (0, [])) := rfl
theorem z51_3 : (zad51 qs old 4, zcel E (zad51 qs old) (zκ1, zα1, zτ1) 4) = (zL51 E qs).getD 20 (0, .inr (0, [])) := rfl
theorem z51_4 : (zad51 qs old 5, zcel E (zad51 qs old) (zκ1, zα1, zτ1) 5) = (zL51 E qs).getD 23 (0, .inr (0, [])) := rfl
theorem z51_5 : (zad51 qs old 6, zcel E (zad51 qs old) (zκ1, zα1, zτ1) 6) = (zL51 E qs).getD 27 (0, .inr (0, [])) := rfl
theorem z51_6 : (zad51 qs old 7, zcel E (zad51 qs old) (zκ1, zα1, zτ1) 7) = (zL51 E qs).getD 30 (0, .inr (0, [])) := rfl
theorem z51_7 : (zad51 qs old 10, zcel E (zad51 qs old) (zκ1, zα1, zτ1) 10) = (zL51 E qs).getD 1 (0, .inr (0, [])) := rfl
theorem z51_8 : (zad51 qs old 11, zcel E (zad51 qs old) (zκ1, zα1, zτ1) 11) = (zL51 E qs).getD 2 (0, .inr (0, [])) := rfl
theorem z51_9 : (zad51 qs old 12, zcel E (zad51 qs old) (zκ1, zα1, zτ1) 12) = (zL51 E qs).getD 3 (0, .inr (0, [])) := rfl
theorem z51_10 : (zad51 qs old 13, zcel E (zad51 qs old) (zκ1, zα1, zτ1) 13) = (zL51 E qs).getD 4 (0, .inr (0, [])) := rfl
theorem z51_11 : (zad51 qs old 14, zcel E (zad51 qs old) (zκ1, zα1, zτ1) 14) = (zL51 E qs).getD 5 (0, .inr (0, [])) := rfl
theorem z51_12 : (zad51 qs old 15, zcel E (zad51 qs old) (zκ1, zα1, zτ1) 15) = (zL51 E qs).getD 6 (0, .inr (0, [])) := rfl
theorem z51_13 : (zad51 qs old 16, zcel E (zad51 qs old) (zκ1, zα1, zτ1) 16) = (zL51 E qs).getD 7 (0, .inr (0, [])) := rfl
theorem z51_14 : (zad51 qs old 17, zcel E (zad51 qs old) (zκ1, zα1, zτ1) 17) = (zL51 E qs).getD 8 (0, .inr (0, [])) := rfl
theorem z51_15 : (zad51 qs old 18, zcel E (zad51 qs old) (zκ1, zα1, zτ1) 18) = (zL51 E qs).getD 9 (0, .inr (0, [])) := rfl
theorem z51_16 : (zad51 qs old 19, zcel E (zad51 qs old) (zκ1, zα1, zτ1) 19) = (zL51 E qs).getD 10 (0, .inr (0, [])) := rfl
theorem z51_17 : (zad51 qs old 20, zcel E (zad51 qs old) (zκ1, zα1, zτ1) 20) = (zL51 E qs).getD 11 (0, .inr (0, [])) := rfl
theorem z51_18 : (zad51 qs old 21, zcel E (zad51 qs old) (zκ1, zα1, zτ1) 21) = (zL51 E qs).getD 12 (0, .inr (0, [])) := rfl
theorem z51_19 : (zad51 qs old 70, zcel E (zad51 qs old) (zκ1, zα1, zτ1) 70) = (zL51 E qs).getD 15 (0, .inr (0, [])) := rfl
theorem z51_20 : (zad51 qs old 71, zcel E (zad51 qs old) (zκ1, zα1, zτ1) 71) = (zL51 E qs).getD 16 (0, .inr (0, [])) := rfl
theorem z51_21 : (zad51 qs old 72, zcel E (zad51 qs old) (zκ1, zα1, zτ1) 72) = (zL51 E qs).getD 17 (0, .inr (0, [])) := rfl
theorem z51_22 : (zad51 qs old 73, zcel E (zad51 qs old) (zκ1, zα1, zτ1) 73) = (zL51 E qs).getD 18 (0, .inr (0, [])) := rfl
theorem z51_23 : (zad51 qs old 74, zcel E (zad51 qs old) (zκ1, zα1, zτ1) 74) = (zL51 E qs).getD 19 (0, .inr (0, [])) := rfl
theorem z51_24 : (zad51 qs old 75, zcel E (zad51 qs old) (zκ1, zα1, zτ1) 75) = (zL51 E qs).getD 21 (0, .inr (0, [])) := rfl
theorem z51_25 : (zad51 qs old 76, zcel E (zad51 qs old) (zκ1, zα1, zτ1) 76) = (zL51 E qs).getD 22 (0, .inr (0, [])) := rfl
theorem z51_26 : (zad51 qs old 77, zcel E (zad51 qs old) (zκ1, zα1, zτ1) 77) = (zL51 E qs).getD 24 (0, .inr (0, [])) := rfl
theorem z51_27 : (zad51 qs old 78, zcel E (zad51 qs old) (zκ1, zα1, zτ1) 78) = (zL51 E qs).getD 25 (0, .inr (0, [])) := rfl
theorem z51_28 : (zad51 qs old 79, zcel E (zad51 qs old) (zκ1, zα1, zτ1) 79) = (zL51 E qs).getD 26 (0, .inr (0, [])) := rfl
theorem z51_29 : (zad51 qs old 80, zcel E (zad51 qs old) (zκ1, zα1, zτ1) 80) = (zL51 E qs).getD 28 (0, .inr (0, [])) := rfl
theorem z51_30 : (zad51 qs old 81, zcel E (zad51 qs old) (zκ1, zα1, zτ1) 81) = (zL51 E qs).getD 29 (0, .inr (0, [])) := rfl
theorem z51_31 : (zad51 qs old 82, zcel E (zad51 qs old) (zκ1, zα1, zτ1) 82) = (zL51 E qs).getD 31 (0, .inr (0, [])) := rfl
theorem z51_32 : (zad51 qs old 100, zcel E (zad51 qs old) (zκ1, zα1, zτ1) 100) = (zL51 E qs).getD 32 (0, .inr (0, [])) := rfl
theorem z51_33 : (zad51 qs old 101, zcel E (zad51 qs old) (zκ1, zα1, zτ1) 101) = (zL51 E qs).getD 33 (0, .inr (0, [])) := rfl
theorem z51_34 : (zad51 qs old 102, zcel E (zad51 qs old) (zκ1, zα1, zτ1) 102) = (zL51 E qs).getD 34 (0, .inr (0, [])) := rfl
theorem z51_35 : (zad51 qs old 103, zcel E (zad51 qs old) (zκ1, zα1, zτ1) 103) = (zL51 E qs).getD 35 (0, .inr (0, [])) := rfl
theorem z51_36 : (zad51 qs old 104, zcel E (zad51 qs old) (zκ1, zα1, zτ1) 104) = (zL51 E qs).getD 36 (0, .inr (0, [])) := rfl
theorem z51_37 : (zad51 qs old 105, zcel E (zad51 qs old) (zκ1, zα1, zτ1) 105) = (zL51 E qs).getD 37 (0, .inr (0, [])) := rfl
theorem z51_38 : (zad51 qs old 106, zcel E (zad51 qs old) (zκ1, zα1, zτ1) 106) = (zL51 E qs).getD 38 (0, .inr (0, [])) := rfl
theorem z51_39 : (zad51 qs old 107, zcel E (zad51 qs old) (zκ1, zα1, zτ1) 107) = (zL51 E qs).getD 39 (0, .inr (0, [])) := rfl
theorem z51_40 : (zad51 qs old 108, zcel E (zad51 qs old) (zκ1, zα1, zτ1) 108) = (zL51 E qs).getD 40 (0, .inr (0, [])) := rfl
theorem z51_41 : (zad51 qs old 109, zcel E (zad51 qs old) (zκ1, zα1, zτ1) 109) = (zL51 E qs).getD 41 (0, .inr (0, [])) := rfl
theorem z51_42 : (zad51 qs old 112, zcel E (zad51 qs old) (zκ1, zα1, zτ1) 112) = (zL51 E qs).getD 42 (0, .inr (0, [])) := rfl
theorem z51_43 : (zad51 qs old 113, zcel E (zad51 qs old) (zκ1, zα1, zτ1) 113) = (zL51 E qs).getD 43 (0, .inr (0, [])) := rfl
theorem z51_44 : (zad51 qs old 114, zcel E (zad51 qs old) (zκ1, zα1, zτ1) 114) = (zL51 E qs).getD 44 (0, .inr (0, [])) := rfl
theorem z51_45 : (zad51 qs old 118, zcel E (zad51 qs old) (zκ1, zα1, zτ1) 118) = (zL51 E qs).getD 45 (0, .inr (0, [])) := rfl
theorem z51_46 : (zad51 qs old 119, zcel E (zad51 qs old) (zκ1, zα1, zτ1) 119) = (zL51 E qs).getD 46 (0, .inr (0, [])) := rfl
theorem z51_47 : (zad51 qs old 121, zcel E (zad51 qs old) (zκ1, zα1, zτ1) 121) = (zL51 E qs).getD 47 (0, .inr (0, [])) := rfl
theorem z51_48 : (zad51 qs old 126, zcel E (zad51 qs old) (zκ1, zα1, zτ1) 126) = (zL51 E qs).getD 48 (0, .inr (0, [])) := rfl
theorem z51_49 : (zad51 qs old 127, zcel E (zad51 qs old) (zκ1, zα1, zτ1) 127) = (zL51 E qs).getD 49 (0, .inr (0, [])) := rfl
theorem z51_50 : (zad51 qs old 130, zcel E (zad51 qs old) (zκ1, zα1, zτ1) 130) = (zL51 E qs).getD 50 (0, .inr (0, [])) := rfl
def zg51 (k : Nat) : Nat := zi51 (zo51.getD k 130)
theorem z51k : ∀ (k : Nat) (x : Nat × va_E), (zws E (zad51 qs old) (zκ1, zα1, zτ1))[k]? = some x → (zL51 E qs)[zg51 k]? = some x := by
  intro k x hx
  unfold zws at hx
  rw [zpl51, List.getElem?_map] at hx
  match k, hx with
  | 0, hx => have e := Option.some.inj hx; rw [← e]; exact congrArg some z51_0.symm
  | 1, hx => have e := Option.some.inj hx; rw [← e]; exact congrArg some z51_1.symm
  | 2, hx => have e := Option.some.inj hx; rw [← e]; exact congrArg some z51_2.symm
  | 3, hx => have e := Option.some.inj hx; rw [← e]; exact congrArg some z51_3.symm
  | 4, hx => have e := Option.some.inj hx; rw [← e]; exact congrArg some z51_4.symm
  | 5, hx => have e := Option.some.inj hx; rw [← e]; exact congrArg some z51_5.symm
  | 6, hx => have e := Option.some.inj hx; rw [← e]; exact congrArg some z51_6.symm
  | 7, hx => have e := Option.some.inj hx; rw [← e]; exact congrArg some z51_7.symm
  | 8, hx => have e := Option.some.inj hx; rw [← e]; exact congrArg some z51_8.symm
  | 9, hx => have e := Option.some.inj hx; rw [← e]; exact congrArg some z51_9.symm
  | 10, hx => have e := Option.some.inj hx; rw [← e]; exact congrArg some z51_10.symm
  | 11, hx => have e := Option.some.inj hx; rw [← e]; exact congrArg some z51_11.symm
  | 12, hx => have e := Option.some.inj hx; rw [← e]; exact congrArg some z51_12.symm
  | 13, hx => have e := Option.some.inj hx; rw [← e]; exact congrArg some z51_13.symm
  | 14, hx => have e := Option.some.inj hx; rw [← e]; exact congrArg some z51_14.symm
  | 15, hx => have e := Option.some.inj hx; rw [← e]; exact congrArg some z51_15.symm
  | 16, hx => have e := Option.some.inj hx; rw [← e]; exact congrArg some z51_16.symm
  | 17, hx => have e := Option.some.inj hx; rw [← e]; exact congrArg some z51_17.symm
  | 18, hx => have e := Option.some.inj hx; rw [← e]; exact congrArg some z51_18.symm
  | 19, hx => have e := Option.some.inj hx; rw [← e]; exact congrArg some z51_19.symm
  | 20, hx => have e := Option.some.inj hx; rw [← e]; exact congrArg some z51_20.symm
  | 21, hx => have e := Option.some.inj hx; rw [← e]; exact congrArg some z51_21.symm
  | 22, hx => have e := Option.some.inj hx; rw [← e]; exact congrArg some z51_22.symm
  | 23, hx => have e := Option.some.inj hx; rw [← e]; exact congrArg some z51_23.symm
  | 24, hx => have e := Option.some.inj hx; rw [← e]; exact congrArg some z51_24.symm
  | 25, hx => have e := Option.some.inj hx; rw [← e]; exact congrArg some z51_25.symm
  | 26, hx => have e := Option.some.inj hx; rw [← e]; exact congrArg some z51_26.symm
  | 27, hx => have e := Option.some.inj hx; rw [← e]; exact congrArg some z51_27.symm
  | 28, hx => have e := Option.some.inj hx; rw [← e]; exact congrArg some z51_28.symm
  | 29, hx => have e := Option.some.inj hx; rw [← e]; exact congrArg some z51_29.symm
  | 30, hx => have e := Option.some.inj hx; rw [← e]; exact congrArg some z51_30.symm
  | 31, hx => have e := Option.some.inj hx; rw [← e]; exact congrArg some z51_31.symm
  | 32, hx => have e := Option.some.inj hx; rw [← e]; exact congrArg some z51_32.symm
  | 33, hx => have e := Option.some.inj hx; rw [← e]; exact congrArg some z51_33.symm
  | 34, hx => have e := Option.some.inj hx; rw [← e]; exact congrArg some z51_34.symm
  | 35, hx => have e := Option.some.inj hx; rw [← e]; exact congrArg some z51_35.symm
  | 36, hx => have e := Option.some.inj hx; rw [← e]; exact congrArg some z51_36.symm
  | 37, hx => have e := Option.some.inj hx; rw [← e]; exact congrArg some z51_37.symm
  | 38, hx => have e := Option.some.inj hx; rw [← e]; exact congrArg some z51_38.symm
  | 39, hx => have e := Option.some.inj hx; rw [← e]; exact congrArg some z51_39.symm
  | 40, hx => have e := Option.some.inj hx; rw [← e]; exact congrArg some z51_40.symm
  | 41, hx => have e := Option.some.inj hx; rw [← e]; exact congrArg some z51_41.symm
  | 42, hx => have e := Option.some.inj hx; rw [← e]; exact congrArg some z51_42.symm
  | 43, hx => have e := Option.some.inj hx; rw [← e]; exact congrArg some z51_43.symm
  | 44, hx => have e := Option.some.inj hx; rw [← e]; exact congrArg some z51_44.symm
  | 45, hx => have e := Option.some.inj hx; rw [← e]; exact congrArg some z51_45.symm
  | 46, hx => have e := Option.some.inj hx; rw [← e]; exact congrArg some z51_46.symm
  | 47, hx => have e := Option.some.inj hx; rw [← e]; exact congrArg some z51_47.symm
  | 48, hx => have e := Option.some.inj hx; rw [← e]; exact congrArg some z51_48.symm
  | 49, hx => have e := Option.some.inj hx; rw [← e]; exact congrArg some z51_49.symm
  | 50, hx => have e := Option.some.inj hx; rw [← e]; exact congrArg some z51_50.symm
  | _ + 51, hx => cases hx
end F51
