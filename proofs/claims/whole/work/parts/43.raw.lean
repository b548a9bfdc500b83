/-! worlds as they are: frames that make cells (constructors, copies) -/
def rrm (d mc ms : Nat) : Room := { frames := d, cells := mc, slots := ms, locals := 60 * d }
def rPre (E : zEnv) (ws : va_W) : State → Prop := fun U => zK E U ∧ (va_P (zD E) vwCl ws U.heap ∧ va_D (zA E) ws) ∧ zlo E ≤ U.heap.size ∧ zN E U
def rQ (E : zEnv) (B : Option Value → va_W → Prop) : Array Value → State → Outcome → State → Prop := fun _ st o t => ∃ (v : Option Value) (ws : va_W), o = .returned v ∧ B v ws ∧ (va_P (zD E) vwCl ws t.heap ∧ va_D (zA E) ws) ∧ va_F (zA E) st t
/-- the contract of a method over a world -/
def rTr (E : zEnv) (d : Nat) (y : zY) (as : List Value) (ws : va_W) (mc ms : Nat) (B : Option Value → va_W → Prop) : Prop := Met E.1 y.1 (zwd y) (rrm d mc ms) (va_Pc as (rPre E ws)) (rQ E B) mc ms (zA E)
/-- a frame over a world -/
def rGo (E : zEnv) (d : Nat) (y : zY) (pc : Nat) (ls : List (Option Value)) (st : List Value) (ws : va_W) (cN sN mc ms : Nat) (B : Option Value → va_W → Prop) : Prop :=
  ∀ (p : Program) (e : Env) (s : State) (m : MethodId) (args : Array Value) (below : List Frame) (meth : Method) (c : Code) (H : Heap) (locs : List Loc) (LS : Array Slot),
    zCx E y p s m args meth c → meth.name = y.1.name → va_P (zD E) vwCl ws H → va_D (zA E) ws → va_S (zA E) s.heap H locs → zlr id y.2.2.1 ls LS →
    W p E.1 e (rrm d mc ms) s m args below meth c H locs cN sN (MQ below (rQ E B) args s mc ms (zA E)) (F0 m pc LS st)
theorem ztv_id (v : Value) : ztv id v = v := by cases v <;> rfl
section RAW
variable {E : zEnv} {d : Nat} {y : zY} {pc : Nat} {ls : List (Option Value)} {st : List Value} {ws : va_W} {cN sN mc ms : Nat} {B : Option Value → va_W → Prop}
theorem r_iconst {n : Int} (v : Int32) (hd : decode y.2.1 pc = .ok (.iconst n, 1)) (hv : Int32.ofInt n = v) (k : rGo E d y (pc + 1) ls (.int v :: st) ws cN sN mc ms B) : rGo E d y pc ls st ws cN sN mc ms B := fun p e s m args below meth c H locs LS C hn hP hD hS h6 => lv_iconst C.1 C.2.1 hd hv (k p e s m args below meth c H locs LS C hn hP hD hS h6)
theorem r_bipush {n : Int} (v : Int32) (hd : decode y.2.1 pc = .ok (.bipush n, 2)) (hv : (Int8.ofInt n).toInt32 = v) (k : rGo E d y (pc + 2) ls (.int v :: st) ws cN sN mc ms B) : rGo E d y pc ls st ws cN sN mc ms B := fun p e s m args below meth c H locs LS C hn hP hD hS h6 => lv_bipush C.1 C.2.1 hd hv (k p e s m args below meth c H locs LS C hn hP hD hS h6)
theorem r_sipush {n : Int} (v : Int32) (hd : decode y.2.1 pc = .ok (.sipush n, 3)) (hv : (Int16.ofInt n).toInt32 = v) (k : rGo E d y (pc + 3) ls (.int v :: st) ws cN sN mc ms B) : rGo E d y pc ls st ws cN sN mc ms B := fun p e s m args below meth c H locs LS C hn hP hD hS h6 => lv_sipush C.1 C.2.1 hd hv (k p e s m args below meth c H locs LS C hn hP hD hS h6)
theorem r_iload_n {j : Fin 4} {x : Int32} (i : Nat) (hd : decode y.2.1 pc = .ok (.iload_n j, 1)) (hi : (j : Nat) = i) (hl : ls[i]? = some (some (.int x))) (k : rGo E d y (pc + 1) ls (.int x :: st) ws cN sN mc ms B) : rGo E d y pc ls st ws cN sN mc ms B := fun p e s m args below meth c H locs LS C hn hP hD hS h6 => lv_iload_n C.1 C.2.1 hd hi (h6.2.2 i _ hl) (k p e s m args below meth c H locs LS C hn hP hD hS h6)
theorem r_aload_n {j : Fin 4} {x : Nat} (i : Nat) (hd : decode y.2.1 pc = .ok (.aload_n j, 1)) (hi : (j : Nat) = i) (hl : ls[i]? = some (some (.ref x))) (k : rGo E d y (pc + 1) ls (.ref x :: st) ws cN sN mc ms B) : rGo E d y pc ls st ws cN sN mc ms B := fun p e s m args below meth c H locs LS C hn hP hD hS h6 => lv_aload_n C.1 C.2.1 hd hi (h6.2.2 i _ hl) (k p e s m args below meth c H locs LS C hn hP hD hS h6)
theorem r_dup {a : Value} (hd : decode y.2.1 pc = .ok (.dup, 1)) (ha : a.category = 1) (k : rGo E d y (pc + 1) ls (a :: a :: st) ws cN sN mc ms B) : rGo E d y pc ls (a :: st) ws cN sN mc ms B := fun p e s m args below meth c H locs LS C hn hP hD hS h6 => lv_dup C.1 C.2.1 hd ha (k p e s m args below meth c H locs LS C hn hP hD hS h6)
theorem r_goto {off : Int} (tgt : Nat) (hd : decode y.2.1 pc = .ok (.goto off, 3)) (ht : (pc : Int) + off = (tgt : Int)) (k : rGo E d y tgt ls st ws cN sN mc ms B) : rGo E d y pc ls st ws cN sN mc ms B := fun p e s m args below meth c H locs LS C hn hP hD hS h6 => lv_goto C.1 C.2.1 hd ht (k p e s m args below meth c H locs LS C hn hP hD hS h6)
theorem r_if_ge {x : Int32} {off : Int} (tgt : Nat) (hd : decode y.2.1 pc = .ok (.ifCond .ge off, 3)) (ht : (pc : Int) + off = (tgt : Int)) (kt : 0 ≤ x → rGo E d y tgt ls st ws cN sN mc ms B) (kf : ¬ 0 ≤ x → rGo E d y (pc + 3) ls st ws cN sN mc ms B) : rGo E d y pc ls (.int x :: st) ws cN sN mc ms B := fun p e s m args below meth c H locs LS C hn hP hD hS h6 => lv_if_ge C.1 C.2.1 hd ht (fun z => kt (by first | exact z | simpa using z) p e s m args below meth c H locs LS C hn hP hD hS h6) (fun z => kf (by first | exact z | simpa using z) p e s m args below meth c H locs LS C hn hP hD hS h6)
theorem r_icmp_ne {x z : Int32} {off : Int} (tgt : Nat) (hd : decode y.2.1 pc = .ok (.if_icmp .ne off, 3)) (ht : (pc : Int) + off = (tgt : Int)) (kt : ¬ x = z → rGo E d y tgt ls st ws cN sN mc ms B) (kf : x = z → rGo E d y (pc + 3) ls st ws cN sN mc ms B) : rGo E d y pc ls (.int z :: .int x :: st) ws cN sN mc ms B := fun p e s m args below meth c H locs LS C hn hP hD hS h6 => lv_icmp_ne C.1 C.2.1 hd ht (fun z => kt (by first | exact z | simpa using z) p e s m args below meth c H locs LS C hn hP hD hS h6) (fun z => kf (by first | exact z | simpa using z) p e s m args below meth c H locs LS C hn hP hD hS h6)
theorem r_astore_n {j : Fin 4} {x : Nat} (i : Nat) (hd : decode y.2.1 pc = .ok (.astore_n j, 1)) (hj : (j : Nat) = i) (hi : i < y.2.2.1) (hz : znl ls i = true) (k : rGo E d y (pc + 1) (ls.set i (some (.ref x))) st ws cN sN mc ms B) : rGo E d y pc ls (.ref x :: st) ws cN sN mc ms B := fun p e s m args below meth c H locs LS C hn hP hD hS h6 => lv_astore_n C.1 C.2.1 hd hj h6.has hi rfl (fun LS2 h7 => k p e s m args below meth c H locs LS2 C hn hP hD hS (zlr.set1 (v := .ref x) hz h7))
theorem r_vret (hd : decode y.2.1 pc = .ok (.return_, 1)) (hr : y.2.2.2 = none) (hc : cN = mc) (hs : sN = ms) (hB : B none ws) : rGo E d y pc ls [] ws cN sN mc ms B := by
  subst hc; subst hs
  exact fun p e s m args below meth c H locs LS C hn hP hD hS h6 => W.vret C.1 C.2.1 (C.2.2.2.1.trans hr) (fun t ht hW => ⟨none, ws, rfl, hB, ⟨by rw [ht]; exact hP, hD⟩, hS.F ht⟩) (fun q hq => hS.2.2 q hq) hd C.2.2.2.2.1
theorem r_aret {a : Nat} {t : FieldType} (hd : decode y.2.1 pc = .ok (.areturn, 1)) (hr : y.2.2.2 = some (.array t)) (hc : cN = mc) (hs : sN = ms) (hB : B (some (.ref a)) ws) : rGo E d y pc ls [.ref a] ws cN sN mc ms B := by
  subst hc; subst hs
  exact fun p e s m args below meth c H locs LS C hn hP hD hS h6 => W.aret C.1 C.2.1 (C.2.2.2.1.trans hr) (Or.inr ⟨_, rfl⟩) (Or.inr ⟨_, rfl⟩) (fun t ht hW => ⟨_, ws, rfl, hB, ⟨by rw [ht]; exact hP, hD⟩, hS.F ht⟩) (fun q hq => hS.2.2 q hq) hd C.2.2.2.2.1
/-- a field of a cell of class ci -/
theorem r_get {idx ci k a : Nat} {v : Value} {fs : List Value} (i : Nat) (hd : decode y.2.1 pc = .ok (.getfield idx, 3)) (hf : zFL y.1.cls idx ci k) (hi : ws[i]? = some (a, .inr (ci, fs))) (hv : fs[k]? = some v) (kk : rGo E d y (pc + 3) ls (v :: st) ws cN sN mc ms B) : rGo E d y pc ls (.ref a :: st) ws cN sN mc ms B := fun p e s m args below meth c H locs LS C hn hP hD hS h6 => by
  obtain ⟨q, hq, hk, hown, hl⟩ := hf
  exact va_get C.1 C.2.1 (C := q.1) (T := q.2.1) (N := q.2.2) C.2.2.2.2.2.2.1 (zin_tbl ci q hq) C.2.2.2.2.2.1 C.2.2.2.2.2.2.2.1 hP i hi hq k hk (ref := q.1) (C.2.2.2.2.2.2.1 _ hl) (fun x hx => by rw [← hown]; exact hx) (v := v) hv hd (kk p e s m args below meth c H locs LS C hn hP hD hS h6)
theorem r_put {idx ci k a : Nat} {v : Value} {fs : List Value} {ty : FieldType} (i : Nat) (hd : decode y.2.1 pc = .ok (.putfield idx, 3)) (hf : zPL y.1.cls idx ci k ty) (hi : ws[i]? = some (a, .inr (ci, fs))) (hnr : narrow ty v = v) (hfit : fits ty v = true) (hkl : k < fs.length) (kk : rGo E d y (pc + 3) ls st (ws.set i (a, .inr (ci, fs.set k v))) cN sN mc ms B) : rGo E d y pc ls (v :: .ref a :: st) ws cN sN mc ms B := fun p e s m args below meth c H locs LS C hn hP hD hS h6 => by
  obtain ⟨q, hq, hk, hown, hl, hfin, hty⟩ := hf
  obtain ⟨ty0, hty0⟩ := zty_tbl ci q hq
  exact va_put C.1 C.2.1 (C := q.1) (T := q.2.1) (N := q.2.2) C.2.2.2.2.2.2.1 (zin_tbl ci q hq) ty0 hty0 (znm_tbl ci q hq) C.2.2.2.2.2.1 C.2.2.2.2.2.2.2.1 hP hD hS i hi hq k hk (ref := q.1) (C.2.2.2.2.2.2.1 _ hl) (fun x hx => by rw [← hown]; exact hx) hfin hty hnr hfit hkl hd (fun H1 locs1 hP hD hS => kk p e s m args below meth c H1 locs1 LS C hn hP hD hS h6)
def zPF (own : String) (idx ci k : Nat) (ty : FieldType) : Prop := ∃ q : vw_C, vwCl[ci]? = some q ∧ k < q.2.2 ∧ (q.2.1 k).1 = q.1 ∧ Cond.fieldLink own idx q.1 (q.2.1 k).2.1 (q.2.1 k).2.2.1 ∈ zT ∧ (q.2.1 k).2.2.2 = true ∧ parseFieldDescriptor (q.2.1 k).2.2.1 = some ty ∧ q.1 = own
theorem r_putF {idx ci k a : Nat} {v : Value} {fs : List Value} {ty : FieldType} (i : Nat) (hd : decode y.2.1 pc = .ok (.putfield idx, 3)) (hf : zPF y.1.cls idx ci k ty) (hini : y.1.name = "<init>") (hi : ws[i]? = some (a, .inr (ci, fs))) (hnr : narrow ty v = v) (hfit : fits ty v = true) (hkl : k < fs.length) (kk : rGo E d y (pc + 3) ls st (ws.set i (a, .inr (ci, fs.set k v))) cN sN mc ms B) : rGo E d y pc ls (v :: .ref a :: st) ws cN sN mc ms B := fun p e s m args below meth c H locs LS C hn hP hD hS h6 => by
  obtain ⟨q, hq, hk, hown, hl, hfin, hty, ho⟩ := hf
  obtain ⟨ty0, hty0⟩ := zty_tbl ci q hq
  exact va_putF C.1 C.2.1 (C := q.1) (T := q.2.1) (N := q.2.2) C.2.2.2.2.2.2.1 (zin_tbl ci q hq) ty0 hty0 (znm_tbl ci q hq) C.2.2.2.2.2.1 C.2.2.2.2.2.2.2.1 hP hD hS i hi hq k hk (ref := q.1) (C.2.2.2.2.2.2.1 _ hl) (fun x hx => by rw [← hown]; exact hx) hfin (hn.trans hini) (hown.trans ho) hty hnr hfit hkl hd (fun H1 locs1 hP hD hS => kk p e s m args below meth c H1 locs1 LS C hn hP hD hS h6)
/-- arrays -/
theorem r_alen {a t n : Nat} {cA : ClassId} {f : Nat → Int32} (i : Nat) (hd : decode y.2.1 pc = .ok (.arraylength, 1)) (hi : ws[i]? = some (a, .inl (zcy E t, n, .inl f))) (ht : t < 4) (kk : rGo E d y (pc + 1) ls (.int (nI n) :: st) ws cN sN mc ms B) : rGo E d y pc ls (.ref a :: st) ws cN sN mc ms B := fun p e s m args below meth c H locs LS C hn hP hD hS h6 =>
  va_alen C.1 C.2.1 C.2.2.2.2.2.2.2.1 hP i t hi (ztys_at (by omega)) rfl hd (kk p e s m args below meth c H locs LS C hn hP hD hS h6)
theorem r_iast {a n : Nat} {x z : Int32} {f : Nat → Int32} (i j : Nat) (hd : decode y.2.1 pc = .ok (.iastore, 1)) (hi : ws[i]? = some (a, .inl (zcy E 0, n, .inl f))) (hz : z = nI j) (hj : j < n) (h31 : j < 2 ^ 31) (kk : rGo E d y (pc + 1) ls st (ws.set i (a, .inl (zcy E 0, n, .inl (upd f j x)))) cN sN mc ms B) : rGo E d y pc ls (.int x :: .int z :: .ref a :: st) ws cN sN mc ms B := fun p e s m args below meth c H locs LS C hn hP hD hS h6 => by
  subst hz
  refine va_iast C.1 C.2.1 C.2.2.2.2.2.2.2.1 hP hD hS i 0 (f := f) hi (ztys_at (by decide)) (zvin hj h31) hd (fun H1 locs1 hP hD hS => ?_)
  rw [nI_clamp h31] at hP hD
  exact kk p e s m args below meth c H1 locs1 LS C hn hP hD hS h6
/-- the classes of arrays are one a type -/
theorem r_uniq {s : State} {cA cB : ClassId} {ty : FieldType} (ho : ∀ C, ty ≠ .object C) (h : va_RA s cA ty) (h2 : va_RA s cB ty) : cA = cB := by
  unfold va_RA at h h2
  cases ty with
  | object C => exact absurd rfl (ho C)
  | _ => simp only at h h2; rw [h] at h2; exact Option.some.inj h2
theorem zty_prim {t : Nat} (ht : t < 5) (C : String) : zty t ≠ .object C := by
  match t, ht with
  | 0, _ => exact fun h => by cases h
  | 1, _ => exact fun h => by cases h
  | 2, _ => exact fun h => by cases h
  | 3, _ => exact fun h => by cases h
  | 4, _ => exact fun h => by cases h
theorem r_one {s : State} (hK : zK E s) {t : Nat} (ht : t < 5) {cA : ClassId} (h : va_RA s cA (zty t)) : cA = zcy E t :=
  r_uniq (zty_prim ht) h (hK.2 t _ (ztys_at (by omega))).2
theorem r_newa {n : Int32} {N t : Nat} {a0 : vp_A} (atype : ArrayType) (hd : decode y.2.1 pc = .ok (.newarray atype, 2)) (hty : newarray.typeOf atype = zty t) (ht : t < 5) (hw : Cond.arrayClass (newarray.typeOf atype) ∈ zT) (ha : ∀ cA : ClassId, vp_cell cA a0 = arrV cA N (fun _ => defaultValue (zty t))) (hn : n = nI N) (hN : Nat.ble N 1000000 = true) (hb : componentBytes (zty t) ≤ 8) (hc : cN + 1 ≤ mc) (hs : sN + N ≤ ms) (kk : ∀ q, rGo E d y (pc + 2) ls (.ref q :: st) (ws ++ [(q, .inl (zcy E t, a0))]) (cN + 1) (sN + N) mc ms B) : rGo E d y pc ls (.int n :: st) ws cN sN mc ms B := fun p e s m args below meth c H locs LS C hn0 hP hD hS h6 => by
  subst hn
  have hN' := Nat.le_of_ble_eq_true hN
  refine va_newa (atype := atype) C.1 C.2.1 (C.2.2.2.2.2.2.1 _ hw) hty C.2.2.2.2.2.2.2.1 hP hD hS (fun q hq => Nat.le_trans C.2.2.2.2.2.2.2.2.1 hq) (N' := N) ha (nI_pos (by omega)) (nI_clamp (by omega)) (Nat.le_trans (Nat.mul_le_mul hN' hb) (by decide)) hc hs hd (fun q cA H1 hK hP hD hS => ?_)
  have hz : cA = zcy E t := by
    have := hK.2 (ztys E).length (cA, zty t) (by simp)
    exact r_one C.2.2.2.2.2.2.2.1 ht this.2
  subst hz
  exact kk q p e s m args below meth c H1 locs LS C hn0 hP hD hS h6
end RAW
