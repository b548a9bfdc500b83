/-! worlds as they are: new cells, calls, copies; Arrays.copyOf -/
theorem w_arrI : Cond.arrayClass .int ∈ zT := zt_of 177 (by decide +kernel) (by decide +kernel)
theorem w_arrB : Cond.arrayClass .byte ∈ zT := zt_of 178 (by decide +kernel) (by decide +kernel)
theorem w_arrS : Cond.arrayClass .short ∈ zT := zt_of 417 (by decide +kernel) (by decide +kernel)
theorem w_arrL : Cond.arrayClass .long ∈ zT := zt_of 461 (by decide +kernel) (by decide +kernel)
theorem w_arrZ : Cond.arrayClass .boolean ∈ zT := zt_of 1210 (by decide +kernel) (by decide +kernel)
theorem w_obj1 : Cond.instanceMethod Lib.objectInit ∈ zT := zt_of 127 (by decide +kernel) (by decide +kernel)
theorem w_obj2 : Cond.code Lib.objectInit ⟨#[0xb1]⟩ 1 none ∈ zT := zt_of 128 (by decide +kernel) (by decide +kernel)
theorem w_cpy1 : Cond.static arraycopyName ∈ zT := zt_of 687 (by decide +kernel) (by decide +kernel)
theorem w_cpy2 : Cond.native arraycopyName ∈ zT := zt_of 688 (by decide +kernel) (by decide +kernel)
theorem w_sys : Cond.initialized "java/lang/System" ∈ zT := zt_of 114 (by decide +kernel) (by decide +kernel)
theorem w_cpyJ7 : Cond.methodLink RJ7 150 arraycopyName ∈ zT := zt_of 686 (by decide +kernel) (by decide +kernel)
theorem w_cpyX5 : Cond.methodLink RX5 78 arraycopyName ∈ zT := zt_of 773 (by decide +kernel) (by decide +kernel)
theorem w_cpyX3 : Cond.methodLink RX3 58 arraycopyName ∈ zT := zt_of 775 (by decide +kernel) (by decide +kernel)
section RAW2
variable {E : zEnv} {d : Nat} {y : zY} {pc : Nat} {ls : List (Option Value)} {st : List Value} {ws : va_W} {cN sN mc ms : Nat} {B : Option Value → va_W → Prop}
theorem r_objInit {a idx : Nat} (hd : decode y.2.1 pc = .ok (.invokespecial idx, 3)) (hl : Cond.methodLink y.1.cls idx Lib.objectInit ∈ zT) (hw : ((st.map fun v => v.category).sum) ≤ 8) (k : rGo E (d + 1) y (pc + 3) ls st ws cN sN mc ms B) : rGo E (d + 1) y pc ls (.ref a :: st) ws cN sN mc ms B := fun p e s m args below meth c H locs LS C hn hP hD hS h6 =>
  W.objInit C.1 C.2.1 C.2.2.2.2.2.1 (C.2.2.2.2.2.2.1 _ hl) (C.2.2.2.2.2.2.1 _ w_obj1) (C.2.2.2.2.2.2.1 _ w_obj2) rfl (h6.1.trans C.2.2.1.symm) rfl hd (by show 1 ≤ d + 1; omega) (by show 2 * 0 + _ + 12 ≤ 60 * (d + 1); omega) (k p e s m args below meth c H locs LS C hn hP hD hS h6)
theorem r_mmin {x z : Int32} {idx : Nat} (hd : decode y.2.1 pc = .ok (.invokestatic idx, 3)) (hl : zMS y.1.cls idx mJ9_min_7cf53 2) (hw : ((st.map fun v => v.category).sum) ≤ 8) (hc : cN ≤ mc) (hs : sN ≤ ms) (k : rGo E (d + 1) y (pc + 3) ls (.int (k_min x z) :: st) ws cN sN mc ms B) : rGo E (d + 1) y pc ls (.int z :: .int x :: st) ws cN sN mc ms B := fun p e s m args below meth c H locs LS C hn hP hD hS h6 =>
  va_mmin C.1 C.2.1 (C.2.2.1.trans h6.1.symm) C.2.2.2.2.2.1 (C.2.2.2.2.2.2.1 _ (by rw [zminN]; exact hl.1 _ (List.mem_append_left _ (by simp)))) (C.2.2.2.2.2.2.1 _ (by rw [zminN]; exact hl.1 _ (List.mem_append_left _ (by simp)))) (C.2.2.2.2.2.2.1 _ (zminI ▸ hl.1 (Cond.initialized yJ9_min_7cf53.cls) (List.mem_append_left _ (by simp)))) (C.2.2.2.2.2.2.1 _ (by rw [zminN, zminC]; exact hl.1 _ (List.mem_append_right _ (List.mem_cons_self ..)))) (by show 1 ≤ d + 1; omega) (by show _ ≤ 60 * (d + 1); omega) hc hs hd (k p e s m args below meth c H locs LS C hn hP hD hS h6)
theorem r_copyi {a a0 n0 n1 t sp dp n : Nat} {xs xd xn : Int32} {f g : Nat → Int32} {idx : Nat} (i0 i1 : Nat) (hd : decode y.2.1 pc = .ok (.invokestatic idx, 3)) (hl : Cond.methodLink y.1.cls idx arraycopyName ∈ zT) (ha0 : ws[i0]? = some (a0, .inl (zcy E t, n0, .inl f))) (ha1 : ws[i1]? = some (a, .inl (zcy E t, n1, .inl g))) (ht : t < 4) (e1 : xs = nI sp) (e2 : xd = nI dp) (e3 : xn = nI n) (hb : sp + dp + n < 2 ^ 31) (h4 : sp + n ≤ n0) (h5 : dp + n ≤ n1) (hfit : ∀ i, i < n → fits (zty t) (.int (f (sp + i))) = true) (hw : ((st.map fun v => v.category).sum) ≤ 8)
    (k : rGo E (d + 1) y (pc + 3) ls st (ws.set i1 (a, .inl (zcy E t, n1, .inl (va_cpy f g sp dp n)))) cN sN mc ms B) : rGo E (d + 1) y pc ls (.int xn :: .int xd :: .ref a :: .int xs :: .ref a0 :: st) ws cN sN mc ms B := fun p e s m args below meth c H locs LS C hn hP hD hS h6 => by
  subst e1; subst e2; subst e3
  have c1 : (nI sp).toNatClampNeg = sp := nI_clamp (by omega)
  have c2 : (nI dp).toNatClampNeg = dp := nI_clamp (by omega)
  have c3 : (nI n).toNatClampNeg = n := nI_clamp (by omega)
  refine va_copyi C.1 C.2.1 (C.2.2.1.trans h6.1.symm) C.2.2.2.2.2.1 (C.2.2.2.2.2.2.1 _ hl) (C.2.2.2.2.2.2.1 _ w_cpy2) (C.2.2.2.2.2.2.1 _ w_cpy1) (C.2.2.2.2.2.2.1 _ w_sys) C.2.2.2.2.2.2.2.1 hP hD hS i0 i1 t t ha0 ha1 (ztys_at (by omega)) (ztys_at (by omega)) ?_ (nI_pos (by omega)) (nI_pos (by omega)) (nI_pos (by omega)) (by rw [c1, c3]; exact h4) (by rw [c2, c3]; exact h5) (by rw [c1, c3]; exact hfit) (by show 1 ≤ d + 1; omega) ?_ hd (fun H1 locs1 hP hD hS => ?_)
  · match t, ht with
    | 0, _ => rfl
    | 1, _ => rfl
    | 2, _ => rfl
    | 3, _ => rfl
  · have hz : nativeFrameWords "java/lang/System" "arraycopy" 5 + 11 ≤ 40 := by decide +kernel
    show _ ≤ 60 * (d + 1)
    omega
  · rw [c1, c2, c3] at hP hD
    exact k p e s m args below meth c H1 locs1 LS C hn hP hD hS h6
/-- a class by its number in the pool of class own -/
def zCL (own : String) (idx ci : Nat) (fs : List Value) : Prop := ∃ q : vw_C, vwCl[ci]? = some q ∧ Cond.classLink own idx q.1 ∈ zT ∧ Cond.instantiable q.1 q.2.2 ∈ zT ∧ Cond.initialized q.1 ∈ zT ∧ q.2.2 = fs.length ∧ ∀ ty0 : Nat → FieldType, (∀ k, k < q.2.2 → parseFieldDescriptor (q.2.1 k).2.2.1 = some (ty0 k)) → ∀ j, j < q.2.2 → defaultValue (ty0 j) = vp_V fs j
theorem r_new {idx ci : Nat} {fs : List Value} (hd : decode y.2.1 pc = .ok (.new idx, 3)) (hl : zCL y.1.cls idx ci fs) (hc : cN + 1 ≤ mc) (hs : sN + fs.length ≤ ms) (kk : ∀ q, rGo E d y (pc + 3) ls (.ref q :: st) (ws ++ [(q, .inr (ci, fs))]) (cN + 1) (sN + fs.length) mc ms B) : rGo E d y pc ls st ws cN sN mc ms B := fun p e s m args below meth c H locs LS C hn hP hD hS h6 => by
  obtain ⟨q, hq, l1, l2, l3, l4, l5⟩ := hl
  obtain ⟨ty0, hty0⟩ := zty_tbl ci q hq
  exact va_new (R := rrm d mc ms) (C := q.1) (T := q.2.1) (N := q.2.2) (ws := ws) C.1 C.2.1 C.2.2.2.2.2.2.1 (zin_tbl ci q hq) ty0 hty0 C.2.2.2.2.2.1 (C.2.2.2.2.2.2.1 _ l1) (C.2.2.2.2.2.2.1 _ l2) (C.2.2.2.2.2.2.1 _ l3) C.2.2.2.2.2.2.2.1 hP hD hS (fun q hq => Nat.le_trans C.2.2.2.2.2.2.2.2.1 hq) hq (l5 ty0 hty0) hc (by rw [l4]; exact hs) hd (fun q1 H1 hP hD hS => by
    rw [l4]
    exact kk q1 p e s m args below meth c H1 locs LS C hn hP hD hS h6)
/-- a method's contract out of the walk of its frame -/
theorem rTr_of {as : List Value} (ls : List (Option Value)) (hn : plainName y.1.cls = true) (hl : zpad y.2.2.1 (zent as) = ls) (hlen : (zent as).length ≤ y.2.2.1) (k : rGo E d y 0 ls [] ws 0 0 mc ms B) : rTr E d y as ws mc ms B := by
  refine Met.ofW (cc := y.2.1) (maxL := y.2.2.1) (ret := y.2.2.2) hn rfl ?_
  intro p e s m args below meth c s₁ Bo hml hv
  obtain ⟨rfl, hK, hW, hlo, hN⟩ := hv
  have hts := atoms_spec (ws := zwd y) Bo.pre
  have C : zCx E y p s m as.toArray meth c := ⟨Bo.exec, Bo.bytes, hml, Bo.returns, Bo.notSynchronized, findClass_of_methodNamed Bo.named, fun w h => hts w (List.mem_cons_of_mem _ h), hK, hlo, hN⟩
  have hsl : ∀ as : List Value, (lg_sl as).length = (zent as).length := by
    intro as
    induction as with
    | nil => rfl
    | cons v as ih =>
      simp only [lg_sl, List.flatMap_cons, List.length_append, zent] at ih ⊢
      rw [ih]
      by_cases h : v.category = 2
      · rw [if_pos h]; simp [h]; omega
      · rw [if_neg h]
        have hb : Nat.beq v.category 2 = false := by
          cases hb : Nat.beq v.category 2 with
          | false => rfl
          | true => exact absurd (Nat.eq_of_beq_eq_true hb) h
        rw [hb]; simp; omega
  have he := lv_entry as (n := y.2.2.1) (by rw [hsl]; exact hlen)
  rw [lg_entry_eq]
  have hargs : ∀ (as : List Value) (b i : Nat) (v : Value), (zent as)[i]? = some (some v) → (b + i, v) ∈ lv_args b as := by
    intro as
    induction as with
    | nil => intro b i v h; simp [zent] at h
    | cons w as ih =>
      intro b i v h
      simp only [lv_args, zent] at h ⊢
      by_cases hc : w.category = 2
      · rw [if_pos hc]
        rw [show Nat.beq w.category 2 = true by rw [hc]; rfl] at h
        simp only [cond_true] at h
        match i, h with
        | 0, h => cases h; exact List.mem_cons_self
        | 1, h => simp at h
        | i + 2, h =>
          have := ih (b + 2) i v (by simpa using h)
          rw [show b + (i + 2) = b + 2 + i by omega]
          exact List.mem_cons_of_mem _ this
      · rw [if_neg hc]
        have hb : Nat.beq w.category 2 = false := by
          cases hb : Nat.beq w.category 2 with
          | false => rfl
          | true => exact absurd (Nat.eq_of_beq_eq_true hb) hc
        rw [hb] at h
        simp only [cond_false] at h
        match i, h with
        | 0, h => cases h; exact List.mem_cons_self
        | i + 1, h =>
          have := ih (b + 1) i v (by simpa using h)
          rw [show b + (i + 1) = b + 1 + i by omega]
          exact List.mem_cons_of_mem _ this
  exact k p e s m as.toArray below meth c s.heap [] _ C ((name_of_methodNamed Bo.named Bo.method).1) hW.1 hW.2 va_S.rf ⟨he.1, he.2.1, fun i v hi => by
    subst hl
    unfold zpad at hi
    rw [ztv_id]
    by_cases h : i < (zent as).length
    · rw [List.getElem?_append_left h] at hi
      have := he.2.2 _ (hargs as 0 i v hi)
      rwa [Nat.zero_add] at this
    · rw [List.getElem?_append_right (Nat.le_of_not_lt h), List.getElem?_replicate] at hi
      split at hi <;> cases hi⟩
end RAW2
