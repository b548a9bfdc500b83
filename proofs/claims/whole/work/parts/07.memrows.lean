/-! rows that read and write the memory, and calls -/
/-- a field by its number in the constant pool of class own: field k of class ci -/
def zFL (own : String) (idx ci k : Nat) : Prop := ∃ q : vw_C, vwCl[ci]? = some q ∧ k < q.2.2 ∧ (q.2.1 k).1 = q.1 ∧ Cond.fieldLink own idx q.1 (q.2.1 k).2.1 (q.2.1 k).2.2.1 ∈ zT
def zPL (own : String) (idx ci k : Nat) (ty : FieldType) : Prop := ∃ q : vw_C, vwCl[ci]? = some q ∧ k < q.2.2 ∧ (q.2.1 k).1 = q.1 ∧ Cond.fieldLink own idx q.1 (q.2.1 k).2.1 (q.2.1 k).2.2.1 ∈ zT ∧ (q.2.1 k).2.2.2 = false ∧ parseFieldDescriptor (q.2.1 k).2.2.1 = some ty
section ZM
variable {E : zEnv} {d : Nat} {y : zY} {pc : Nat} {ls : List (Option Value)} {st : List Value} {μ ν : zMem} {r : Option Value}
/-- at a place there is an object of class ci -/
def zat (μ : zMem) (p ci : Nat) : Prop := p ∈ zpl μ ∧ zcls p = some ci
theorem zat_b {p ci : Nat} (h : zbase p = true) (hc : zcls p = some ci) : zat μ p ci := ⟨zpl_b h, hc⟩
/-- at a place there is an array of kind a -/
def zar (μ : zMem) (p a : Nat) : Prop := p ∈ zpl μ ∧ zcls p = none ∧ zaty p = some a
theorem zar_b {p a : Nat} (h : zbase p = true) (hc : zcls p = none) (ha : zaty p = some a) : zar μ p a := ⟨zpl_b h, hc, ha⟩
theorem g_get0 {idx ci k p : Nat} {v : Value} (hd : decode y.2.1 pc = .ok (.getfield idx, 3)) (hf : zFL y.1.cls idx ci k) (hp : zat μ p ci) (hv : ∀ ad, zfv ad μ p k = ztv ad v) (kk : zGo E d y (pc + 3) ls (v :: st) μ r ν) : zGo E d y pc ls (.ref p :: st) μ r ν :=
  ⟨kk.1, fun p1 e s m args below meth c μ0 ad0 ad H locs LS C h1 h2 h3 h4 h5 h6 => by
    obtain ⟨q, hq, hk, hown, hl⟩ := hf
    obtain ⟨i, hi1, hi2⟩ := zws_at (E := E) (ad := ad) hp.1
    rw [zcel_obj hp.2] at hi2
    have hn : znf ci = q.2.2 := by
      obtain ⟨q', e1, e2⟩ := zcls_lt hp.2
      rw [hq] at e1; cases e1; exact e2.symm
    refine va_get C.1 C.2.1 (C := q.1) (T := q.2.1) (N := q.2.2) C.2.2.2.2.2.2.1 (zin_tbl ci q hq) C.2.2.2.2.2.1 C.2.2.2.2.2.2.2.1 h4.1 i hi2 hq k hk (ref := q.1) (C.2.2.2.2.2.2.1 _ hl) (fun x hx => by rw [← hown]; exact hx) (v := ztv ad v) ?_ hd (kk.2 p1 e s m args below meth c μ0 ad0 ad H locs LS C h1 h2 h3 h4 h5 h6)
    rw [List.getElem?_map, List.getElem?_range (by rw [hn]; exact hk)]
    show some (zfv ad μ p k) = _
    rw [hv ad]⟩
/-- an int field -/
theorem g_geti {idx ci k p : Nat} (hd : decode y.2.1 pc = .ok (.getfield idx, 3)) (hf : zFL y.1.cls idx ci k) (hp : zat μ p ci) (hr : zrf p k = none) (kk : zGo E d y (pc + 3) ls (.int (zr μ p k) :: st) μ r ν) : zGo E d y pc ls (.ref p :: st) μ r ν := g_get0 hd hf hp (fun ad => by unfold zfv; rw [hr]; rfl) kk
/-- a reference field -/
theorem g_getr {idx ci k p : Nat} (q : Nat) (hd : decode y.2.1 pc = .ok (.getfield idx, 3)) (hf : zFL y.1.cls idx ci k) (hp : zat μ p ci) (hr : zrf p k = some q) (kk : zGo E d y (pc + 3) ls (.ref q :: st) μ r ν) : zGo E d y pc ls (.ref p :: st) μ r ν := g_get0 (v := .ref q) hd hf hp (fun ad => by unfold zfv; rw [hr]; rfl) kk
theorem g_put0 {idx ci k p : Nat} {x : Int32} {ty : FieldType} (hd : decode y.2.1 pc = .ok (.putfield idx, 3)) (hf : zPL y.1.cls idx ci k ty) (hp : zat μ p ci) (hr : zrf p k = none) (hnr : narrow ty (.int x) = .int x) (hfit : fits ty (.int x) = true) (kk : zGo E d y (pc + 3) ls st (zw μ p k x) r ν) : zGo E d y pc ls (.int x :: .ref p :: st) μ r ν :=
  ⟨kk.1, fun p1 e s m args below meth c μ0 ad0 ad H locs LS C h1 h2 h3 h4 h5 h6 => by
    obtain ⟨q, hq, hk, hown, hl, hfin, hty⟩ := hf
    obtain ⟨i, hi1, hi2⟩ := zws_at (E := E) (ad := ad) hp.1
    rw [zcel_obj hp.2] at hi2
    have hn : znf ci = q.2.2 := by
      obtain ⟨q', e1, e2⟩ := zcls_lt hp.2
      rw [hq] at e1; cases e1; exact e2.symm
    obtain ⟨ty0, hty0⟩ := zty_tbl ci q hq
    refine va_put C.1 C.2.1 (C := q.1) (T := q.2.1) (N := q.2.2) C.2.2.2.2.2.2.1 (zin_tbl ci q hq) ty0 hty0 (znm_tbl ci q hq) C.2.2.2.2.2.1 C.2.2.2.2.2.2.2.1 h4.1 h4.2.1 h5 i hi2 hq k hk (ref := q.1) (C.2.2.2.2.2.2.1 _ hl) (fun x hx => by rw [← hown]; exact hx) hfin hty hnr hfit (by simpa [hn] using hk) hd (fun H1 locs1 hP hD hS => ?_)
    have he := zws_set (ν := zw μ p k x) h4.2.1 hi1 (zpl_zw μ p k x) (zcel_put hp.2 (by rw [hn]; exact hk) hr) (fun q hq => zcel_ne hq)
    exact kk.2 p1 e s m args below meth c μ0 ad0 ad H1 locs1 LS C h1 h2 h3 ⟨by rw [← he]; exact hP, by rw [← he]; exact hD, h4.2.2⟩ hS h6⟩
theorem g_puti {idx ci k p : Nat} {x : Int32} (hd : decode y.2.1 pc = .ok (.putfield idx, 3)) (hf : zPL y.1.cls idx ci k .int) (hp : zat μ p ci) (hr : zrf p k = none) (kk : zGo E d y (pc + 3) ls st (zw μ p k x) r ν) : zGo E d y pc ls (.int x :: .ref p :: st) μ r ν := g_put0 hd hf hp hr rfl rfl kk
/-! arrays -/
theorem zarr_int {ad : Nat → Nat} {p a : Nat} (h : a < 4) : zarr E ad μ p a = .inl (zcy E a, zln μ p, .inl (fun j => zr μ p j)) := by
  match a, h with
  | 0, _ => rfl
  | 1, _ => rfl
  | 2, _ => rfl
  | 3, _ => rfl
theorem ztys_at {a : Nat} (h : a < 6) : (ztys E)[a]? = some (zcy E a, zty a) := by unfold ztys; rw [List.getElem?_map, List.getElem?_range h]; rfl
theorem zcel_ast {ad : Nat → Nat} {p a i : Nat} {v : Int32} (hc : zcls p = none) (ha : zaty p = some a) (h : a < 4) : zcel E ad (zw μ p i v) p = .inl (zcy E a, zln μ p, .inl (upd (fun j => zr μ p j) i v)) := by
  rw [zcel_arr hc ha, zarr_int h, zln_zw]
  refine congrArg (fun f => Sum.inl (zcy E a, zln μ p, Sum.inl f)) ?_
  funext j
  rw [zr_zw]
  by_cases hj : j = i
  · subst hj; simp [upd]
  · simp [upd, hj]
theorem zcel_lst {ad : Nat → Nat} {p i : Nat} {v : Int64} (hc : zcls p = none) (ha : zaty p = some 4) : zcel E ad (zwl μ p i v) p = .inl (zcy E 4, zln μ p, .inr (.inl (vp_updL (fun j => zrl μ p j) i v))) := by
  rw [zcel_arr hc ha]
  show Sum.inl (zcy E 4, zln μ p, Sum.inr (Sum.inl (fun j => zrl (zwl μ p i v) p j))) = _
  refine congrArg (fun f => Sum.inl (zcy E 4, zln μ p, Sum.inr (Sum.inl f))) ?_
  funext j
  rw [zrl_zwl]
  by_cases hj : j = i
  · subst hj; simp [vp_updL]
  · simp [vp_updL, hj]
theorem zvin {j n : Nat} (h : j < n) (h31 : j < 2 ^ 31) : vp_in (nI j) n := by
  unfold vp_in
  rw [nI_clamp h31]
  rintro (h1 | h1)
  · exact nI_pos h31 h1
  · omega
theorem g_iald {i : Int32} {p : Nat} (j : Nat) (hd : decode y.2.1 pc = .ok (.iaload, 1)) (hp : zar μ p 0) (hi : i = nI j) (hj : j < zln μ p) (h31 : j < 2 ^ 31) (kk : zGo E d y (pc + 1) ls (.int (zr μ p j) :: st) μ r ν) : zGo E d y pc ls (.int i :: .ref p :: st) μ r ν :=
  ⟨kk.1, fun p1 e s m args below meth c μ0 ad0 ad H locs LS C h1 h2 h3 h4 h5 h6 => by
    obtain ⟨w, hi1, hi2⟩ := zws_at (E := E) (ad := ad) hp.1
    rw [zcel_arr hp.2.1 hp.2.2] at hi2
    have K := kk.2 p1 e s m args below meth c μ0 ad0 ad H locs LS C h1 h2 h3 h4 h5 h6
    subst hi
    refine va_iald C.1 C.2.1 C.2.2.2.2.2.2.2.1 h4.1 w 0 (f := fun j => zr μ p j) hi2 (ztys_at (by decide)) (zvin hj h31) hd ?_
    rw [nI_clamp h31]
    exact K⟩
theorem g_iast {i x : Int32} {p : Nat} (j : Nat) (hd : decode y.2.1 pc = .ok (.iastore, 1)) (hp : zar μ p 0) (hi : i = nI j) (hj : j < zln μ p) (h31 : j < 2 ^ 31) (kk : zGo E d y (pc + 1) ls st (zw μ p j x) r ν) : zGo E d y pc ls (.int x :: .int i :: .ref p :: st) μ r ν :=
  ⟨kk.1, fun p1 e s m args below meth c μ0 ad0 ad H locs LS C h1 h2 h3 h4 h5 h6 => by
    obtain ⟨w, hi1, hi2⟩ := zws_at (E := E) (ad := ad) hp.1
    rw [zcel_arr hp.2.1 hp.2.2] at hi2
    subst hi
    refine va_iast C.1 C.2.1 C.2.2.2.2.2.2.2.1 h4.1 h4.2.1 h5 w 0 (f := fun j => zr μ p j) hi2 (ztys_at (by decide)) (zvin hj h31) hd (fun H1 locs1 hP hD hS => ?_)
    rw [nI_clamp h31] at hP hD
    have he := zws_set (ν := zw μ p j x) h4.2.1 hi1 (zpl_zw μ p j x) (zcel_ast (a := 0) hp.2.1 hp.2.2 (by decide)) (fun q hq => zcel_ne hq)
    exact kk.2 p1 e s m args below meth c μ0 ad0 ad H1 locs1 LS C h1 h2 h3 ⟨by rw [← he]; exact hP, by rw [← he]; exact hD, h4.2.2⟩ hS h6⟩
theorem g_bald {i : Int32} {p : Nat} (j : Nat) (hd : decode y.2.1 pc = .ok (.baload, 1)) (hp : zar μ p 1) (hi : i = nI j) (hj : j < zln μ p) (h31 : j < 2 ^ 31) (kk : zGo E d y (pc + 1) ls (.int (zr μ p j) :: st) μ r ν) : zGo E d y pc ls (.int i :: .ref p :: st) μ r ν :=
  ⟨kk.1, fun p1 e s m args below meth c μ0 ad0 ad H locs LS C h1 h2 h3 h4 h5 h6 => by
    obtain ⟨w, hi1, hi2⟩ := zws_at (E := E) (ad := ad) hp.1
    rw [zcel_arr hp.2.1 hp.2.2] at hi2
    have K := kk.2 p1 e s m args below meth c μ0 ad0 ad H locs LS C h1 h2 h3 h4 h5 h6
    subst hi
    refine va_bald C.1 C.2.1 C.2.2.2.2.2.2.2.1 h4.1 w 1 (f := fun j => zr μ p j) hi2 (ztys_at (by decide)) (zvin hj h31) hd ?_
    rw [nI_clamp h31]
    exact K⟩
theorem g_bast {i x : Int32} {p : Nat} (j : Nat) (hd : decode y.2.1 pc = .ok (.bastore, 1)) (hp : zar μ p 1) (hi : i = nI j) (hj : j < zln μ p) (h31 : j < 2 ^ 31) (hx : (vp_nar .byte x) = x) (kk : zGo E d y (pc + 1) ls st (zw μ p j x) r ν) : zGo E d y pc ls (.int x :: .int i :: .ref p :: st) μ r ν :=
  ⟨kk.1, fun p1 e s m args below meth c μ0 ad0 ad H locs LS C h1 h2 h3 h4 h5 h6 => by
    obtain ⟨w, hi1, hi2⟩ := zws_at (E := E) (ad := ad) hp.1
    rw [zcel_arr hp.2.1 hp.2.2] at hi2
    subst hi
    refine va_bast C.1 C.2.1 C.2.2.2.2.2.2.2.1 h4.1 h4.2.1 h5 w 1 (f := fun j => zr μ p j) hi2 (ztys_at (by decide)) (zvin hj h31) hd (fun H1 locs1 hP hD hS => ?_)
    rw [nI_clamp h31, hx] at hP hD
    have he := zws_set (ν := zw μ p j x) h4.2.1 hi1 (zpl_zw μ p j x) (zcel_ast (a := 1) hp.2.1 hp.2.2 (by decide)) (fun q hq => zcel_ne hq)
    exact kk.2 p1 e s m args below meth c μ0 ad0 ad H1 locs1 LS C h1 h2 h3 ⟨by rw [← he]; exact hP, by rw [← he]; exact hD, h4.2.2⟩ hS h6⟩
theorem g_sald {i : Int32} {p : Nat} (j : Nat) (hd : decode y.2.1 pc = .ok (.saload, 1)) (hp : zar μ p 2) (hi : i = nI j) (hj : j < zln μ p) (h31 : j < 2 ^ 31) (kk : zGo E d y (pc + 1) ls (.int (zr μ p j) :: st) μ r ν) : zGo E d y pc ls (.int i :: .ref p :: st) μ r ν :=
  ⟨kk.1, fun p1 e s m args below meth c μ0 ad0 ad H locs LS C h1 h2 h3 h4 h5 h6 => by
    obtain ⟨w, hi1, hi2⟩ := zws_at (E := E) (ad := ad) hp.1
    rw [zcel_arr hp.2.1 hp.2.2] at hi2
    have K := kk.2 p1 e s m args below meth c μ0 ad0 ad H locs LS C h1 h2 h3 h4 h5 h6
    subst hi
    refine va_sald C.1 C.2.1 C.2.2.2.2.2.2.2.1 h4.1 w 2 (f := fun j => zr μ p j) hi2 (ztys_at (by decide)) (zvin hj h31) hd ?_
    rw [nI_clamp h31]
    exact K⟩
theorem g_sast {i x : Int32} {p : Nat} (j : Nat) (hd : decode y.2.1 pc = .ok (.sastore, 1)) (hp : zar μ p 2) (hi : i = nI j) (hj : j < zln μ p) (h31 : j < 2 ^ 31) (hx : (vp_nar .short x) = x) (kk : zGo E d y (pc + 1) ls st (zw μ p j x) r ν) : zGo E d y pc ls (.int x :: .int i :: .ref p :: st) μ r ν :=
  ⟨kk.1, fun p1 e s m args below meth c μ0 ad0 ad H locs LS C h1 h2 h3 h4 h5 h6 => by
    obtain ⟨w, hi1, hi2⟩ := zws_at (E := E) (ad := ad) hp.1
    rw [zcel_arr hp.2.1 hp.2.2] at hi2
    subst hi
    refine va_sast C.1 C.2.1 C.2.2.2.2.2.2.2.1 h4.1 h4.2.1 h5 w 2 (f := fun j => zr μ p j) hi2 (ztys_at (by decide)) (zvin hj h31) hd (fun H1 locs1 hP hD hS => ?_)
    rw [nI_clamp h31, hx] at hP hD
    have he := zws_set (ν := zw μ p j x) h4.2.1 hi1 (zpl_zw μ p j x) (zcel_ast (a := 2) hp.2.1 hp.2.2 (by decide)) (fun q hq => zcel_ne hq)
    exact kk.2 p1 e s m args below meth c μ0 ad0 ad H1 locs1 LS C h1 h2 h3 ⟨by rw [← he]; exact hP, by rw [← he]; exact hD, h4.2.2⟩ hS h6⟩
theorem g_zald {i : Int32} {p : Nat} (j : Nat) (hd : decode y.2.1 pc = .ok (.baload, 1)) (hp : zar μ p 3) (hi : i = nI j) (hj : j < zln μ p) (h31 : j < 2 ^ 31) (kk : zGo E d y (pc + 1) ls (.int (zr μ p j) :: st) μ r ν) : zGo E d y pc ls (.int i :: .ref p :: st) μ r ν :=
  ⟨kk.1, fun p1 e s m args below meth c μ0 ad0 ad H locs LS C h1 h2 h3 h4 h5 h6 => by
    obtain ⟨w, hi1, hi2⟩ := zws_at (E := E) (ad := ad) hp.1
    rw [zcel_arr hp.2.1 hp.2.2] at hi2
    have K := kk.2 p1 e s m args below meth c μ0 ad0 ad H locs LS C h1 h2 h3 h4 h5 h6
    subst hi
    refine va_zald C.1 C.2.1 C.2.2.2.2.2.2.2.1 h4.1 w 3 (f := fun j => zr μ p j) hi2 (ztys_at (by decide)) (zvin hj h31) hd ?_
    rw [nI_clamp h31]
    exact K⟩
theorem g_zast {i x : Int32} {p : Nat} (j : Nat) (hd : decode y.2.1 pc = .ok (.bastore, 1)) (hp : zar μ p 3) (hi : i = nI j) (hj : j < zln μ p) (h31 : j < 2 ^ 31) (hx : (vp_nar .boolean x) = x) (kk : zGo E d y (pc + 1) ls st (zw μ p j x) r ν) : zGo E d y pc ls (.int x :: .int i :: .ref p :: st) μ r ν :=
  ⟨kk.1, fun p1 e s m args below meth c μ0 ad0 ad H locs LS C h1 h2 h3 h4 h5 h6 => by
    obtain ⟨w, hi1, hi2⟩ := zws_at (E := E) (ad := ad) hp.1
    rw [zcel_arr hp.2.1 hp.2.2] at hi2
    subst hi
    refine va_zast C.1 C.2.1 C.2.2.2.2.2.2.2.1 h4.1 h4.2.1 h5 w 3 (f := fun j => zr μ p j) hi2 (ztys_at (by decide)) (zvin hj h31) hd (fun H1 locs1 hP hD hS => ?_)
    rw [nI_clamp h31, hx] at hP hD
    have he := zws_set (ν := zw μ p j x) h4.2.1 hi1 (zpl_zw μ p j x) (zcel_ast (a := 3) hp.2.1 hp.2.2 (by decide)) (fun q hq => zcel_ne hq)
    exact kk.2 p1 e s m args below meth c μ0 ad0 ad H1 locs1 LS C h1 h2 h3 ⟨by rw [← he]; exact hP, by rw [← he]; exact hD, h4.2.2⟩ hS h6⟩
theorem g_lald {i : Int32} {p : Nat} (j : Nat) (hd : decode y.2.1 pc = .ok (.laload, 1)) (hp : zar μ p 4) (hi : i = nI j) (hj : j < zln μ p) (h31 : j < 2 ^ 31) (kk : zGo E d y (pc + 1) ls (.long (zrl μ p j) :: st) μ r ν) : zGo E d y pc ls (.int i :: .ref p :: st) μ r ν :=
  ⟨kk.1, fun p1 e s m args below meth c μ0 ad0 ad H locs LS C h1 h2 h3 h4 h5 h6 => by
    obtain ⟨w, hi1, hi2⟩ := zws_at (E := E) (ad := ad) hp.1
    rw [zcel_arr hp.2.1 hp.2.2] at hi2
    have K := kk.2 p1 e s m args below meth c μ0 ad0 ad H locs LS C h1 h2 h3 h4 h5 h6
    subst hi
    refine va_lald C.1 C.2.1 C.2.2.2.2.2.2.2.1 h4.1 w 4 (f := fun j => zrl μ p j) hi2 (ztys_at (by decide)) (zvin hj h31) hd ?_
    rw [nI_clamp h31]
    exact K⟩
theorem g_last {i : Int32} {x : Int64} {p : Nat} (j : Nat) (hd : decode y.2.1 pc = .ok (.lastore, 1)) (hp : zar μ p 4) (hi : i = nI j) (hj : j < zln μ p) (h31 : j < 2 ^ 31) (kk : zGo E d y (pc + 1) ls st (zwl μ p j x) r ν) : zGo E d y pc ls (.long x :: .int i :: .ref p :: st) μ r ν :=
  ⟨kk.1, fun p1 e s m args below meth c μ0 ad0 ad H locs LS C h1 h2 h3 h4 h5 h6 => by
    obtain ⟨w, hi1, hi2⟩ := zws_at (E := E) (ad := ad) hp.1
    rw [zcel_arr hp.2.1 hp.2.2] at hi2
    subst hi
    refine va_last C.1 C.2.1 C.2.2.2.2.2.2.2.1 h4.1 h4.2.1 h5 w 4 (f := fun j => zrl μ p j) hi2 (ztys_at (by decide)) (zvin hj h31) hd (fun H1 locs1 hP hD hS => ?_)
    rw [nI_clamp h31] at hP hD
    have he := zws_set (ν := zwl μ p j x) h4.2.1 hi1 rfl (zcel_lst hp.2.1 hp.2.2) (fun q hq => zcel_nel hq)
    exact kk.2 p1 e s m args below meth c μ0 ad0 ad H1 locs1 LS C h1 h2 h3 ⟨by rw [← he]; exact hP, by rw [← he]; exact hD, h4.2.2⟩ hS h6⟩
theorem g_alen {p a : Nat} (hd : decode y.2.1 pc = .ok (.arraylength, 1)) (hp : zar μ p a) (ha : a < 5) (kk : zGo E d y (pc + 1) ls (.int (nI (zln μ p)) :: st) μ r ν) : zGo E d y pc ls (.ref p :: st) μ r ν :=
  ⟨kk.1, fun p1 e s m args below meth c μ0 ad0 ad H locs LS C h1 h2 h3 h4 h5 h6 => by
    obtain ⟨w, hi1, hi2⟩ := zws_at (E := E) (ad := ad) hp.1
    rw [zcel_arr hp.2.1 hp.2.2] at hi2
    have K := kk.2 p1 e s m args below meth c μ0 ad0 ad H locs LS C h1 h2 h3 h4 h5 h6
    match a, ha, hi2 with
    | 0, _, hi2 => exact va_alen C.1 C.2.1 C.2.2.2.2.2.2.2.1 h4.1 w 0 hi2 (ztys_at (by decide)) rfl hd K
    | 1, _, hi2 => exact va_alen C.1 C.2.1 C.2.2.2.2.2.2.2.1 h4.1 w 1 hi2 (ztys_at (by decide)) rfl hd K
    | 2, _, hi2 => exact va_alen C.1 C.2.1 C.2.2.2.2.2.2.2.1 h4.1 w 2 hi2 (ztys_at (by decide)) rfl hd K
    | 3, _, hi2 => exact va_alen C.1 C.2.1 C.2.2.2.2.2.2.2.1 h4.1 w 3 hi2 (ztys_at (by decide)) rfl hd K
    | 4, _, hi2 => exact va_alen C.1 C.2.1 C.2.2.2.2.2.2.2.1 h4.1 w 4 hi2 (ztys_at (by decide)) rfl hd K⟩
/-! calls -/
/-- an instance method of class z.1.cls by its number in the pool of class own -/
def zMV (own : String) (idx : Nat) (z : zY) (n : Nat) : Prop := (∀ w ∈ wsV own idx z.1.cls z.1 (zwd z), w ∈ zT) ∧ z.1.cls ≠ "java/lang/invoke/MethodHandle" ∧ z.1.cls ≠ "java/lang/invoke/VarHandle" ∧ (parseMethodDescriptor z.1.desc).map (fun d => d.parameters.length) = some n ∧ Nat.ble z.2.2.1 40 = true
def zMS (own : String) (idx : Nat) (z : zY) (n : Nat) : Prop := (∀ w ∈ va_wsS own idx z.1 (zwd z), w ∈ zT) ∧ z.1.cls ≠ "java/lang/invoke/MethodHandle" ∧ z.1.cls ≠ "java/lang/invoke/VarHandle" ∧ (parseMethodDescriptor z.1.desc).map (fun d => d.parameters.length) = some n ∧ Nat.ble z.2.2.1 40 = true
def zMN (own : String) (idx : Nat) (z : zY) (n : Nat) (host : String) : Prop := (own, idx, z.1, host) ∈ zNest ∧ (∀ w ∈ ([.static z.1, .initialized z.1.cls] : List Cond) ++ zwd z, w ∈ zT) ∧ z.1.cls ≠ "java/lang/invoke/MethodHandle" ∧ z.1.cls ≠ "java/lang/invoke/VarHandle" ∧ (parseMethodDescriptor z.1.desc).map (fun d => d.parameters.length) = some n ∧ Nat.ble z.2.2.1 40 = true
theorem zPre_blind {ad : Nat → Nat} {as : List Value} : FrameBlind (va_Pc as (zPre E ad μ)) := fun a U g mk q => ⟨q.1, va_K.moved (u := U) (U := U.calling g mk a) (Vm.Alike.refl U.vm) q.2.1, q.2.2.1, q.2.2.2.1, q.2.2.2.2.same rfl rfl⟩
theorem zPre_of {ad : Nat → Nat} {s U : State} {H : Heap} {locs : List Loc} (hK : zK E s) (hlo : zlo E ≤ s.heap.size) (hN : zN E s) (h4 : zWd E ad μ H) (h5 : va_S (zA E) s.heap H locs) (hU : U.heap = H) (hW : s.WarmedH U.vm) : zPre E ad μ U := ⟨va_K.moved hW.alike hK, by rw [hU]; exact h4, by rw [hU]; exact Nat.le_trans hlo h5.1, hN.warm hW hU h5 hlo⟩
/-- behind a call -/
theorem zcall {p1 : Program} {e : Env} {s : State} {m : MethodId} {args : Array Value} {below : List Frame} {meth : Method} {c : Code} {μ0 ρ : zMem} {ad0 ad : Nat → Nat} {H : Heap} {locs : List Loc} {LS : Array Slot} {v : Option Value} {a : Array Value} {rest st0 : List Value}
    (C : zCx E y p1 s m args meth c) (h1 : zmono μ0 μ) (h2 : zagr μ0 ad0 ad) (h3 : zg μ 5 = zg μ0 5 → ad = ad0) (h5 : va_S (zA E) s.heap H locs) (h6 : zlr ad y.2.2.1 ls LS)
    (hm : zmono μ ρ) (hfr : zg ρ 5 = zg μ 5 ∨ ∀ p, (some (Value.ref p) ∈ ls ∨ Value.ref p ∈ rest) → p ∈ zpl μ ∧ zstab p = true)
    (hr : va_Run p1 E.1 e (zrm (d + 1) μ0 ν) s m args below meth c H locs (zg μ 5 - zg μ0 5) (zg μ 6 - zg μ0 6) (zg ρ 5 - zg μ 5) (zg ρ 6 - zg μ 6) (F0 m pc LS st0) (rest.map (ztv ad)) (zQ E ad μ v ρ a) (zA E))
    (kk : zGo E (d + 1) y (pc + 3) ls (v.toList ++ rest) ρ r ν) :
    W p1 E.1 e (zrm (d + 1) μ0 ν) s m args below meth c H locs (zg μ 5 - zg μ0 5) (zg μ 6 - zg μ0 6) (MQ below (zQ E ad0 μ0 r ν) args s (zg ν 5 - zg μ0 5) (zg ν 6 - zg μ0 6) (zA E)) (F0 m pc LS st0) := by
  intro T hT X
  obtain ⟨v0, st₀, t, T', L, e0, X', hL, e1, e2, ⟨ad', ha, hae, hv, hW, hF⟩, st⟩ := hr T hT X
  have hc1 : zg μ 5 - zg μ0 5 + (zg ρ 5 - zg μ 5) = zg ρ 5 - zg μ0 5 := by have := h1.1; have := hm.1; omega
  have hc2 : zg μ 6 - zg μ0 6 + (zg ρ 6 - zg μ 6) = zg ρ 6 - zg μ0 6 := by have := h1.2.1; have := hm.2.1; omega
  rw [hc1, hc2] at X'
  have hv' : v0 = v.map (ztv ad') := by cases hv; rfl
  subst hv'
  have hsame : ∀ p, (some (Value.ref p) ∈ ls ∨ Value.ref p ∈ rest) → ad' p = ad p := by
    intro p hp
    rcases hfr with h | h
    · rw [hae h]
    · exact ha p (h p hp).1 (h p hp).2
  have hval : ∀ w, (some w ∈ ls ∨ w ∈ rest) → ztv ad' w = ztv ad w := by
    intro w hw
    cases w with
    | ref p => show Value.ref (ad' p) = Value.ref (ad p); rw [hsame p hw]
    | _ => rfl
  have hrest : rest.map (ztv ad) = rest.map (ztv ad') := List.map_congr_left (fun w hw => (hval w (Or.inr hw)).symm)
  have hstk : (v.map (ztv ad')).toList ++ rest.map (ztv ad) = (v.toList ++ rest).map (ztv ad') := by
    rw [hrest]
    cases v <;> rfl
  rw [hstk] at st
  unfold va_F at hF
  rw [e0] at hF
  have h3' : zg ρ 5 = zg μ0 5 → ad' = ad0 := by
    intro h
    have q1 := h1.1
    have q2 := hm.1
    rw [hae (by omega), h3 (by omega)]
  have hS' : va_S (zA E) s.heap T'.heap (locs ++ L) := ⟨Nat.le_trans h5.1 (by rw [e1]; exact hF.1), fun q g1 g2 => by rw [e1, hF.2 q (Nat.lt_of_lt_of_le g1 h5.1) g2]; exact h5.2.1 q g1 g2, fun q hq => by
    rcases List.mem_append.mp hq with h | h
    · exact h5.2.2 q h
    · exact hL q h⟩
  obtain ⟨t2, a1, b1⟩ := kk.2 p1 e s m args below meth c μ0 ad0 ad' T'.heap (locs ++ L) LS C (h1.tr hm) (h2.tr h1 ha) h3' (by rw [e1]; exact hW) hS' ⟨h6.1, h6.2.1, fun i w hi => by rw [hval w (Or.inl (List.mem_of_getElem? hi))]; exact h6.2.2 i w hi⟩ T' rfl X'
  exact ⟨t2, st t2 a1, b1⟩
theorem g_callV0 {idx ci p : Nat} {z : zY} {ρ : zMem} {v : Option Value} {rest : List Value} (hd : decode y.2.1 pc = .ok (.invokevirtual idx, 3)) (hl : zMV y.1.cls idx z 0) (hp : zat μ p ci) (hc : (vwCl[ci]?).map (fun q => q.1) = some z.1.cls) (ht : zTr E d z (.ref p :: []) μ v ρ) (hw : ((rest.map fun v => v.category).sum) ≤ 8) (hfr : zg ρ 5 = zg μ 5 ∨ ∀ p, (some (Value.ref p) ∈ ls ∨ Value.ref p ∈ rest) → p ∈ zpl μ ∧ zstab p = true) (kk : zGo E (d + 1) y (pc + 3) ls (v.toList ++ rest) ρ r ν) : zGo E (d + 1) y pc ls (.ref p :: rest) μ r ν :=
  ⟨ht.1.tr kk.1, fun p1 e s m args below meth c μ0 ad0 ad H locs LS C h1 h2 h3 h4 h5 h6 => by
    obtain ⟨hT, hn1, hn2, hn3, hn4⟩ := hl
    obtain ⟨i, hi1, hi2⟩ := zws_at (E := E) (ad := ad) hp.1
    rw [zcel_obj hp.2] at hi2
    cases hq : vwCl[ci]? with
    | none => rw [hq] at hc; cases hc
    | some q =>
      rw [hq] at hc
      have hc : q.1 = z.1.cls := Option.some.inj hc
      obtain ⟨cell, g1, g2, g3⟩ := va_recv C.2.2.2.2.2.2.2.1 h4.1 hq hi2
      rw [hc] at g3
      have hmL := Nat.le_of_ble_eq_true hn4
      have m1 := kk.1.1
      have m2 := kk.1.2.1
      have m3 := h1.1
      have m4 := h1.2.1
      have m5 := ht.1.1
      have m6 := ht.1.2.1
      refine zcall C h1 h2 h3 h5 h6 ht.1 hfr (va_runV (As := [].map (ztv ad)) (rest := rest.map (ztv ad)) ⟨C.1, C.2.1, C.2.2.1, C.2.2.2.2.2.1, C.2.2.2.2.2.2.1⟩ (ht.2 ad) (cwV 0 C.2.2.2.2.2.2.1 (zgood hT) rfl rfl rfl ⟨rfl, hn1, hn2, hn3⟩ ⟨Nat.le_refl _, by show 8 + (z.2.2.1 + 11) + 60 * d ≤ 60 * (d + 1); omega⟩) ⟨zPre_blind, ⟨cell, g1, g2, g3⟩, fun U hU hW => ⟨rfl, zPre_of C.2.2.2.2.2.2.2.1 C.2.2.2.2.2.2.2.2.1 C.2.2.2.2.2.2.2.2.2 h4 h5 hU hW⟩⟩ rfl rfl h6.1 rfl ?_ hd ⟨?_, ?_⟩) kk
      · show 2 * 0 + _ ≤ 8
        rw [List.map_map]
        rw [show (fun v : Value => v.category) ∘ ztv ad = (fun v : Value => v.category) from funext (ztv_cat ad)]
        omega
      · show _ ≤ zg ν 5 - zg μ0 5
        omega
      · show _ ≤ zg ν 6 - zg μ0 6
        omega⟩
theorem g_callV1 {idx ci p : Nat} {z : zY} {ρ : zMem} {v : Option Value} {rest : List Value} {a1 : Value} (hd : decode y.2.1 pc = .ok (.invokevirtual idx, 3)) (hl : zMV y.1.cls idx z 1) (hp : zat μ p ci) (hc : (vwCl[ci]?).map (fun q => q.1) = some z.1.cls) (ht : zTr E d z (.ref p :: [a1]) μ v ρ) (hw : ((rest.map fun v => v.category).sum) ≤ 8) (hfr : zg ρ 5 = zg μ 5 ∨ ∀ p, (some (Value.ref p) ∈ ls ∨ Value.ref p ∈ rest) → p ∈ zpl μ ∧ zstab p = true) (kk : zGo E (d + 1) y (pc + 3) ls (v.toList ++ rest) ρ r ν) : zGo E (d + 1) y pc ls (a1 :: .ref p :: rest) μ r ν :=
  ⟨ht.1.tr kk.1, fun p1 e s m args below meth c μ0 ad0 ad H locs LS C h1 h2 h3 h4 h5 h6 => by
    obtain ⟨hT, hn1, hn2, hn3, hn4⟩ := hl
    obtain ⟨i, hi1, hi2⟩ := zws_at (E := E) (ad := ad) hp.1
    rw [zcel_obj hp.2] at hi2
    cases hq : vwCl[ci]? with
    | none => rw [hq] at hc; cases hc
    | some q =>
      rw [hq] at hc
      have hc : q.1 = z.1.cls := Option.some.inj hc
      obtain ⟨cell, g1, g2, g3⟩ := va_recv C.2.2.2.2.2.2.2.1 h4.1 hq hi2
      rw [hc] at g3
      have hmL := Nat.le_of_ble_eq_true hn4
      have m1 := kk.1.1
      have m2 := kk.1.2.1
      have m3 := h1.1
      have m4 := h1.2.1
      have m5 := ht.1.1
      have m6 := ht.1.2.1
      refine zcall C h1 h2 h3 h5 h6 ht.1 hfr (va_runV (As := [a1].map (ztv ad)) (rest := rest.map (ztv ad)) ⟨C.1, C.2.1, C.2.2.1, C.2.2.2.2.2.1, C.2.2.2.2.2.2.1⟩ (ht.2 ad) (cwV 1 C.2.2.2.2.2.2.1 (zgood hT) rfl rfl rfl ⟨rfl, hn1, hn2, hn3⟩ ⟨Nat.le_refl _, by show 8 + (z.2.2.1 + 11) + 60 * d ≤ 60 * (d + 1); omega⟩) ⟨zPre_blind, ⟨cell, g1, g2, g3⟩, fun U hU hW => ⟨rfl, zPre_of C.2.2.2.2.2.2.2.1 C.2.2.2.2.2.2.2.2.1 C.2.2.2.2.2.2.2.2.2 h4 h5 hU hW⟩⟩ rfl rfl h6.1 rfl ?_ hd ⟨?_, ?_⟩) kk
      · show 2 * 0 + _ ≤ 8
        rw [List.map_map]
        rw [show (fun v : Value => v.category) ∘ ztv ad = (fun v : Value => v.category) from funext (ztv_cat ad)]
        omega
      · show _ ≤ zg ν 5 - zg μ0 5
        omega
      · show _ ≤ zg ν 6 - zg μ0 6
        omega⟩
theorem g_callV2 {idx ci p : Nat} {z : zY} {ρ : zMem} {v : Option Value} {rest : List Value} {a1 a2 : Value} (hd : decode y.2.1 pc = .ok (.invokevirtual idx, 3)) (hl : zMV y.1.cls idx z 2) (hp : zat μ p ci) (hc : (vwCl[ci]?).map (fun q => q.1) = some z.1.cls) (ht : zTr E d z (.ref p :: [a1, a2]) μ v ρ) (hw : ((rest.map fun v => v.category).sum) ≤ 8) (hfr : zg ρ 5 = zg μ 5 ∨ ∀ p, (some (Value.ref p) ∈ ls ∨ Value.ref p ∈ rest) → p ∈ zpl μ ∧ zstab p = true) (kk : zGo E (d + 1) y (pc + 3) ls (v.toList ++ rest) ρ r ν) : zGo E (d + 1) y pc ls (a2 :: a1 :: .ref p :: rest) μ r ν :=
  ⟨ht.1.tr kk.1, fun p1 e s m args below meth c μ0 ad0 ad H locs LS C h1 h2 h3 h4 h5 h6 => by
    obtain ⟨hT, hn1, hn2, hn3, hn4⟩ := hl
    obtain ⟨i, hi1, hi2⟩ := zws_at (E := E) (ad := ad) hp.1
    rw [zcel_obj hp.2] at hi2
    cases hq : vwCl[ci]? with
    | none => rw [hq] at hc; cases hc
    | some q =>
      rw [hq] at hc
      have hc : q.1 = z.1.cls := Option.some.inj hc
      obtain ⟨cell, g1, g2, g3⟩ := va_recv C.2.2.2.2.2.2.2.1 h4.1 hq hi2
      rw [hc] at g3
      have hmL := Nat.le_of_ble_eq_true hn4
      have m1 := kk.1.1
      have m2 := kk.1.2.1
      have m3 := h1.1
      have m4 := h1.2.1
      have m5 := ht.1.1
      have m6 := ht.1.2.1
      refine zcall C h1 h2 h3 h5 h6 ht.1 hfr (va_runV (As := [a1, a2].map (ztv ad)) (rest := rest.map (ztv ad)) ⟨C.1, C.2.1, C.2.2.1, C.2.2.2.2.2.1, C.2.2.2.2.2.2.1⟩ (ht.2 ad) (cwV 2 C.2.2.2.2.2.2.1 (zgood hT) rfl rfl rfl ⟨rfl, hn1, hn2, hn3⟩ ⟨Nat.le_refl _, by show 8 + (z.2.2.1 + 11) + 60 * d ≤ 60 * (d + 1); omega⟩) ⟨zPre_blind, ⟨cell, g1, g2, g3⟩, fun U hU hW => ⟨rfl, zPre_of C.2.2.2.2.2.2.2.1 C.2.2.2.2.2.2.2.2.1 C.2.2.2.2.2.2.2.2.2 h4 h5 hU hW⟩⟩ rfl rfl h6.1 rfl ?_ hd ⟨?_, ?_⟩) kk
      · show 2 * 0 + _ ≤ 8
        rw [List.map_map]
        rw [show (fun v : Value => v.category) ∘ ztv ad = (fun v : Value => v.category) from funext (ztv_cat ad)]
        omega
      · show _ ≤ zg ν 5 - zg μ0 5
        omega
      · show _ ≤ zg ν 6 - zg μ0 6
        omega⟩
theorem g_callV3 {idx ci p : Nat} {z : zY} {ρ : zMem} {v : Option Value} {rest : List Value} {a1 a2 a3 : Value} (hd : decode y.2.1 pc = .ok (.invokevirtual idx, 3)) (hl : zMV y.1.cls idx z 3) (hp : zat μ p ci) (hc : (vwCl[ci]?).map (fun q => q.1) = some z.1.cls) (ht : zTr E d z (.ref p :: [a1, a2, a3]) μ v ρ) (hw : ((rest.map fun v => v.category).sum) ≤ 8) (hfr : zg ρ 5 = zg μ 5 ∨ ∀ p, (some (Value.ref p) ∈ ls ∨ Value.ref p ∈ rest) → p ∈ zpl μ ∧ zstab p = true) (kk : zGo E (d + 1) y (pc + 3) ls (v.toList ++ rest) ρ r ν) : zGo E (d + 1) y pc ls (a3 :: a2 :: a1 :: .ref p :: rest) μ r ν :=
  ⟨ht.1.tr kk.1, fun p1 e s m args below meth c μ0 ad0 ad H locs LS C h1 h2 h3 h4 h5 h6 => by
    obtain ⟨hT, hn1, hn2, hn3, hn4⟩ := hl
    obtain ⟨i, hi1, hi2⟩ := zws_at (E := E) (ad := ad) hp.1
    rw [zcel_obj hp.2] at hi2
    cases hq : vwCl[ci]? with
    | none => rw [hq] at hc; cases hc
    | some q =>
      rw [hq] at hc
      have hc : q.1 = z.1.cls := Option.some.inj hc
      obtain ⟨cell, g1, g2, g3⟩ := va_recv C.2.2.2.2.2.2.2.1 h4.1 hq hi2
      rw [hc] at g3
      have hmL := Nat.le_of_ble_eq_true hn4
      have m1 := kk.1.1
      have m2 := kk.1.2.1
      have m3 := h1.1
      have m4 := h1.2.1
      have m5 := ht.1.1
      have m6 := ht.1.2.1
      refine zcall C h1 h2 h3 h5 h6 ht.1 hfr (va_runV (As := [a1, a2, a3].map (ztv ad)) (rest := rest.map (ztv ad)) ⟨C.1, C.2.1, C.2.2.1, C.2.2.2.2.2.1, C.2.2.2.2.2.2.1⟩ (ht.2 ad) (cwV 3 C.2.2.2.2.2.2.1 (zgood hT) rfl rfl rfl ⟨rfl, hn1, hn2, hn3⟩ ⟨Nat.le_refl _, by show 8 + (z.2.2.1 + 11) + 60 * d ≤ 60 * (d + 1); omega⟩) ⟨zPre_blind, ⟨cell, g1, g2, g3⟩, fun U hU hW => ⟨rfl, zPre_of C.2.2.2.2.2.2.2.1 C.2.2.2.2.2.2.2.2.1 C.2.2.2.2.2.2.2.2.2 h4 h5 hU hW⟩⟩ rfl rfl h6.1 rfl ?_ hd ⟨?_, ?_⟩) kk
      · show 2 * 0 + _ ≤ 8
        rw [List.map_map]
        rw [show (fun v : Value => v.category) ∘ ztv ad = (fun v : Value => v.category) from funext (ztv_cat ad)]
        omega
      · show _ ≤ zg ν 5 - zg μ0 5
        omega
      · show _ ≤ zg ν 6 - zg μ0 6
        omega⟩
theorem g_callV4 {idx ci p : Nat} {z : zY} {ρ : zMem} {v : Option Value} {rest : List Value} {a1 a2 a3 a4 : Value} (hd : decode y.2.1 pc = .ok (.invokevirtual idx, 3)) (hl : zMV y.1.cls idx z 4) (hp : zat μ p ci) (hc : (vwCl[ci]?).map (fun q => q.1) = some z.1.cls) (ht : zTr E d z (.ref p :: [a1, a2, a3, a4]) μ v ρ) (hw : ((rest.map fun v => v.category).sum) ≤ 8) (hfr : zg ρ 5 = zg μ 5 ∨ ∀ p, (some (Value.ref p) ∈ ls ∨ Value.ref p ∈ rest) → p ∈ zpl μ ∧ zstab p = true) (kk : zGo E (d + 1) y (pc + 3) ls (v.toList ++ rest) ρ r ν) : zGo E (d + 1) y pc ls (a4 :: a3 :: a2 :: a1 :: .ref p :: rest) μ r ν :=
  ⟨ht.1.tr kk.1, fun p1 e s m args below meth c μ0 ad0 ad H locs LS C h1 h2 h3 h4 h5 h6 => by
    obtain ⟨hT, hn1, hn2, hn3, hn4⟩ := hl
    obtain ⟨i, hi1, hi2⟩ := zws_at (E := E) (ad := ad) hp.1
    rw [zcel_obj hp.2] at hi2
    cases hq : vwCl[ci]? with
    | none => rw [hq] at hc; cases hc
    | some q =>
      rw [hq] at hc
      have hc : q.1 = z.1.cls := Option.some.inj hc
      obtain ⟨cell, g1, g2, g3⟩ := va_recv C.2.2.2.2.2.2.2.1 h4.1 hq hi2
      rw [hc] at g3
      have hmL := Nat.le_of_ble_eq_true hn4
      have m1 := kk.1.1
      have m2 := kk.1.2.1
      have m3 := h1.1
      have m4 := h1.2.1
      have m5 := ht.1.1
      have m6 := ht.1.2.1
      refine zcall C h1 h2 h3 h5 h6 ht.1 hfr (va_runV (As := [a1, a2, a3, a4].map (ztv ad)) (rest := rest.map (ztv ad)) ⟨C.1, C.2.1, C.2.2.1, C.2.2.2.2.2.1, C.2.2.2.2.2.2.1⟩ (ht.2 ad) (cwV 4 C.2.2.2.2.2.2.1 (zgood hT) rfl rfl rfl ⟨rfl, hn1, hn2, hn3⟩ ⟨Nat.le_refl _, by show 8 + (z.2.2.1 + 11) + 60 * d ≤ 60 * (d + 1); omega⟩) ⟨zPre_blind, ⟨cell, g1, g2, g3⟩, fun U hU hW => ⟨rfl, zPre_of C.2.2.2.2.2.2.2.1 C.2.2.2.2.2.2.2.2.1 C.2.2.2.2.2.2.2.2.2 h4 h5 hU hW⟩⟩ rfl rfl h6.1 rfl ?_ hd ⟨?_, ?_⟩) kk
      · show 2 * 0 + _ ≤ 8
        rw [List.map_map]
        rw [show (fun v : Value => v.category) ∘ ztv ad = (fun v : Value => v.category) from funext (ztv_cat ad)]
        omega
      · show _ ≤ zg ν 5 - zg μ0 5
        omega
      · show _ ≤ zg ν 6 - zg μ0 6
        omega⟩
theorem g_callV5 {idx ci p : Nat} {z : zY} {ρ : zMem} {v : Option Value} {rest : List Value} {a1 a2 a3 a4 a5 : Value} (hd : decode y.2.1 pc = .ok (.invokevirtual idx, 3)) (hl : zMV y.1.cls idx z 5) (hp : zat μ p ci) (hc : (vwCl[ci]?).map (fun q => q.1) = some z.1.cls) (ht : zTr E d z (.ref p :: [a1, a2, a3, a4, a5]) μ v ρ) (hw : ((rest.map fun v => v.category).sum) ≤ 8) (hfr : zg ρ 5 = zg μ 5 ∨ ∀ p, (some (Value.ref p) ∈ ls ∨ Value.ref p ∈ rest) → p ∈ zpl μ ∧ zstab p = true) (kk : zGo E (d + 1) y (pc + 3) ls (v.toList ++ rest) ρ r ν) : zGo E (d + 1) y pc ls (a5 :: a4 :: a3 :: a2 :: a1 :: .ref p :: rest) μ r ν :=
  ⟨ht.1.tr kk.1, fun p1 e s m args below meth c μ0 ad0 ad H locs LS C h1 h2 h3 h4 h5 h6 => by
    obtain ⟨hT, hn1, hn2, hn3, hn4⟩ := hl
    obtain ⟨i, hi1, hi2⟩ := zws_at (E := E) (ad := ad) hp.1
    rw [zcel_obj hp.2] at hi2
    cases hq : vwCl[ci]? with
    | none => rw [hq] at hc; cases hc
    | some q =>
      rw [hq] at hc
      have hc : q.1 = z.1.cls := Option.some.inj hc
      obtain ⟨cell, g1, g2, g3⟩ := va_recv C.2.2.2.2.2.2.2.1 h4.1 hq hi2
      rw [hc] at g3
      have hmL := Nat.le_of_ble_eq_true hn4
      have m1 := kk.1.1
      have m2 := kk.1.2.1
      have m3 := h1.1
      have m4 := h1.2.1
      have m5 := ht.1.1
      have m6 := ht.1.2.1
      refine zcall C h1 h2 h3 h5 h6 ht.1 hfr (va_runV (As := [a1, a2, a3, a4, a5].map (ztv ad)) (rest := rest.map (ztv ad)) ⟨C.1, C.2.1, C.2.2.1, C.2.2.2.2.2.1, C.2.2.2.2.2.2.1⟩ (ht.2 ad) (cwV 5 C.2.2.2.2.2.2.1 (zgood hT) rfl rfl rfl ⟨rfl, hn1, hn2, hn3⟩ ⟨Nat.le_refl _, by show 8 + (z.2.2.1 + 11) + 60 * d ≤ 60 * (d + 1); omega⟩) ⟨zPre_blind, ⟨cell, g1, g2, g3⟩, fun U hU hW => ⟨rfl, zPre_of C.2.2.2.2.2.2.2.1 C.2.2.2.2.2.2.2.2.1 C.2.2.2.2.2.2.2.2.2 h4 h5 hU hW⟩⟩ rfl rfl h6.1 rfl ?_ hd ⟨?_, ?_⟩) kk
      · show 2 * 0 + _ ≤ 8
        rw [List.map_map]
        rw [show (fun v : Value => v.category) ∘ ztv ad = (fun v : Value => v.category) from funext (ztv_cat ad)]
        omega
      · show _ ≤ zg ν 5 - zg μ0 5
        omega
      · show _ ≤ zg ν 6 - zg μ0 6
        omega⟩
theorem g_callS0 {idx : Nat} {z : zY} {ρ : zMem} {v : Option Value} {rest : List Value} (hd : decode y.2.1 pc = .ok (.invokestatic idx, 3)) (hl : zMS y.1.cls idx z 0) (ht : zTr E d z [] μ v ρ) (hw : ((rest.map fun v => v.category).sum) ≤ 8) (hfr : zg ρ 5 = zg μ 5 ∨ ∀ p, (some (Value.ref p) ∈ ls ∨ Value.ref p ∈ rest) → p ∈ zpl μ ∧ zstab p = true) (kk : zGo E (d + 1) y (pc + 3) ls (v.toList ++ rest) ρ r ν) : zGo E (d + 1) y pc ls (rest) μ r ν :=
  ⟨ht.1.tr kk.1, fun p1 e s m args below meth c μ0 ad0 ad H locs LS C h1 h2 h3 h4 h5 h6 => by
    obtain ⟨hT, hn1, hn2, hn3, hn4⟩ := hl
    have hmL := Nat.le_of_ble_eq_true hn4
    have m1 := kk.1.1
    have m2 := kk.1.2.1
    have m3 := h1.1
    have m4 := h1.2.1
    have m5 := ht.1.1
    have m6 := ht.1.2.1
    refine zcall C h1 h2 h3 h5 h6 ht.1 hfr (va_runS (As := [].map (ztv ad)) (rest := rest.map (ztv ad)) ⟨C.1, C.2.1, C.2.2.1, C.2.2.2.2.2.1, C.2.2.2.2.2.2.1⟩ (ht.2 ad) (va_cwS 0 C.2.2.2.2.2.2.1 (zgood hT) rfl rfl rfl ⟨hn1, hn2, hn3⟩ ⟨Nat.le_refl _, by show 8 + (z.2.2.1 + 11) + 60 * d ≤ 60 * (d + 1); omega⟩) ⟨zPre_blind, fun U hU hW => ⟨rfl, zPre_of C.2.2.2.2.2.2.2.1 C.2.2.2.2.2.2.2.2.1 C.2.2.2.2.2.2.2.2.2 h4 h5 hU hW⟩⟩ rfl rfl h6.1 rfl ?_ hd ⟨?_, ?_⟩) kk
    · show 2 * 0 + _ ≤ 8
      rw [List.map_map]
      rw [show (fun v : Value => v.category) ∘ ztv ad = (fun v : Value => v.category) from funext (ztv_cat ad)]
      omega
    · show _ ≤ zg ν 5 - zg μ0 5
      omega
    · show _ ≤ zg ν 6 - zg μ0 6
      omega⟩
theorem g_callS1 {idx : Nat} {z : zY} {ρ : zMem} {v : Option Value} {rest : List Value} {a1 : Value} (hd : decode y.2.1 pc = .ok (.invokestatic idx, 3)) (hl : zMS y.1.cls idx z 1) (ht : zTr E d z [a1] μ v ρ) (hw : ((rest.map fun v => v.category).sum) ≤ 8) (hfr : zg ρ 5 = zg μ 5 ∨ ∀ p, (some (Value.ref p) ∈ ls ∨ Value.ref p ∈ rest) → p ∈ zpl μ ∧ zstab p = true) (kk : zGo E (d + 1) y (pc + 3) ls (v.toList ++ rest) ρ r ν) : zGo E (d + 1) y pc ls (a1 :: rest) μ r ν :=
  ⟨ht.1.tr kk.1, fun p1 e s m args below meth c μ0 ad0 ad H locs LS C h1 h2 h3 h4 h5 h6 => by
    obtain ⟨hT, hn1, hn2, hn3, hn4⟩ := hl
    have hmL := Nat.le_of_ble_eq_true hn4
    have m1 := kk.1.1
    have m2 := kk.1.2.1
    have m3 := h1.1
    have m4 := h1.2.1
    have m5 := ht.1.1
    have m6 := ht.1.2.1
    refine zcall C h1 h2 h3 h5 h6 ht.1 hfr (va_runS (As := [a1].map (ztv ad)) (rest := rest.map (ztv ad)) ⟨C.1, C.2.1, C.2.2.1, C.2.2.2.2.2.1, C.2.2.2.2.2.2.1⟩ (ht.2 ad) (va_cwS 1 C.2.2.2.2.2.2.1 (zgood hT) rfl rfl rfl ⟨hn1, hn2, hn3⟩ ⟨Nat.le_refl _, by show 8 + (z.2.2.1 + 11) + 60 * d ≤ 60 * (d + 1); omega⟩) ⟨zPre_blind, fun U hU hW => ⟨rfl, zPre_of C.2.2.2.2.2.2.2.1 C.2.2.2.2.2.2.2.2.1 C.2.2.2.2.2.2.2.2.2 h4 h5 hU hW⟩⟩ rfl rfl h6.1 rfl ?_ hd ⟨?_, ?_⟩) kk
    · show 2 * 0 + _ ≤ 8
      rw [List.map_map]
      rw [show (fun v : Value => v.category) ∘ ztv ad = (fun v : Value => v.category) from funext (ztv_cat ad)]
      omega
    · show _ ≤ zg ν 5 - zg μ0 5
      omega
    · show _ ≤ zg ν 6 - zg μ0 6
      omega⟩
theorem g_callS2 {idx : Nat} {z : zY} {ρ : zMem} {v : Option Value} {rest : List Value} {a1 a2 : Value} (hd : decode y.2.1 pc = .ok (.invokestatic idx, 3)) (hl : zMS y.1.cls idx z 2) (ht : zTr E d z [a1, a2] μ v ρ) (hw : ((rest.map fun v => v.category).sum) ≤ 8) (hfr : zg ρ 5 = zg μ 5 ∨ ∀ p, (some (Value.ref p) ∈ ls ∨ Value.ref p ∈ rest) → p ∈ zpl μ ∧ zstab p = true) (kk : zGo E (d + 1) y (pc + 3) ls (v.toList ++ rest) ρ r ν) : zGo E (d + 1) y pc ls (a2 :: a1 :: rest) μ r ν :=
  ⟨ht.1.tr kk.1, fun p1 e s m args below meth c μ0 ad0 ad H locs LS C h1 h2 h3 h4 h5 h6 => by
    obtain ⟨hT, hn1, hn2, hn3, hn4⟩ := hl
    have hmL := Nat.le_of_ble_eq_true hn4
    have m1 := kk.1.1
    have m2 := kk.1.2.1
    have m3 := h1.1
    have m4 := h1.2.1
    have m5 := ht.1.1
    have m6 := ht.1.2.1
    refine zcall C h1 h2 h3 h5 h6 ht.1 hfr (va_runS (As := [a1, a2].map (ztv ad)) (rest := rest.map (ztv ad)) ⟨C.1, C.2.1, C.2.2.1, C.2.2.2.2.2.1, C.2.2.2.2.2.2.1⟩ (ht.2 ad) (va_cwS 2 C.2.2.2.2.2.2.1 (zgood hT) rfl rfl rfl ⟨hn1, hn2, hn3⟩ ⟨Nat.le_refl _, by show 8 + (z.2.2.1 + 11) + 60 * d ≤ 60 * (d + 1); omega⟩) ⟨zPre_blind, fun U hU hW => ⟨rfl, zPre_of C.2.2.2.2.2.2.2.1 C.2.2.2.2.2.2.2.2.1 C.2.2.2.2.2.2.2.2.2 h4 h5 hU hW⟩⟩ rfl rfl h6.1 rfl ?_ hd ⟨?_, ?_⟩) kk
    · show 2 * 0 + _ ≤ 8
      rw [List.map_map]
      rw [show (fun v : Value => v.category) ∘ ztv ad = (fun v : Value => v.category) from funext (ztv_cat ad)]
      omega
    · show _ ≤ zg ν 5 - zg μ0 5
      omega
    · show _ ≤ zg ν 6 - zg μ0 6
      omega⟩
theorem g_callS3 {idx : Nat} {z : zY} {ρ : zMem} {v : Option Value} {rest : List Value} {a1 a2 a3 : Value} (hd : decode y.2.1 pc = .ok (.invokestatic idx, 3)) (hl : zMS y.1.cls idx z 3) (ht : zTr E d z [a1, a2, a3] μ v ρ) (hw : ((rest.map fun v => v.category).sum) ≤ 8) (hfr : zg ρ 5 = zg μ 5 ∨ ∀ p, (some (Value.ref p) ∈ ls ∨ Value.ref p ∈ rest) → p ∈ zpl μ ∧ zstab p = true) (kk : zGo E (d + 1) y (pc + 3) ls (v.toList ++ rest) ρ r ν) : zGo E (d + 1) y pc ls (a3 :: a2 :: a1 :: rest) μ r ν :=
  ⟨ht.1.tr kk.1, fun p1 e s m args below meth c μ0 ad0 ad H locs LS C h1 h2 h3 h4 h5 h6 => by
    obtain ⟨hT, hn1, hn2, hn3, hn4⟩ := hl
    have hmL := Nat.le_of_ble_eq_true hn4
    have m1 := kk.1.1
    have m2 := kk.1.2.1
    have m3 := h1.1
    have m4 := h1.2.1
    have m5 := ht.1.1
    have m6 := ht.1.2.1
    refine zcall C h1 h2 h3 h5 h6 ht.1 hfr (va_runS (As := [a1, a2, a3].map (ztv ad)) (rest := rest.map (ztv ad)) ⟨C.1, C.2.1, C.2.2.1, C.2.2.2.2.2.1, C.2.2.2.2.2.2.1⟩ (ht.2 ad) (va_cwS 3 C.2.2.2.2.2.2.1 (zgood hT) rfl rfl rfl ⟨hn1, hn2, hn3⟩ ⟨Nat.le_refl _, by show 8 + (z.2.2.1 + 11) + 60 * d ≤ 60 * (d + 1); omega⟩) ⟨zPre_blind, fun U hU hW => ⟨rfl, zPre_of C.2.2.2.2.2.2.2.1 C.2.2.2.2.2.2.2.2.1 C.2.2.2.2.2.2.2.2.2 h4 h5 hU hW⟩⟩ rfl rfl h6.1 rfl ?_ hd ⟨?_, ?_⟩) kk
    · show 2 * 0 + _ ≤ 8
      rw [List.map_map]
      rw [show (fun v : Value => v.category) ∘ ztv ad = (fun v : Value => v.category) from funext (ztv_cat ad)]
      omega
    · show _ ≤ zg ν 5 - zg μ0 5
      omega
    · show _ ≤ zg ν 6 - zg μ0 6
      omega⟩
theorem g_callS4 {idx : Nat} {z : zY} {ρ : zMem} {v : Option Value} {rest : List Value} {a1 a2 a3 a4 : Value} (hd : decode y.2.1 pc = .ok (.invokestatic idx, 3)) (hl : zMS y.1.cls idx z 4) (ht : zTr E d z [a1, a2, a3, a4] μ v ρ) (hw : ((rest.map fun v => v.category).sum) ≤ 8) (hfr : zg ρ 5 = zg μ 5 ∨ ∀ p, (some (Value.ref p) ∈ ls ∨ Value.ref p ∈ rest) → p ∈ zpl μ ∧ zstab p = true) (kk : zGo E (d + 1) y (pc + 3) ls (v.toList ++ rest) ρ r ν) : zGo E (d + 1) y pc ls (a4 :: a3 :: a2 :: a1 :: rest) μ r ν :=
  ⟨ht.1.tr kk.1, fun p1 e s m args below meth c μ0 ad0 ad H locs LS C h1 h2 h3 h4 h5 h6 => by
    obtain ⟨hT, hn1, hn2, hn3, hn4⟩ := hl
    have hmL := Nat.le_of_ble_eq_true hn4
    have m1 := kk.1.1
    have m2 := kk.1.2.1
    have m3 := h1.1
    have m4 := h1.2.1
    have m5 := ht.1.1
    have m6 := ht.1.2.1
    refine zcall C h1 h2 h3 h5 h6 ht.1 hfr (va_runS (As := [a1, a2, a3, a4].map (ztv ad)) (rest := rest.map (ztv ad)) ⟨C.1, C.2.1, C.2.2.1, C.2.2.2.2.2.1, C.2.2.2.2.2.2.1⟩ (ht.2 ad) (va_cwS 4 C.2.2.2.2.2.2.1 (zgood hT) rfl rfl rfl ⟨hn1, hn2, hn3⟩ ⟨Nat.le_refl _, by show 8 + (z.2.2.1 + 11) + 60 * d ≤ 60 * (d + 1); omega⟩) ⟨zPre_blind, fun U hU hW => ⟨rfl, zPre_of C.2.2.2.2.2.2.2.1 C.2.2.2.2.2.2.2.2.1 C.2.2.2.2.2.2.2.2.2 h4 h5 hU hW⟩⟩ rfl rfl h6.1 rfl ?_ hd ⟨?_, ?_⟩) kk
    · show 2 * 0 + _ ≤ 8
      rw [List.map_map]
      rw [show (fun v : Value => v.category) ∘ ztv ad = (fun v : Value => v.category) from funext (ztv_cat ad)]
      omega
    · show _ ≤ zg ν 5 - zg μ0 5
      omega
    · show _ ≤ zg ν 6 - zg μ0 6
      omega⟩
theorem g_callN0 {idx : Nat} {z : zY} {ρ : zMem} {v : Option Value} {rest : List Value} {host : String} (hd : decode y.2.1 pc = .ok (.invokestatic idx, 3)) (hl : zMN y.1.cls idx z 0 host) (ht : zTr E d z [] μ v ρ) (hw : ((rest.map fun v => v.category).sum) ≤ 8) (hfr : zg ρ 5 = zg μ 5 ∨ ∀ p, (some (Value.ref p) ∈ ls ∨ Value.ref p ∈ rest) → p ∈ zpl μ ∧ zstab p = true) (kk : zGo E (d + 1) y (pc + 3) ls (v.toList ++ rest) ρ r ν) : zGo E (d + 1) y pc ls (rest) μ r ν :=
  ⟨ht.1.tr kk.1, fun p1 e s m args below meth c μ0 ad0 ad H locs LS C h1 h2 h3 h4 h5 h6 => by
    obtain ⟨hNe, hT, hn1, hn2, hn3, hn4⟩ := hl
    have hmL := Nat.le_of_ble_eq_true hn4
    have m1 := kk.1.1
    have m2 := kk.1.2.1
    have m3 := h1.1
    have m4 := h1.2.1
    have m5 := ht.1.1
    have m6 := ht.1.2.1
    have ok : ∀ w ∈ ([.static z.1, .initialized z.1.cls] : List Cond) ++ zwd z, w.before args s = true := fun w h => C.2.2.2.2.2.2.1 w (hT w h)
    refine zcall C h1 h2 h3 h5 h6 ht.1 hfr (va_runSN (host := host) (As := [].map (ztv ad)) (rest := rest.map (ztv ad)) ⟨C.1, C.2.1, C.2.2.1, C.2.2.2.2.2.1, C.2.2.2.2.2.2.1⟩ (ht.2 ad) ⟨va_cnB 0 C.2.2.2.2.2.2.1 (zgood (fun w h => hT w (List.mem_append_right _ h))) rfl rfl rfl (C.2.2.2.2.2.2.2.2.2.1 _ hNe) (ok _ (by simp)) ⟨hn1, hn2, hn3⟩ ⟨Nat.le_refl _, by show 8 + (z.2.2.1 + 11) + 60 * d ≤ 60 * (d + 1); omega⟩, ok _ (by simp), trivial⟩ ⟨zPre_blind, fun U hU hW => ⟨rfl, zPre_of C.2.2.2.2.2.2.2.1 C.2.2.2.2.2.2.2.2.1 C.2.2.2.2.2.2.2.2.2 h4 h5 hU hW⟩⟩ rfl rfl h6.1 rfl ?_ hd ⟨?_, ?_⟩) kk
    · show 2 * 0 + _ ≤ 8
      rw [List.map_map]
      rw [show (fun v : Value => v.category) ∘ ztv ad = (fun v : Value => v.category) from funext (ztv_cat ad)]
      omega
    · show _ ≤ zg ν 5 - zg μ0 5
      omega
    · show _ ≤ zg ν 6 - zg μ0 6
      omega⟩
theorem g_callN1 {idx : Nat} {z : zY} {ρ : zMem} {v : Option Value} {rest : List Value} {host : String} {a1 : Value} (hd : decode y.2.1 pc = .ok (.invokestatic idx, 3)) (hl : zMN y.1.cls idx z 1 host) (ht : zTr E d z [a1] μ v ρ) (hw : ((rest.map fun v => v.category).sum) ≤ 8) (hfr : zg ρ 5 = zg μ 5 ∨ ∀ p, (some (Value.ref p) ∈ ls ∨ Value.ref p ∈ rest) → p ∈ zpl μ ∧ zstab p = true) (kk : zGo E (d + 1) y (pc + 3) ls (v.toList ++ rest) ρ r ν) : zGo E (d + 1) y pc ls (a1 :: rest) μ r ν :=
  ⟨ht.1.tr kk.1, fun p1 e s m args below meth c μ0 ad0 ad H locs LS C h1 h2 h3 h4 h5 h6 => by
    obtain ⟨hNe, hT, hn1, hn2, hn3, hn4⟩ := hl
    have hmL := Nat.le_of_ble_eq_true hn4
    have m1 := kk.1.1
    have m2 := kk.1.2.1
    have m3 := h1.1
    have m4 := h1.2.1
    have m5 := ht.1.1
    have m6 := ht.1.2.1
    have ok : ∀ w ∈ ([.static z.1, .initialized z.1.cls] : List Cond) ++ zwd z, w.before args s = true := fun w h => C.2.2.2.2.2.2.1 w (hT w h)
    refine zcall C h1 h2 h3 h5 h6 ht.1 hfr (va_runSN (host := host) (As := [a1].map (ztv ad)) (rest := rest.map (ztv ad)) ⟨C.1, C.2.1, C.2.2.1, C.2.2.2.2.2.1, C.2.2.2.2.2.2.1⟩ (ht.2 ad) ⟨va_cnB 1 C.2.2.2.2.2.2.1 (zgood (fun w h => hT w (List.mem_append_right _ h))) rfl rfl rfl (C.2.2.2.2.2.2.2.2.2.1 _ hNe) (ok _ (by simp)) ⟨hn1, hn2, hn3⟩ ⟨Nat.le_refl _, by show 8 + (z.2.2.1 + 11) + 60 * d ≤ 60 * (d + 1); omega⟩, ok _ (by simp), trivial⟩ ⟨zPre_blind, fun U hU hW => ⟨rfl, zPre_of C.2.2.2.2.2.2.2.1 C.2.2.2.2.2.2.2.2.1 C.2.2.2.2.2.2.2.2.2 h4 h5 hU hW⟩⟩ rfl rfl h6.1 rfl ?_ hd ⟨?_, ?_⟩) kk
    · show 2 * 0 + _ ≤ 8
      rw [List.map_map]
      rw [show (fun v : Value => v.category) ∘ ztv ad = (fun v : Value => v.category) from funext (ztv_cat ad)]
      omega
    · show _ ≤ zg ν 5 - zg μ0 5
      omega
    · show _ ≤ zg ν 6 - zg μ0 6
      omega⟩
theorem g_callN2 {idx : Nat} {z : zY} {ρ : zMem} {v : Option Value} {rest : List Value} {host : String} {a1 a2 : Value} (hd : decode y.2.1 pc = .ok (.invokestatic idx, 3)) (hl : zMN y.1.cls idx z 2 host) (ht : zTr E d z [a1, a2] μ v ρ) (hw : ((rest.map fun v => v.category).sum) ≤ 8) (hfr : zg ρ 5 = zg μ 5 ∨ ∀ p, (some (Value.ref p) ∈ ls ∨ Value.ref p ∈ rest) → p ∈ zpl μ ∧ zstab p = true) (kk : zGo E (d + 1) y (pc + 3) ls (v.toList ++ rest) ρ r ν) : zGo E (d + 1) y pc ls (a2 :: a1 :: rest) μ r ν :=
  ⟨ht.1.tr kk.1, fun p1 e s m args below meth c μ0 ad0 ad H locs LS C h1 h2 h3 h4 h5 h6 => by
    obtain ⟨hNe, hT, hn1, hn2, hn3, hn4⟩ := hl
    have hmL := Nat.le_of_ble_eq_true hn4
    have m1 := kk.1.1
    have m2 := kk.1.2.1
    have m3 := h1.1
    have m4 := h1.2.1
    have m5 := ht.1.1
    have m6 := ht.1.2.1
    have ok : ∀ w ∈ ([.static z.1, .initialized z.1.cls] : List Cond) ++ zwd z, w.before args s = true := fun w h => C.2.2.2.2.2.2.1 w (hT w h)
    refine zcall C h1 h2 h3 h5 h6 ht.1 hfr (va_runSN (host := host) (As := [a1, a2].map (ztv ad)) (rest := rest.map (ztv ad)) ⟨C.1, C.2.1, C.2.2.1, C.2.2.2.2.2.1, C.2.2.2.2.2.2.1⟩ (ht.2 ad) ⟨va_cnB 2 C.2.2.2.2.2.2.1 (zgood (fun w h => hT w (List.mem_append_right _ h))) rfl rfl rfl (C.2.2.2.2.2.2.2.2.2.1 _ hNe) (ok _ (by simp)) ⟨hn1, hn2, hn3⟩ ⟨Nat.le_refl _, by show 8 + (z.2.2.1 + 11) + 60 * d ≤ 60 * (d + 1); omega⟩, ok _ (by simp), trivial⟩ ⟨zPre_blind, fun U hU hW => ⟨rfl, zPre_of C.2.2.2.2.2.2.2.1 C.2.2.2.2.2.2.2.2.1 C.2.2.2.2.2.2.2.2.2 h4 h5 hU hW⟩⟩ rfl rfl h6.1 rfl ?_ hd ⟨?_, ?_⟩) kk
    · show 2 * 0 + _ ≤ 8
      rw [List.map_map]
      rw [show (fun v : Value => v.category) ∘ ztv ad = (fun v : Value => v.category) from funext (ztv_cat ad)]
      omega
    · show _ ≤ zg ν 5 - zg μ0 5
      omega
    · show _ ≤ zg ν 6 - zg μ0 6
      omega⟩
theorem g_callN3 {idx : Nat} {z : zY} {ρ : zMem} {v : Option Value} {rest : List Value} {host : String} {a1 a2 a3 : Value} (hd : decode y.2.1 pc = .ok (.invokestatic idx, 3)) (hl : zMN y.1.cls idx z 3 host) (ht : zTr E d z [a1, a2, a3] μ v ρ) (hw : ((rest.map fun v => v.category).sum) ≤ 8) (hfr : zg ρ 5 = zg μ 5 ∨ ∀ p, (some (Value.ref p) ∈ ls ∨ Value.ref p ∈ rest) → p ∈ zpl μ ∧ zstab p = true) (kk : zGo E (d + 1) y (pc + 3) ls (v.toList ++ rest) ρ r ν) : zGo E (d + 1) y pc ls (a3 :: a2 :: a1 :: rest) μ r ν :=
  ⟨ht.1.tr kk.1, fun p1 e s m args below meth c μ0 ad0 ad H locs LS C h1 h2 h3 h4 h5 h6 => by
    obtain ⟨hNe, hT, hn1, hn2, hn3, hn4⟩ := hl
    have hmL := Nat.le_of_ble_eq_true hn4
    have m1 := kk.1.1
    have m2 := kk.1.2.1
    have m3 := h1.1
    have m4 := h1.2.1
    have m5 := ht.1.1
    have m6 := ht.1.2.1
    have ok : ∀ w ∈ ([.static z.1, .initialized z.1.cls] : List Cond) ++ zwd z, w.before args s = true := fun w h => C.2.2.2.2.2.2.1 w (hT w h)
    refine zcall C h1 h2 h3 h5 h6 ht.1 hfr (va_runSN (host := host) (As := [a1, a2, a3].map (ztv ad)) (rest := rest.map (ztv ad)) ⟨C.1, C.2.1, C.2.2.1, C.2.2.2.2.2.1, C.2.2.2.2.2.2.1⟩ (ht.2 ad) ⟨va_cnB 3 C.2.2.2.2.2.2.1 (zgood (fun w h => hT w (List.mem_append_right _ h))) rfl rfl rfl (C.2.2.2.2.2.2.2.2.2.1 _ hNe) (ok _ (by simp)) ⟨hn1, hn2, hn3⟩ ⟨Nat.le_refl _, by show 8 + (z.2.2.1 + 11) + 60 * d ≤ 60 * (d + 1); omega⟩, ok _ (by simp), trivial⟩ ⟨zPre_blind, fun U hU hW => ⟨rfl, zPre_of C.2.2.2.2.2.2.2.1 C.2.2.2.2.2.2.2.2.1 C.2.2.2.2.2.2.2.2.2 h4 h5 hU hW⟩⟩ rfl rfl h6.1 rfl ?_ hd ⟨?_, ?_⟩) kk
    · show 2 * 0 + _ ≤ 8
      rw [List.map_map]
      rw [show (fun v : Value => v.category) ∘ ztv ad = (fun v : Value => v.category) from funext (ztv_cat ad)]
      omega
    · show _ ≤ zg ν 5 - zg μ0 5
      omega
    · show _ ≤ zg ν 6 - zg μ0 6
      omega⟩
theorem g_callN4 {idx : Nat} {z : zY} {ρ : zMem} {v : Option Value} {rest : List Value} {host : String} {a1 a2 a3 a4 : Value} (hd : decode y.2.1 pc = .ok (.invokestatic idx, 3)) (hl : zMN y.1.cls idx z 4 host) (ht : zTr E d z [a1, a2, a3, a4] μ v ρ) (hw : ((rest.map fun v => v.category).sum) ≤ 8) (hfr : zg ρ 5 = zg μ 5 ∨ ∀ p, (some (Value.ref p) ∈ ls ∨ Value.ref p ∈ rest) → p ∈ zpl μ ∧ zstab p = true) (kk : zGo E (d + 1) y (pc + 3) ls (v.toList ++ rest) ρ r ν) : zGo E (d + 1) y pc ls (a4 :: a3 :: a2 :: a1 :: rest) μ r ν :=
  ⟨ht.1.tr kk.1, fun p1 e s m args below meth c μ0 ad0 ad H locs LS C h1 h2 h3 h4 h5 h6 => by
    obtain ⟨hNe, hT, hn1, hn2, hn3, hn4⟩ := hl
    have hmL := Nat.le_of_ble_eq_true hn4
    have m1 := kk.1.1
    have m2 := kk.1.2.1
    have m3 := h1.1
    have m4 := h1.2.1
    have m5 := ht.1.1
    have m6 := ht.1.2.1
    have ok : ∀ w ∈ ([.static z.1, .initialized z.1.cls] : List Cond) ++ zwd z, w.before args s = true := fun w h => C.2.2.2.2.2.2.1 w (hT w h)
    refine zcall C h1 h2 h3 h5 h6 ht.1 hfr (va_runSN (host := host) (As := [a1, a2, a3, a4].map (ztv ad)) (rest := rest.map (ztv ad)) ⟨C.1, C.2.1, C.2.2.1, C.2.2.2.2.2.1, C.2.2.2.2.2.2.1⟩ (ht.2 ad) ⟨va_cnB 4 C.2.2.2.2.2.2.1 (zgood (fun w h => hT w (List.mem_append_right _ h))) rfl rfl rfl (C.2.2.2.2.2.2.2.2.2.1 _ hNe) (ok _ (by simp)) ⟨hn1, hn2, hn3⟩ ⟨Nat.le_refl _, by show 8 + (z.2.2.1 + 11) + 60 * d ≤ 60 * (d + 1); omega⟩, ok _ (by simp), trivial⟩ ⟨zPre_blind, fun U hU hW => ⟨rfl, zPre_of C.2.2.2.2.2.2.2.1 C.2.2.2.2.2.2.2.2.1 C.2.2.2.2.2.2.2.2.2 h4 h5 hU hW⟩⟩ rfl rfl h6.1 rfl ?_ hd ⟨?_, ?_⟩) kk
    · show 2 * 0 + _ ≤ 8
      rw [List.map_map]
      rw [show (fun v : Value => v.category) ∘ ztv ad = (fun v : Value => v.category) from funext (ztv_cat ad)]
      omega
    · show _ ≤ zg ν 5 - zg μ0 5
      omega
    · show _ ≤ zg ν 6 - zg μ0 6
      omega⟩
/-- a method's contract out of the walk of its frame -/
theorem zTr_of {as : List Value} (ls : List (Option Value)) (hn : plainName y.1.cls = true) (hl : zpad y.2.2.1 (zent as) = ls) (hlen : (zent as).length ≤ y.2.2.1) (k : zGo E d y 0 ls [] μ r ν) : zTr E d y as μ r ν := by
  refine ⟨k.1, fun ad => ?_⟩
  refine Met.ofW (cc := y.2.1) (maxL := y.2.2.1) (ret := y.2.2.2) hn rfl ?_
  intro p e s m args below meth c s₁ B hml hv
  obtain ⟨rfl, hK, hW, hlo, hN⟩ := hv
  have hts := atoms_spec (ws := zwd y) B.pre
  have C : zCx E y p s m (as.map (ztv ad)).toArray meth c := ⟨B.exec, B.bytes, hml, B.returns, B.notSynchronized, findClass_of_methodNamed B.named, fun w h => hts w (List.mem_cons_of_mem _ h), hK, hlo, hN⟩
  have hsl : (lg_sl (as.map (ztv ad))).length = (zent as).length := by
    clear hl hlen k C hts hW hK hlo B
    induction as with
    | nil => rfl
    | cons v as ih =>
      simp only [List.map_cons, lg_sl, List.flatMap_cons, List.length_append, zent] at ih ⊢
      rw [ih, ztv_cat]
      by_cases h : v.category = 2
      · rw [if_pos h]; simp [h]; omega
      · rw [if_neg h]
        have hb : Nat.beq v.category 2 = false := by
          cases hb : Nat.beq v.category 2 with
          | false => rfl
          | true => exact absurd (Nat.eq_of_beq_eq_true hb) h
        rw [hb]; simp; omega
  have he := lv_entry (as.map (ztv ad)) (n := y.2.2.1) (by rw [hsl]; exact hlen)
  rw [lg_entry_eq]
  have hz5 : zg μ 5 - zg μ 5 = 0 := Nat.sub_self _
  have hz6 : zg μ 6 - zg μ 6 = 0 := Nat.sub_self _
  have hargs : ∀ (as : List Value) (b i : Nat) (v : Value), (zent as)[i]? = some (some v) → (b + i, ztv ad v) ∈ lv_args b (as.map (ztv ad)) := by
    intro as
    induction as with
    | nil => intro b i v h; simp [zent] at h
    | cons w as ih =>
      intro b i v h
      simp only [List.map_cons, lv_args, zent] at h ⊢
      rw [ztv_cat]
      by_cases hc : w.category = 2
      · rw [if_pos hc]
        rw [show Nat.beq w.category 2 = true by rw [hc]; rfl] at h
        simp only [cond_true] at h
        match i, h with
        | 0, h => cases h; exact List.mem_cons_self
        | 1, h => simp at h
        | i + 2, h =>
          have := ih (b + 2) i v (by simpa using h)
          rw [show b + (i + 2) = b + 2 + i by omega]
          exact List.mem_cons_of_mem _ this
      · rw [if_neg hc]
        have hb : Nat.beq w.category 2 = false := by
          cases hb : Nat.beq w.category 2 with
          | false => rfl
          | true => exact absurd (Nat.eq_of_beq_eq_true hb) hc
        rw [hb] at h
        simp only [cond_false] at h
        match i, h with
        | 0, h => cases h; exact List.mem_cons_self
        | i + 1, h =>
          have := ih (b + 1) i v (by simpa using h)
          rw [show b + (i + 1) = b + 1 + i by omega]
          exact List.mem_cons_of_mem _ this
  have K := k.2 p e s m (as.map (ztv ad)).toArray below meth c μ ad ad s.heap [] _ C zmono.rf zagr.rf (fun _ => rfl) hW va_S.rf ⟨he.1, he.2.1, fun i v hi => by
    subst hl
    unfold zpad at hi
    by_cases h : i < (zent as).length
    · rw [List.getElem?_append_left h] at hi
      have := he.2.2 _ (hargs as 0 i v hi)
      rwa [Nat.zero_add] at this
    · rw [List.getElem?_append_right (Nat.le_of_not_lt h), List.getElem?_replicate] at hi
      split at hi <;> cases hi⟩
  rw [hz5, hz6] at K
  exact K
end ZM
