/-! the law's frame: the script, calls -/
/-- the script's ints -/
def zXs (E : zEnv) (L : Nat) (xs : Nat → Int32) : Prop := va_X (zsc E) L xs (zs0 E) (zs0 E).heap ∧ L ≤ 3072
section LW
variable {E : zEnv} {d : Nat} {y : zY} {pc : Nat} {ls : List (Option Value)} {st : List Value} {μ ν : zMem} {r : Option Value} {P : Option Value → zMem → Prop} {L : Nat} {xs : Nat → Int32}
theorem zXs.at {s : State} (h : zXs E L xs) (hN : zN E s) : va_X (zsc E) L xs s s.heap ∧ zsc E < s.heap.size ∧ ¬ zA E (zsc E) := by
  obtain ⟨⟨scr, h1, h2, h3⟩, -⟩ := h
  have hlt : zsc E < (zs0 E).heap.size := (Array.getElem?_eq_some_iff.mp h1).1
  have hna := hN.2.2.2.old _ hlt
  have h1' : s.heap[zsc E]? = some scr := by rw [hN.kp _ hlt hna]; exact h1
  exact ⟨⟨scr, h1', State.isArrayOf_alike hN.2.1.alike h2, h3⟩, (Array.getElem?_eq_some_iff.mp h1').1, hna⟩
theorem x_slen (hX : zXs E L xs) (hd : decode y.2.1 pc = .ok (.arraylength, 1)) (kk : zX E d y (pc + 1) ls (.int (nI L) :: st) μ P) : zX E d y pc ls (.ref 144 :: st) μ P := kk.map (fun r ν kk => ⟨kk.1, fun p e s m args below meth c μ0 ad0 ad H locs LS C h1 h2 h3 h4 h5 h6 => by
  obtain ⟨g1, g2, g3⟩ := hX.at C.2.2.2.2.2.2.2.2.2
  have e1 : ad 144 = zsc E := h4.2.2.2.2.2.2
  show W p E.1 e _ s m args below meth c H locs _ _ _ (F0 m pc LS (.ref (ad 144) :: st.map (ztv ad)))
  rw [e1]
  exact va_slen C.1 C.2.1 g1 g2 g3 h5 hd (kk.2 p e s m args below meth c μ0 ad0 ad H locs LS C h1 h2 h3 h4 h5 h6)⟩)
theorem x_sld (j : Nat) (hX : zXs E L xs) {i : Int32} (hi : i = nI j) (hj : j < L) (hd : decode y.2.1 pc = .ok (.iaload, 1)) (kk : zX E d y (pc + 1) ls (.int (xs j) :: st) μ P) : zX E d y pc ls (.int i :: .ref 144 :: st) μ P := kk.map (fun r ν kk => ⟨kk.1, fun p e s m args below meth c μ0 ad0 ad H locs LS C h1 h2 h3 h4 h5 h6 => by
  subst hi
  obtain ⟨g1, g2, g3⟩ := hX.at C.2.2.2.2.2.2.2.2.2
  have e1 : ad 144 = zsc E := h4.2.2.2.2.2.2
  have hL := hX.2
  show W p E.1 e _ s m args below meth c H locs _ _ _ (F0 m pc LS (.int (nI j) :: .ref (ad 144) :: st.map (ztv ad)))
  rw [e1]
  refine va_sld C.1 C.2.1 g1 g2 g3 h5 (zvin hj (by omega)) hd ?_
  rw [nI_clamp (by omega)]
  exact kk.2 p e s m args below meth c μ0 ad0 ad H locs LS C h1 h2 h3 h4 h5 h6⟩)
/-- behind a call; the script's place stays too -/
theorem zcallL {p1 : Program} {e : Env} {s : State} {m : MethodId} {args : Array Value} {below : List Frame} {meth : Method} {c : Code} {μ0 ρ : zMem} {ad0 ad : Nat → Nat} {H : Heap} {locs : List Loc} {LS : Array Slot} {v : Option Value} {a : Array Value} {rest st0 : List Value}
    (C : zCx E y p1 s m args meth c) (h1 : zmono μ0 μ) (h2 : zagr μ0 ad0 ad) (h3 : zg μ 5 = zg μ0 5 → ad = ad0) (h4 : zWd E ad μ H) (h5 : va_S (zA E) s.heap H locs) (h6 : zlr ad y.2.2.1 ls LS)
    (hm : zmono μ ρ) (hfr : ∀ p, (some (Value.ref p) ∈ ls ∨ Value.ref p ∈ rest) → (p ∈ zpl μ ∧ zstab p = true) ∨ p = 144)
    (hr : va_Run p1 E.1 e (zrm (d + 1) μ0 ν) s m args below meth c H locs (zg μ 5 - zg μ0 5) (zg μ 6 - zg μ0 6) (zg ρ 5 - zg μ 5) (zg ρ 6 - zg μ 6) (F0 m pc LS st0) (rest.map (ztv ad)) (zQ E ad μ v ρ a) (zA E))
    (kk : zGo E (d + 1) y (pc + 3) ls (v.toList ++ rest) ρ r ν) :
    W p1 E.1 e (zrm (d + 1) μ0 ν) s m args below meth c H locs (zg μ 5 - zg μ0 5) (zg μ 6 - zg μ0 6) (MQ below (zQ E ad0 μ0 r ν) args s (zg ν 5 - zg μ0 5) (zg ν 6 - zg μ0 6) (zA E)) (F0 m pc LS st0) := by
  intro T hT X
  obtain ⟨v0, st₀, t, T', L, e0, X', hL, e1, e2, ⟨ad', ha, hae, hv, hW, hF⟩, st⟩ := hr T hT X
  have hc1 : zg μ 5 - zg μ0 5 + (zg ρ 5 - zg μ 5) = zg ρ 5 - zg μ0 5 := by have := h1.1; have := hm.1; omega
  have hc2 : zg μ 6 - zg μ0 6 + (zg ρ 6 - zg μ 6) = zg ρ 6 - zg μ0 6 := by have := h1.2.1; have := hm.2.1; omega
  rw [hc1, hc2] at X'
  have hv' : v0 = v.map (ztv ad') := by cases hv; rfl
  subst hv'
  have hsame : ∀ p, (some (Value.ref p) ∈ ls ∨ Value.ref p ∈ rest) → ad' p = ad p := by
    intro p hp
    rcases hfr p hp with h | h
    · exact ha p h.1 h.2
    · subst h
      exact hW.2.2.2.2.2.2.trans h4.2.2.2.2.2.2.symm
  have hval : ∀ w, (some w ∈ ls ∨ w ∈ rest) → ztv ad' w = ztv ad w := by
    intro w hw
    cases w with
    | ref p => show Value.ref (ad' p) = Value.ref (ad p); rw [hsame p hw]
    | _ => rfl
  have hrest : rest.map (ztv ad) = rest.map (ztv ad') := List.map_congr_left (fun w hw => (hval w (Or.inr hw)).symm)
  have hstk : (v.map (ztv ad')).toList ++ rest.map (ztv ad) = (v.toList ++ rest).map (ztv ad') := by
    rw [hrest]
    cases v <;> rfl
  rw [hstk] at st
  unfold va_F at hF
  rw [e0] at hF
  have h3' : zg ρ 5 = zg μ0 5 → ad' = ad0 := by
    intro h
    have q1 := h1.1
    have q2 := hm.1
    rw [hae (by omega), h3 (by omega)]
  have hS' : va_S (zA E) s.heap T'.heap (locs ++ L) := ⟨Nat.le_trans h5.1 (by rw [e1]; exact hF.1), fun q g1 g2 => by rw [e1, hF.2 q (Nat.lt_of_lt_of_le g1 h5.1) g2]; exact h5.2.1 q g1 g2, fun q hq => by
    rcases List.mem_append.mp hq with h | h
    · exact h5.2.2 q h
    · exact hL q h⟩
  obtain ⟨t2, a1, b1⟩ := kk.2 p1 e s m args below meth c μ0 ad0 ad' T'.heap (locs ++ L) LS C (h1.tr hm) (h2.tr h1 ha) h3' (by rw [e1]; exact hW) hS' ⟨h6.1, h6.2.1, fun i w hi => by rw [hval w (Or.inl (List.mem_of_getElem? hi))]; exact h6.2.2 i w hi⟩ T' rfl X'
  exact ⟨t2, st t2 a1, b1⟩
theorem g_lawV {idx ci p n : Nat} {z : zY} {ρ : zMem} {v : Option Value} (as : List Value) {rest : List Value} (hd : decode y.2.1 pc = .ok (.invokevirtual idx, 3)) (hl : zMV y.1.cls idx z n) (hn : as.length = n) (hp : zat μ p ci) (hc : (vwCl[ci]?).map (fun q => q.1) = some z.1.cls) (ht : zTr E d z (.ref p :: as) μ v ρ) (hw : ((rest.map fun v => v.category).sum) ≤ 8) (hfr : ∀ p, (some (Value.ref p) ∈ ls ∨ Value.ref p ∈ rest) → (p ∈ zpl μ ∧ zstab p = true) ∨ p = 144) (kk : zGo E (d + 1) y (pc + 3) ls (v.toList ++ rest) ρ r ν) : zGo E (d + 1) y pc ls (as.reverse ++ (.ref p :: rest)) μ r ν :=
  ⟨ht.1.tr kk.1, fun p1 e s m args below meth c μ0 ad0 ad H locs LS C h1 h2 h3 h4 h5 h6 => by
    obtain ⟨hT, hn1, hn2, hn3, hn4⟩ := hl
    obtain ⟨i, hi1, hi2⟩ := zws_at (E := E) (ad := ad) hp.1
    rw [zcel_obj hp.2] at hi2
    cases hq : vwCl[ci]? with
    | none => rw [hq] at hc; cases hc
    | some q =>
      rw [hq] at hc
      have hc : q.1 = z.1.cls := Option.some.inj hc
      obtain ⟨cell, g1, g2, g3⟩ := va_recv C.2.2.2.2.2.2.2.1 h4.1 hq hi2
      rw [hc] at g3
      have hmL := Nat.le_of_ble_eq_true hn4
      have m1 := kk.1.1
      have m2 := kk.1.2.1
      have m3 := h1.1
      have m4 := h1.2.1
      have m5 := ht.1.1
      have m6 := ht.1.2.1
      refine zcallL C h1 h2 h3 h4 h5 h6 ht.1 hfr (va_runV (As := as.map (ztv ad)) (rest := rest.map (ztv ad)) ⟨C.1, C.2.1, C.2.2.1, C.2.2.2.2.2.1, C.2.2.2.2.2.2.1⟩ (ht.2 ad) (cwV n C.2.2.2.2.2.2.1 (zgood hT) rfl rfl rfl ⟨rfl, hn1, hn2, hn3⟩ ⟨Nat.le_refl _, by show 8 + (z.2.2.1 + 11) + 60 * d ≤ 60 * (d + 1); omega⟩) ⟨zPre_blind, ⟨cell, g1, g2, g3⟩, fun U hU hW => ⟨rfl, zPre_of C.2.2.2.2.2.2.2.1 C.2.2.2.2.2.2.2.2.1 C.2.2.2.2.2.2.2.2.2 h4 h5 hU hW⟩⟩ rfl (by rw [List.length_map]; exact hn) h6.1 ?_ ?_ hd ⟨?_, ?_⟩) kk
      · show (as.reverse ++ (.ref p :: rest)).map (ztv ad) = _
        rw [List.map_append, List.map_reverse]
        rfl
      · show 2 * 0 + _ ≤ 8
        rw [List.map_map]
        rw [show (fun v : Value => v.category) ∘ ztv ad = (fun v : Value => v.category) from funext (ztv_cat ad)]
        omega
      · show _ ≤ zg ν 5 - zg μ0 5
        omega
      · show _ ≤ zg ν 6 - zg μ0 6
        omega⟩
theorem g_lawS {ρ : zMem} {v : Option Value} {rest : List Value} {a1 a2 a3 a4 : Value} (hown : y.1.cls = RL) (hd : decode y.2.1 pc = .ok (.invokestatic 87, 3)) (ht : zTrW E d mL_clause zhh [a1, a2, a3, a4] μ v ρ) (hw : ((rest.map fun v => v.category).sum) ≤ 8) (hfr : ∀ p, (some (Value.ref p) ∈ ls ∨ Value.ref p ∈ rest) → (p ∈ zpl μ ∧ zstab p = true) ∨ p = 144) (kk : zGo E (d + 1) y (pc + 3) ls (v.toList ++ rest) ρ r ν) : zGo E (d + 1) y pc ls (a4 :: a3 :: a2 :: a1 :: rest) μ r ν :=
  ⟨ht.1.tr kk.1, fun p1 e s m args below meth c μ0 ad0 ad H locs LS C h1 h2 h3 h4 h5 h6 => by
    have m1 := kk.1.1
    have m2 := kk.1.2.1
    have m3 := h1.1
    have m4 := h1.2.1
    have m5 := ht.1.1
    have m6 := ht.1.2.1
    have hT : GoodIn zT (va_wsS RL 87 yL_clause (zwdW mL_clause zhh)) := zgood (fun w hw => by
      rcases List.mem_append.mp hw with h | h
      · simp only [List.mem_cons, List.not_mem_nil, or_false] at h
        rcases h with rfl | rfl | rfl
        · exact zt_of 1048 (by decide +kernel) (by decide +kernel)
        · exact zt_of 1049 (by decide +kernel) (by decide +kernel)
        · exact zt_of 97 (by decide +kernel) (by decide +kernel)
      · rcases List.mem_cons.mp h with rfl | h
        · exact zt_of 1050 (by decide +kernel) (by decide +kernel)
        · exact h)
    refine zcallL C h1 h2 h3 h4 h5 h6 ht.1 hfr (vx_runSW (own := RL) (hh := zhh) (As := [a1, a2, a3, a4].map (ztv ad)) (rest := rest.map (ztv ad)) ⟨C.1, C.2.1, C.2.2.1, by rw [← hown]; exact C.2.2.2.2.2.1, C.2.2.2.2.2.2.1⟩ (ht.2 ad) (vx_cwSW 4 C.2.2.2.2.2.2.1 hT rfl rfl rfl ⟨by decide +kernel, by decide +kernel, by decide +kernel⟩ ⟨Nat.le_refl _, by show 8 + (5 + 11) + 60 * d ≤ 60 * (d + 1); omega⟩) ⟨zPre_blind, fun U hU hW => ⟨rfl, zPre_of C.2.2.2.2.2.2.2.1 C.2.2.2.2.2.2.2.2.1 C.2.2.2.2.2.2.2.2.2 h4 h5 hU hW⟩⟩ rfl rfl h6.1 rfl ?_ hd ⟨?_, ?_⟩) kk
    · show 2 * 0 + _ ≤ 8
      rw [List.map_map]
      rw [show (fun v : Value => v.category) ∘ ztv ad = (fun v : Value => v.category) from funext (ztv_cat ad)]
      omega
    · show _ ≤ zg ν 5 - zg μ0 5
      omega
    · show _ ≤ zg ν 6 - zg μ0 6
      omega⟩
theorem x_lawV {idx ci p n : Nat} {z : zY} {ρ : zMem} {a : Value} (as : List Value) {rest : List Value} (hd : decode y.2.1 pc = .ok (.invokevirtual idx, 3)) (hl : zMV y.1.cls idx z n) (hn : as.length = n) (hp : zat μ p ci) (hc : (vwCl[ci]?).map (fun q => q.1) = some z.1.cls) (ht : zTr E d z (.ref p :: as) μ (some a) ρ) (hw : ((rest.map fun v => v.category).sum) ≤ 8) (hfr : ∀ p, (some (Value.ref p) ∈ ls ∨ Value.ref p ∈ rest) → (p ∈ zpl μ ∧ zstab p = true) ∨ p = 144) (kk : zX E (d + 1) y (pc + 3) ls (a :: rest) ρ P) : zX E (d + 1) y pc ls (as.reverse ++ (.ref p :: rest)) μ P := kk.map (fun r ν kk => g_lawV (v := some a) as hd hl hn hp hc ht hw hfr kk)
theorem x_lawS {ρ : zMem} {a : Value} {rest : List Value} {a1 a2 a3 a4 : Value} (hown : y.1.cls = RL) (hd : decode y.2.1 pc = .ok (.invokestatic 87, 3)) (ht : zTrW E d mL_clause zhh [a1, a2, a3, a4] μ (some a) ρ) (hw : ((rest.map fun v => v.category).sum) ≤ 8) (hfr : ∀ p, (some (Value.ref p) ∈ ls ∨ Value.ref p ∈ rest) → (p ∈ zpl μ ∧ zstab p = true) ∨ p = 144) (kk : zX E (d + 1) y (pc + 3) ls (a :: rest) ρ P) : zX E (d + 1) y pc ls (a4 :: a3 :: a2 :: a1 :: rest) μ P := kk.map (fun r ν kk => g_lawS (v := some a) hown hd ht hw hfr kk)
/-- the law's locals -/
def zlB : Option Value → Bool
  | some (.ref p) => (zbase p && zstab p) || Nat.beq p 144
  | _ => true
theorem zlB_ok {rest : List Value} (h : (ls.all zlB && (rest.map some).all zlB) = true) : ∀ p, (some (Value.ref p) ∈ ls ∨ Value.ref p ∈ rest) → (p ∈ zpl μ ∧ zstab p = true) ∨ p = 144 := by
  intro p hp
  rw [Bool.and_eq_true] at h
  have hb : zlB (some (.ref p)) = true := by
    rcases hp with q | q
    · exact List.all_eq_true.mp h.1 _ q
    · exact List.all_eq_true.mp h.2 _ (List.mem_map.mpr ⟨_, q, rfl⟩)
  have hb : ((zbase p && zstab p) || Nat.beq p 144) = true := hb
  rcases (Bool.or_eq_true _ _).mp hb with q | q
  · rw [Bool.and_eq_true] at q
    exact Or.inl ⟨zpl_b q.1, q.2⟩
  · exact Or.inr (Nat.eq_of_beq_eq_true q)
end LW
