/-! what was there before the run: the words of texts, the columns of bits -/
def zsl (k : Nat) : List Int32 := match k with
  | 0 => [103, 114, 111, 119]
  | 1 => [97, 115, 115, 117, 109, 101]
  | _ => [112, 104, 97, 115, 101]
def zst (k : Nat) : String := match k with
  | 0 => "grow"
  | 1 => "assume"
  | _ => "phase"
def zcol (j : Nat) : Int64 := match j with
  | 0 => -6148914691236517206
  | 1 => -3689348814741910324
  | 2 => -1085102592571150096
  | 3 => -71777214294589696
  | 4 => -281470681808896
  | _ => -4294967296
section OLD
variable {E : zEnv} {s : State} {ad : Nat → Nat} {k : Nat}
theorem zG.old (h : zG E) : ∀ a : Nat, a < (zs0 E).heap.size → ¬ zA E a := fun a ha q => by unfold zA at q; rw [h.2.1] at q; omega
theorem zG.w (h : zG E) (i : Nat) {w : Cond} (hi : lw_tbl[i]? = some w) : w.before #[Value.ref (zsc E)] (zs0 E) = true := h.2.2.2 w (List.mem_of_getElem? hi)
theorem zG.c (h : zG E) {w : Cond} (hi : w ∈ flatC (Jvm.Cond.and given_1 narrow_1)) : w.before #[Value.ref (zsc E)] (zs0 E) = true := flat_of_before _ h.2.2.1 w hi
theorem zN.kp (h : zN E s) : ∀ a : Nat, a < (zs0 E).heap.size → ¬ zA E a → s.heap[a]? = (zs0 E).heap[a]? := fun a _ hn => h.2.2.1 a (Nat.lt_of_not_le hn)
theorem zq_R (h : zN E s) (hA : zAS E ad) (hk : k < 3) : vk_R RX6 (zsx k) (zst k) (ad (140 + k)) s := by
  have hG := h.2.2.2
  refine vk_R.warm h.2.1 (vk_R.of (A := #[Value.ref (zsc E)]) ?_ (hA.1 k hk))
  match k, hk with
  | 0, _ => exact hG.w 524 (by decide +kernel)
  | 1, _ => exact hG.w 577 (by decide +kernel)
  | 2, _ => exact hG.w 578 (by decide +kernel)
theorem zq_O (h : zN E s) (hA : zAS E ad) (hk : k < 3) : va_O RJ0 (ad (140 + k)) (zA E) s s.heap := by
  have hG := h.2.2.2
  have hx : (Cond.exactly (Term.string RX6 (zsx k)) RJ0).before #[Value.ref (zsc E)] (zs0 E) = true := by
    match k, hk with
    | 0, _ => exact hG.c (by decide +kernel)
    | 1, _ => exact hG.c (by decide +kernel)
    | 2, _ => exact hG.c (by decide +kernel)
  obtain ⟨a, c, cA, kA, q1, q2, q3, q4, q5, q6, -⟩ := Cond.exactly_spec (args := #[Value.ref (zsc E)]) (first := zs0 E) (o := none) (s := zs0 E) (idx := []) (t := Term.string RX6 (zsx k)) (cls := RJ0) hx
  rw [hA.1 k hk] at q1
  cases q1
  exact va_O.kept (va_O.moved h.2.1.alike ⟨cA, q3, q5, by rw [q6]; exact q2, hG.old _ (Array.getElem?_eq_some_iff.mp q3).1⟩) h.kp
theorem zq_V (h : zN E s) (hA : zAS E ad) (hk : k < 3) : va_OF RJ0 "value" "[B" (.ref (ad (145 + k))) (ad (140 + k)) (zA E) s s.heap :=
  va_OF.kept (va_OF.moved h.2.1.alike (vk_OFof (hA.1 k hk) (hA.2.1 k hk) h.2.2.2.old)) h.kp
theorem zq_C (h : zN E s) (hA : zAS E ad) (hk : k < 3) : va_OF RJ0 "coder" "B" (.int (nI 0)) (ad (140 + k)) (zA E) s s.heap := by
  have hG := h.2.2.2
  have hx : (Cond.eq (.field (Term.string RX6 (zsx k)) RJ0 "coder" "B") (.int 0)).before #[Value.ref (zsc E)] (zs0 E) = true := by
    match k, hk with
    | 0, _ => exact hG.c (by decide +kernel)
    | 1, _ => exact hG.c (by decide +kernel)
    | 2, _ => exact hG.c (by decide +kernel)
  exact va_OF.kept (va_OF.moved h.2.1.alike (vk_OFof (hA.1 k hk) (va_eqt hx) hG.old)) h.kp
theorem zq_T (h : zN E s) (hA : zAS E ad) (hk : k < 3) : va_T .byte (ad (145 + k)) (zsl k).length (fun j => .int ((zsl k).getD j 0)) (zA E) s s.heap := by
  have hG := h.2.2.2
  have key : ∃ t : Nat, (Term.field (Term.string RX6 (zsx k)) RJ0 "value" "[B").eval #[Value.ref (zsc E)] (zs0 E) none [] (zs0 E) = some (.ref t) ∧ va_T .byte t (zsl k).length (fun j => .int ((zsl k).getD j 0)) (zA E) (zs0 E) (zs0 E).heap := by
    refine va_Tof (by match k, hk with | 0, _ => decide | 1, _ => decide | 2, _ => decide) ?_ ?_ ?_ hG.old
    · match k, hk with
      | 0, _ => exact hG.c (by decide +kernel)
      | 1, _ => exact hG.c (by decide +kernel)
      | 2, _ => exact hG.c (by decide +kernel)
    · refine va_eqt ?_
      match k, hk with
      | 0, _ => exact hG.c (by decide +kernel)
      | 1, _ => exact hG.c (by decide +kernel)
      | 2, _ => exact hG.c (by decide +kernel)
    · intro j hj
      refine va_eqt ?_
      match k, hk, j, hj with
      | 0, _, 0, _ => exact hG.c (by decide +kernel)
      | 0, _, 1, _ => exact hG.c (by decide +kernel)
      | 0, _, 2, _ => exact hG.c (by decide +kernel)
      | 0, _, 3, _ => exact hG.c (by decide +kernel)
      | 1, _, 0, _ => exact hG.c (by decide +kernel)
      | 1, _, 1, _ => exact hG.c (by decide +kernel)
      | 1, _, 2, _ => exact hG.c (by decide +kernel)
      | 1, _, 3, _ => exact hG.c (by decide +kernel)
      | 1, _, 4, _ => exact hG.c (by decide +kernel)
      | 1, _, 5, _ => exact hG.c (by decide +kernel)
      | 2, _, 0, _ => exact hG.c (by decide +kernel)
      | 2, _, 1, _ => exact hG.c (by decide +kernel)
      | 2, _, 2, _ => exact hG.c (by decide +kernel)
      | 2, _, 3, _ => exact hG.c (by decide +kernel)
      | 2, _, 4, _ => exact hG.c (by decide +kernel)
  obtain ⟨t, h1, h2⟩ := key
  rw [hA.2.1 k hk] at h1
  cases h1
  exact va_T.kept (va_T.moved h.2.1.alike h2) h.kp
theorem zq_P (h : zN E s) : va_Z RJ0 "COMPACT_STRINGS" "Z" (.int (nI 1)) (zA E) s s.heap := by
  have hG := h.2.2.2
  exact va_Z.kept (va_Z.moved h.2.1.alike (va_Zof (hG.w 538 (by decide +kernel)) (hG.w 108 (by decide +kernel)) (va_eqi (hG.c (w := Cond.eq (.static RJ0 "COMPACT_STRINGS" "Z") (.int 1)) (by decide +kernel))) hG.old)) h.kp
theorem zq_F (h : zN E s) (hA : zAS E ad) : va_Z RJ3 "SIOOBE_FORMATTER" "Ljava/util/function/BiFunction;" .null (zA E) s s.heap ∨ va_Z RJ3 "SIOOBE_FORMATTER" "Ljava/util/function/BiFunction;" (.ref (ad 148)) (zA E) s s.heap := by
  have hG := h.2.2.2
  rcases hA.2.2.2.1 with q | q
  · exact Or.inl (va_Z.kept (va_Z.moved h.2.1.alike (va_Zof (hG.w 554 (by decide +kernel)) (hG.w 110 (by decide +kernel)) q hG.old)) h.kp)
  · exact Or.inr (va_Z.kept (va_Z.moved h.2.1.alike (va_Zof (hG.w 554 (by decide +kernel)) (hG.w 110 (by decide +kernel)) q hG.old)) h.kp)
theorem zq_G (h : zN E s) (hA : zAS E ad) : va_Z RX7 "COLUMNS" "[J" (.ref (ad 143)) (zA E) s s.heap := by
  have hG := h.2.2.2
  exact va_Z.kept (va_Z.moved h.2.1.alike (va_Zof (hG.w 1025 (by decide +kernel)) (hG.w 106 (by decide +kernel)) hA.2.2.1 hG.old)) h.kp
theorem zq_L (h : zN E s) (hA : zAS E ad) : va_T .long (ad 143) 6 (fun j => .long (zcol j)) (zA E) s s.heap := by
  have hG := h.2.2.2
  have key : ∃ t : Nat, (Term.static RX7 "COLUMNS" "[J").eval #[Value.ref (zsc E)] (zs0 E) none [] (zs0 E) = some (.ref t) ∧ va_T .long t 6 (fun j => .long (zcol j)) (zA E) (zs0 E) (zs0 E).heap := by
    refine va_Tof (by decide) (hG.c (by decide +kernel)) (va_eqt (hG.c (by decide +kernel))) ?_ hG.old
    intro j hj
    refine va_eqtl ?_
    match j, hj with
    | 0, _ => exact hG.c (by decide +kernel)
    | 1, _ => exact hG.c (by decide +kernel)
    | 2, _ => exact hG.c (by decide +kernel)
    | 3, _ => exact hG.c (by decide +kernel)
    | 4, _ => exact hG.c (by decide +kernel)
    | 5, _ => exact hG.c (by decide +kernel)
  obtain ⟨t, h1, h2⟩ := key
  rw [hA.2.2.1] at h1
  cases h1
  exact va_T.kept (va_T.moved h.2.1.alike h2) h.kp
end OLD
section OLDX
variable {E : zEnv} {d : Nat} {y : zY} {pc : Nat} {ls : List (Option Value)} {st : List Value} {μ ν : zMem} {r : Option Value} {P : Option Value → zMem → Prop}
theorem x_ldcS (k : Nat) (hk : k < 3) (hc : y.1.cls = RX6) (hd : decode y.2.1 pc = .ok (.ldc (zsx k), 2)) (kk : zX E d y (pc + 2) ls (.ref (140 + k) :: st) μ P) : zX E d y pc ls st μ P := kk.map (fun r ν kk => ⟨kk.1, fun p e s m args below meth c μ0 ad0 ad H locs LS C h1 h2 h3 h4 h5 h6 =>
  va_ldcS C.1 C.2.1 (own := RX6) (by rw [← hc]; exact C.2.2.2.2.2.1) (zq_R C.2.2.2.2.2.2.2.2.2 h4.2.2 hk) hd (kk.2 p e s m args below meth c μ0 ad0 ad H locs LS C h1 h2 h3 h4 h5 h6)⟩)
theorem x_strV (k : Nat) (hk : k < 3) (hc : y.1.cls = RJ0) (hd : decode y.2.1 pc = .ok (.getfield 9, 3)) (kk : zX E d y (pc + 3) ls (.ref (145 + k) :: st) μ P) : zX E d y pc ls (.ref (140 + k) :: st) μ P := kk.map (fun r ν kk => ⟨kk.1, fun p e s m args below meth c μ0 ad0 ad H locs LS C h1 h2 h3 h4 h5 h6 =>
  vk_getf C.1 C.2.1 (ref := RJ0) (zq_V C.2.2.2.2.2.2.2.2.2 h4.2.2 hk) h5 (own := RJ0) (by rw [← hc]; exact C.2.2.2.2.2.1) (C.2.2.2.2.2.2.1 _ (zt_of 1571 (by decide +kernel) (by decide +kernel))) (fun x hx => hx) hd (kk.2 p e s m args below meth c μ0 ad0 ad H locs LS C h1 h2 h3 h4 h5 h6)⟩)
theorem x_strC (k : Nat) (hk : k < 3) (hc : y.1.cls = RJ0) (hd : decode y.2.1 pc = .ok (.getfield 15, 3)) (kk : zX E d y (pc + 3) ls (.int (nI 0) :: st) μ P) : zX E d y pc ls (.ref (140 + k) :: st) μ P := kk.map (fun r ν kk => ⟨kk.1, fun p e s m args below meth c μ0 ad0 ad H locs LS C h1 h2 h3 h4 h5 h6 =>
  vk_getf C.1 C.2.1 (ref := RJ0) (zq_C C.2.2.2.2.2.2.2.2.2 h4.2.2 hk) h5 (own := RJ0) (by rw [← hc]; exact C.2.2.2.2.2.1) (C.2.2.2.2.2.2.1 _ (zt_of 1572 (by decide +kernel) (by decide +kernel))) (fun x hx => hx) hd (kk.2 p e s m args below meth c μ0 ad0 ad H locs LS C h1 h2 h3 h4 h5 h6)⟩)
theorem x_strN (k : Nat) (hk : k < 3) (hd : decode y.2.1 pc = .ok (.arraylength, 1)) (kk : zX E d y (pc + 1) ls (.int (nI (zsl k).length) :: st) μ P) : zX E d y pc ls (.ref (145 + k) :: st) μ P := kk.map (fun r ν kk => ⟨kk.1, fun p e s m args below meth c μ0 ad0 ad H locs LS C h1 h2 h3 h4 h5 h6 =>
  va_tlen C.1 C.2.1 (zq_T C.2.2.2.2.2.2.2.2.2 h4.2.2 hk) h5 rfl hd (kk.2 p e s m args below meth c μ0 ad0 ad H locs LS C h1 h2 h3 h4 h5 h6)⟩)
theorem x_strB (k j : Nat) (hk : k < 3) (hj : j < (zsl k).length) (h31 : j < 2 ^ 31) (hd : decode y.2.1 pc = .ok (.baload, 1)) (kk : zX E d y (pc + 1) ls (.int ((zsl k).getD j 0) :: st) μ P) : zX E d y pc ls (.int (nI j) :: .ref (145 + k) :: st) μ P := kk.map (fun r ν kk => ⟨kk.1, fun p e s m args below meth c μ0 ad0 ad H locs LS C h1 h2 h3 h4 h5 h6 =>
  va_tb C.1 C.2.1 (zq_T C.2.2.2.2.2.2.2.2.2 h4.2.2 hk) h5 (zvin hj h31) (by rw [nI_clamp h31]; rfl) hd (kk.2 p e s m args below meth c μ0 ad0 ad H locs LS C h1 h2 h3 h4 h5 h6)⟩)
theorem x_compact (hc : y.1.cls = RJ0) (hd : decode y.2.1 pc = .ok (.getstatic 38, 3)) (kk : zX E d y (pc + 3) ls (.int (nI 1) :: st) μ P) : zX E d y pc ls st μ P := kk.map (fun r ν kk => ⟨kk.1, fun p e s m args below meth c μ0 ad0 ad H locs LS C h1 h2 h3 h4 h5 h6 =>
  va_gets C.1 C.2.1 (ref := RJ0) (zq_P C.2.2.2.2.2.2.2.2.2) h5 (own := RJ0) (by rw [← hc]; exact C.2.2.2.2.2.1) (C.2.2.2.2.2.2.1 _ (zt_of 537 (by decide +kernel) (by decide +kernel))) (fun x hx => hx) hd (kk.2 p e s m args below meth c μ0 ad0 ad H locs LS C h1 h2 h3 h4 h5 h6)⟩)
theorem g_sioobe (hc : y.1.cls = RJ0) (hd : decode y.2.1 pc = .ok (.getstatic 1053, 3)) (kk : ∀ v : Value, v.category = 1 → zGo E d y (pc + 3) ls (v :: st) μ r ν) : zGo E d y pc ls st μ r ν := ⟨(kk .null rfl).1, fun p e s m args below meth c μ0 ad0 ad H locs LS C h1 h2 h3 h4 h5 h6 => by
  rcases zq_F C.2.2.2.2.2.2.2.2.2 h4.2.2 with q | q
  · exact va_gets C.1 C.2.1 (ref := RJ3) q h5 (own := RJ0) (by rw [← hc]; exact C.2.2.2.2.2.1) (C.2.2.2.2.2.2.1 _ (zt_of 553 (by decide +kernel) (by decide +kernel))) (fun x hx => hx) hd ((kk .null rfl).2 p e s m args below meth c μ0 ad0 ad H locs LS C h1 h2 h3 h4 h5 h6)
  · exact va_gets C.1 C.2.1 (ref := RJ3) q h5 (own := RJ0) (by rw [← hc]; exact C.2.2.2.2.2.1) (C.2.2.2.2.2.2.1 _ (zt_of 553 (by decide +kernel) (by decide +kernel))) (fun x hx => hx) hd ((kk (.ref 148) rfl).2 p e s m args below meth c μ0 ad0 ad H locs LS C h1 h2 h3 h4 h5 h6)⟩
theorem x_cols (hc : y.1.cls = RX7) (hd : decode y.2.1 pc = .ok (.getstatic 77, 3)) (kk : zX E d y (pc + 3) ls (.ref 143 :: st) μ P) : zX E d y pc ls st μ P := kk.map (fun r ν kk => ⟨kk.1, fun p e s m args below meth c μ0 ad0 ad H locs LS C h1 h2 h3 h4 h5 h6 =>
  va_gets C.1 C.2.1 (ref := RX7) (zq_G C.2.2.2.2.2.2.2.2.2 h4.2.2) h5 (own := RX7) (by rw [← hc]; exact C.2.2.2.2.2.1) (C.2.2.2.2.2.2.1 _ (zt_of 1024 (by decide +kernel) (by decide +kernel))) (fun x hx => hx) hd (kk.2 p e s m args below meth c μ0 ad0 ad H locs LS C h1 h2 h3 h4 h5 h6)⟩)
theorem x_cold (j : Nat) (hj : j < 6) (hd : decode y.2.1 pc = .ok (.laload, 1)) (kk : zX E d y (pc + 1) ls (.long (zcol j) :: st) μ P) : zX E d y pc ls (.int (nI j) :: .ref 143 :: st) μ P := kk.map (fun r ν kk => ⟨kk.1, fun p e s m args below meth c μ0 ad0 ad H locs LS C h1 h2 h3 h4 h5 h6 =>
  va_tl C.1 C.2.1 (zq_L C.2.2.2.2.2.2.2.2.2 h4.2.2) h5 (zvin hj (by omega)) (by rw [nI_clamp (by omega)]; rfl) hd (kk.2 p e s m args below meth c μ0 ad0 ad H locs LS C h1 h2 h3 h4 h5 h6)⟩)
theorem x_i2c {x : Int32} (hd : decode y.2.1 pc = .ok (.i2c, 1)) (kk : zX E d y (pc + 1) ls (.int (x.toUInt32 % 65536).toInt32 :: st) μ P) : zX E d y pc ls (.int x :: st) μ P := kk.map (fun r ν kk => ⟨kk.1, fun p e s m args below meth c μ0 ad0 ad H locs LS C h1 h2 h3 h4 h5 h6 => lv_i2c C.1 C.2.1 hd rfl (kk.2 p e s m args below meth c μ0 ad0 ad H locs LS C h1 h2 h3 h4 h5 h6)⟩)
theorem g_strCall0 {idx k : Nat} {z : zY} {v : Option Value} {rest : List Value} (hk : k < 3) (hz : z.1.cls = RJ0) (hd : decode y.2.1 pc = .ok (.invokevirtual idx, 3)) (hl : zMV y.1.cls idx z 0) (ht : zTr E d z [.ref (140 + k)] μ v μ) (hw : ((rest.map fun v => v.category).sum) ≤ 8) (kk : zGo E (d + 1) y (pc + 3) ls (v.toList ++ rest) μ r ν) : zGo E (d + 1) y pc ls (.ref (140 + k) :: rest) μ r ν :=
  ⟨ht.1.tr kk.1, fun p1 e s m args below meth c μ0 ad0 ad H locs LS C h1 h2 h3 h4 h5 h6 => by
    obtain ⟨hT, hn1, hn2, hn3, hn4⟩ := hl
    obtain ⟨cell, g1, g2, g3, -⟩ := (zq_O C.2.2.2.2.2.2.2.2.2 h4.2.2 hk).kept h5.2.1
    rw [← hz] at g3
    have hmL := Nat.le_of_ble_eq_true hn4
    have m1 := kk.1.1
    have m2 := kk.1.2.1
    have m3 := h1.1
    have m4 := h1.2.1
    refine zcall C h1 h2 h3 h5 h6 ht.1 (Or.inl rfl) (va_runV (As := [].map (ztv ad)) (rest := rest.map (ztv ad)) ⟨C.1, C.2.1, C.2.2.1, C.2.2.2.2.2.1, C.2.2.2.2.2.2.1⟩ (ht.2 ad) (cwV 0 C.2.2.2.2.2.2.1 (zgood hT) rfl rfl rfl ⟨rfl, hn1, hn2, hn3⟩ ⟨Nat.le_refl _, by show 8 + (z.2.2.1 + 11) + 60 * d ≤ 60 * (d + 1); omega⟩) ⟨zPre_blind, ⟨cell, g1, g2, g3⟩, fun U hU hW => ⟨rfl, zPre_of C.2.2.2.2.2.2.2.1 C.2.2.2.2.2.2.2.2.1 C.2.2.2.2.2.2.2.2.2 h4 h5 hU hW⟩⟩ rfl rfl h6.1 rfl ?_ hd ⟨?_, ?_⟩) kk
    · show 2 * 0 + _ ≤ 8
      rw [List.map_map]
      rw [show (fun v : Value => v.category) ∘ ztv ad = (fun v : Value => v.category) from funext (ztv_cat ad)]
      omega
    · show _ ≤ zg ν 5 - zg μ0 5
      omega
    · show _ ≤ zg ν 6 - zg μ0 6
      omega⟩
theorem g_strCall1 {idx k : Nat} {z : zY} {v : Option Value} {rest : List Value} {a1 : Value} (hk : k < 3) (hz : z.1.cls = RJ0) (hd : decode y.2.1 pc = .ok (.invokevirtual idx, 3)) (hl : zMV y.1.cls idx z 1) (ht : zTr E d z [.ref (140 + k), a1] μ v μ) (hw : ((rest.map fun v => v.category).sum) ≤ 8) (kk : zGo E (d + 1) y (pc + 3) ls (v.toList ++ rest) μ r ν) : zGo E (d + 1) y pc ls (a1 :: .ref (140 + k) :: rest) μ r ν :=
  ⟨ht.1.tr kk.1, fun p1 e s m args below meth c μ0 ad0 ad H locs LS C h1 h2 h3 h4 h5 h6 => by
    obtain ⟨hT, hn1, hn2, hn3, hn4⟩ := hl
    obtain ⟨cell, g1, g2, g3, -⟩ := (zq_O C.2.2.2.2.2.2.2.2.2 h4.2.2 hk).kept h5.2.1
    rw [← hz] at g3
    have hmL := Nat.le_of_ble_eq_true hn4
    have m1 := kk.1.1
    have m2 := kk.1.2.1
    have m3 := h1.1
    have m4 := h1.2.1
    refine zcall C h1 h2 h3 h5 h6 ht.1 (Or.inl rfl) (va_runV (As := [a1].map (ztv ad)) (rest := rest.map (ztv ad)) ⟨C.1, C.2.1, C.2.2.1, C.2.2.2.2.2.1, C.2.2.2.2.2.2.1⟩ (ht.2 ad) (cwV 1 C.2.2.2.2.2.2.1 (zgood hT) rfl rfl rfl ⟨rfl, hn1, hn2, hn3⟩ ⟨Nat.le_refl _, by show 8 + (z.2.2.1 + 11) + 60 * d ≤ 60 * (d + 1); omega⟩) ⟨zPre_blind, ⟨cell, g1, g2, g3⟩, fun U hU hW => ⟨rfl, zPre_of C.2.2.2.2.2.2.2.1 C.2.2.2.2.2.2.2.2.1 C.2.2.2.2.2.2.2.2.2 h4 h5 hU hW⟩⟩ rfl rfl h6.1 rfl ?_ hd ⟨?_, ?_⟩) kk
    · show 2 * 0 + _ ≤ 8
      rw [List.map_map]
      rw [show (fun v : Value => v.category) ∘ ztv ad = (fun v : Value => v.category) from funext (ztv_cat ad)]
      omega
    · show _ ≤ zg ν 5 - zg μ0 5
      omega
    · show _ ≤ zg ν 6 - zg μ0 6
      omega⟩
theorem x_strCall0 {idx k : Nat} {z : zY} {a : Value} {rest : List Value} (hk : k < 3) (hz : z.1.cls = RJ0) (hd : decode y.2.1 pc = .ok (.invokevirtual idx, 3)) (hl : zMV y.1.cls idx z 0) (ht : zTr E d z [.ref (140 + k)] μ (some a) μ) (hw : ((rest.map fun v => v.category).sum) ≤ 8) (kk : zX E (d + 1) y (pc + 3) ls (a :: rest) μ P) : zX E (d + 1) y pc ls (.ref (140 + k) :: rest) μ P := kk.map (fun r ν kk => g_strCall0 (v := some a) hk hz hd hl ht hw kk)
theorem x_strCall1 {idx k : Nat} {z : zY} {a : Value} {rest : List Value} {a1 : Value} (hk : k < 3) (hz : z.1.cls = RJ0) (hd : decode y.2.1 pc = .ok (.invokevirtual idx, 3)) (hl : zMV y.1.cls idx z 1) (ht : zTr E d z [.ref (140 + k), a1] μ (some a) μ) (hw : ((rest.map fun v => v.category).sum) ≤ 8) (kk : zX E (d + 1) y (pc + 3) ls (a :: rest) μ P) : zX E (d + 1) y pc ls (a1 :: .ref (140 + k) :: rest) μ P := kk.map (fun r ν kk => g_strCall1 (v := some a) hk hz hd hl ht hw kk)
end OLDX
section STR
variable {E : zEnv} {μ : zMem}
theorem lX6_73 : zMV RX6 73 mJ0_length_8abf5 0 := zMV_of (zt_of 529 (by decide +kernel) (by decide +kernel)) iJ0_length_8abf5
theorem lX6_78 : zMV RX6 78 mJ0_charAt_5068e 1 := zMV_of (zt_of 539 (by decide +kernel) (by decide +kernel)) iJ0_charAt_5068e
theorem lJ0_335 : zMV RJ0 335 mJ0_coder_7d493 0 := zMV_of (zt_of 533 (by decide +kernel) (by decide +kernel)) iJ0_coder_7d493
theorem lJ0_492 : zMV RJ0 492 mJ0_isLatin1_aae02 0 := zMV_of (zt_of 543 (by decide +kernel) (by decide +kernel)) iJ0_isLatin1_aae02
theorem j_coder (d : Nat) {k : Nat} (hk : k < 3) : zTr E (d + 1) mJ0_coder_7d493 [.ref (140 + k)] μ (some (.int (nI 0))) μ := by
  refine zM.tr (zM_of [some (.ref (140 + k))] (by decide) rfl (Nat.le_of_ble_eq_true rfl) ?_)
  refine x_compact rfl dJ0_coder_7d493_0 ?_
  refine x_if_eq_f (pc := 3) 13 dJ0_coder_7d493_3 (by decide) (by decide) ?_
  refine x_aload_n (pc := 6) 0 dJ0_coder_7d493_6 rfl rfl ?_
  refine x_strC (pc := 7) k hk rfl dJ0_coder_7d493_7 ?_
  refine x_goto (pc := 10) 14 dJ0_coder_7d493_10 (by decide) ?_
  refine x_zret (pc := 14) dJ0_coder_7d493_14 rfl (by decide) ?_
  exact ⟨rfl, rfl⟩
theorem j_latin (d : Nat) {k : Nat} (hk : k < 3) : zTr E (d + 1) mJ0_isLatin1_aae02 [.ref (140 + k)] μ (some (.int (nI 1))) μ := by
  refine zM.tr (zM_of [some (.ref (140 + k))] (by decide) rfl (Nat.le_of_ble_eq_true rfl) ?_)
  refine x_compact rfl dJ0_isLatin1_aae02_0 ?_
  refine x_if_eq_f (pc := 3) 17 dJ0_isLatin1_aae02_3 (by decide) (by decide) ?_
  refine x_aload_n (pc := 6) 0 dJ0_isLatin1_aae02_6 rfl rfl ?_
  refine x_strC (pc := 7) k hk rfl dJ0_isLatin1_aae02_7 ?_
  refine x_if_ne_f (pc := 10) 17 dJ0_isLatin1_aae02_10 (by decide) (by decide) ?_
  refine x_iconst (pc := 13) (nI 1) dJ0_isLatin1_aae02_13 (by decide) ?_
  refine x_goto (pc := 14) 18 dJ0_isLatin1_aae02_14 (by decide) ?_
  refine x_zret (pc := 18) dJ0_isLatin1_aae02_18 rfl (by decide) ?_
  exact ⟨rfl, rfl⟩
theorem j_length (d : Nat) {k : Nat} (hk : k < 3) : zTr E (d + 2) mJ0_length_8abf5 [.ref (140 + k)] μ (some (.int (nI (zsl k).length))) μ := by
  refine zM.tr (zM_of [some (.ref (140 + k))] (by decide) rfl (Nat.le_of_ble_eq_true rfl) ?_)
  refine x_aload_n (pc := 0) 0 dJ0_length_8abf5_0 rfl rfl ?_
  refine x_strV (pc := 1) k hk rfl dJ0_length_8abf5_1 ?_
  refine x_strN (pc := 4) k hk dJ0_length_8abf5_4 ?_
  refine x_aload_n (pc := 5) 0 dJ0_length_8abf5_5 rfl rfl ?_
  refine x_strCall0 (pc := 6) hk rfl dJ0_length_8abf5_6 lJ0_335 (j_coder d hk) (Nat.le_of_ble_eq_true rfl) ?_
  refine x_ishr (pc := 9) dJ0_length_8abf5_9 ?_
  refine x_iret (pc := 10) dJ0_length_8abf5_10 rfl ?_
  refine ⟨?_, rfl⟩
  match k, hk with
  | 0, _ => decide
  | 1, _ => decide
  | 2, _ => decide
theorem j_check (d : Nat) {j n : Nat} (v : Value) (hj : j < n) (hn : n < 2 ^ 31) (hv : v.category = 1) : zTr E (d + 1) mJ3_checkIndex_8e157 [.int (nI j), .int (nI n), v] μ (some (.int (nI j))) μ := by
  have hz : zent [.int (nI j), .int (nI n), v] = [some (.int (nI j)), some (.int (nI n)), some v] := by
    simp only [zent, hv]
    rfl
  refine zM.tr (zM_of [some (.int (nI j)), some (.int (nI n)), some v] (by decide) (by rw [hz]; rfl) (by rw [hz]; exact Nat.le_of_ble_eq_true rfl) ?_)
  refine x_iload_n (pc := 0) 0 dJ3_checkIndex_8e157_0 rfl rfl ?_
  refine x_if_lt_f (pc := 1) 9 dJ3_checkIndex_8e157_1 (by decide) (nI_pos (by omega)) ?_
  refine x_iload_n (pc := 4) 0 dJ3_checkIndex_8e157_4 rfl rfl ?_
  refine x_iload_n (pc := 5) 1 dJ3_checkIndex_8e157_5 rfl rfl ?_
  refine x_icmp_lt_t (pc := 6) 16 dJ3_checkIndex_8e157_6 (by decide) (nI_lt hj hn) ?_
  refine x_iload_n (pc := 16) 0 dJ3_checkIndex_8e157_16 rfl rfl ?_
  refine x_iret (pc := 17) dJ3_checkIndex_8e157_17 rfl ?_
  exact ⟨rfl, rfl⟩
theorem j_checkIdx (d : Nat) {j n : Nat} (hj : j < n) (hn : n < 2 ^ 31) : zTr E (d + 2) mJ0_checkIndex_df160 [.int (nI j), .int (nI n)] μ none μ := by
  refine zM.tr (zM_of [some (.int (nI j)), some (.int (nI n))] (by decide) rfl (Nat.le_of_ble_eq_true rfl) ?_)
  refine x_iload_n (pc := 0) 0 dJ0_checkIndex_df160_0 rfl rfl ?_
  refine x_iload_n (pc := 1) 1 dJ0_checkIndex_df160_1 rfl rfl ?_
  refine ⟨none, μ, ⟨rfl, rfl⟩, g_sioobe (pc := 2) rfl dJ0_checkIndex_df160_2 (fun v hv => ?_)⟩
  have k : zX E (d + 2) mJ0_checkIndex_df160 5 [some (.int (nI j)), some (.int (nI n))] [v, .int (nI n), .int (nI j)] μ (fun r ν => r = none ∧ ν = μ) := by
    refine x_callS3i (pc := 5) dJ0_checkIndex_df160_5 lJ0_1059 (j_check d v hj hn hv) (Nat.le_of_ble_eq_true rfl) (Or.inl rfl) ?_
    refine x_pop (pc := 8) dJ0_checkIndex_df160_8 rfl ?_
    refine x_vret (pc := 9) dJ0_checkIndex_df160_9 rfl ?_
    exact ⟨rfl, rfl⟩
  obtain ⟨r, ν, ⟨rfl, rfl⟩, k⟩ := k
  exact k
theorem j_lcharAt (d : Nat) {k j : Nat} (hk : k < 3) (hj : j < (zsl k).length) : zTr E (d + 3) mJ1_charAt_3b067 [.ref (145 + k), .int (nI j)] μ (some (.int ((zsl k).getD j 0))) μ := by
  have hl : (zsl k).length < 10 := by match k, hk with | 0, _ => decide | 1, _ => decide | 2, _ => decide
  refine zM.tr (zM_of [some (.ref (145 + k)), some (.int (nI j))] (by decide) rfl (Nat.le_of_ble_eq_true rfl) ?_)
  refine x_iload_n (pc := 0) 1 dJ1_charAt_3b067_0 rfl rfl ?_
  refine x_aload_n (pc := 1) 0 dJ1_charAt_3b067_1 rfl rfl ?_
  refine x_strN (pc := 2) k hk dJ1_charAt_3b067_2 ?_
  refine x_callS2v (pc := 3) dJ1_charAt_3b067_3 lJ1_9 (j_checkIdx d hj (by omega)) (Nat.le_of_ble_eq_true rfl) (Or.inl rfl) ?_
  refine x_aload_n (pc := 6) 0 dJ1_charAt_3b067_6 rfl rfl ?_
  refine x_iload_n (pc := 7) 1 dJ1_charAt_3b067_7 rfl rfl ?_
  refine x_strB (pc := 8) k j hk hj (by omega) dJ1_charAt_3b067_8 ?_
  refine x_sipush (pc := 9) (nI 255) dJ1_charAt_3b067_9 (by decide) ?_
  refine x_iand (pc := 12) dJ1_charAt_3b067_12 ?_
  refine x_i2c (pc := 13) dJ1_charAt_3b067_13 ?_
  have e : (((zsl k).getD j 0 &&& nI 255).toUInt32 % 65536).toInt32 = (zsl k).getD j 0 ∧ narrow .char (.int ((zsl k).getD j 0)) = .int ((zsl k).getD j 0) := by
    have tab : ∀ k < 3, ∀ b ∈ zsl k, ((b &&& nI 255).toUInt32 % 65536).toInt32 = b ∧ narrow .char (.int b) = .int b := by decide +kernel
    refine tab k hk _ ?_
    rw [List.getD_eq_getElem?_getD, List.getElem?_eq_getElem hj]
    exact List.getElem_mem hj
  rw [e.1]
  refine x_zret (pc := 14) dJ1_charAt_3b067_14 rfl e.2 ?_
  exact ⟨rfl, rfl⟩
theorem j_charAt (d : Nat) {k j : Nat} (hk : k < 3) (hj : j < (zsl k).length) : zTr E (d + 4) mJ0_charAt_5068e [.ref (140 + k), .int (nI j)] μ (some (.int ((zsl k).getD j 0))) μ := by
  refine zM.tr (zM_of [some (.ref (140 + k)), some (.int (nI j))] (by decide) rfl (Nat.le_of_ble_eq_true rfl) ?_)
  refine x_aload_n (pc := 0) 0 dJ0_charAt_5068e_0 rfl rfl ?_
  refine x_strCall0 (pc := 1) hk rfl dJ0_charAt_5068e_1 lJ0_492 (j_latin (d + 2) hk) (Nat.le_of_ble_eq_true rfl) ?_
  refine x_if_eq_f (pc := 4) 16 dJ0_charAt_5068e_4 (by decide) (by decide) ?_
  refine x_aload_n (pc := 7) 0 dJ0_charAt_5068e_7 rfl rfl ?_
  refine x_strV (pc := 8) k hk rfl dJ0_charAt_5068e_8 ?_
  refine x_iload_n (pc := 11) 1 dJ0_charAt_5068e_11 rfl rfl ?_
  refine x_callS2i (pc := 12) dJ0_charAt_5068e_12 lJ0_495 (j_lcharAt d hk hj) (Nat.le_of_ble_eq_true rfl) (Or.inl rfl) ?_
  have e : narrow .char (.int ((zsl k).getD j 0)) = .int ((zsl k).getD j 0) := by
    have tab : ∀ k < 3, ∀ b ∈ zsl k, narrow .char (.int b) = .int b := by decide +kernel
    refine tab k hk _ ?_
    rw [List.getD_eq_getElem?_getD, List.getElem?_eq_getElem hj]
    exact List.getElem_mem hj
  refine x_zret (pc := 15) dJ0_charAt_5068e_15 rfl e ?_
  exact ⟨rfl, rfl⟩
end STR
