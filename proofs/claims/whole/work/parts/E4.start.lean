/-! the law, from its entry -/
def zq51 (a8 q1 q2 q3 q4 q5 q6 q7 q8 q9 q10 q11 q12 q13 q14 q15 q16 q17 q18 q19 q20 q21 q22 q23 q24 q25 q26 q27 q28 q29 q30 q31 a9 r1 r2 r3 r4 r5 r6 r7 r8 r9 r10 r11 r12 r13 r14 r15 r16 r17 o : Nat) (k : Nat) : Nat := match k with
  | 0 => a8
  | 1 => q1
  | 2 => q2
  | 3 => q3
  | 4 => q4
  | 5 => q5
  | 6 => q6
  | 7 => q7
  | 8 => q8
  | 9 => q9
  | 10 => q10
  | 11 => q11
  | 12 => q12
  | 13 => q13
  | 14 => q14
  | 15 => q15
  | 16 => q16
  | 17 => q17
  | 18 => q18
  | 19 => q19
  | 20 => q20
  | 21 => q21
  | 22 => q22
  | 23 => q23
  | 24 => q24
  | 25 => q25
  | 26 => q26
  | 27 => q27
  | 28 => q28
  | 29 => q29
  | 30 => q30
  | 31 => q31
  | 32 => a9
  | 33 => r1
  | 34 => r2
  | 35 => r3
  | 36 => r4
  | 37 => r5
  | 38 => r6
  | 39 => r7
  | 40 => r8
  | 41 => r9
  | 42 => r10
  | 43 => r11
  | 44 => r12
  | 45 => r13
  | 46 => r14
  | 47 => r15
  | 48 => r16
  | 49 => r17
  | _ => o
theorem zg51_in : ∀ i < 51, ∀ j < 51, zg51 i = zg51 j → i = j := by decide +kernel
section WS
variable {E : zEnv} {y : zY} {p : Program} {l : Launch} {e : Env} {R R' : Room} {s : State} {m : MethodId} {args : Array Value} {below : List Frame} {meth : Method} {c : Code} {H : Heap} {locs : List Loc} {cells slots cN sN pc : Nat} {Q Q' : State → Prop} {LS : Array Slot} {st : List Value} {ws : va_W}
theorem w_has {pl : Platform} (hf : R'.frames ≤ R.frames) (hl : R'.locals ≤ R.locals) (hc : R'.cells ≤ R.cells) (hs : R'.slots ≤ R.slots) (h : s.hasRoom pl R = true) : s.hasRoom pl R' = true := by
  simp only [State.hasRoom, Bool.and_eq_true, decide_eq_true_eq] at h ⊢
  obtain ⟨⟨⟨⟨g1, g2, g3, g4, g5, g6⟩, g7⟩, g8⟩, g9⟩ := h
  exact ⟨⟨⟨⟨by omega, by omega, by omega, by omega, by omega, g6⟩, by omega⟩, by omega⟩, g9⟩
theorem w_room {g : JFrame} (hf : R'.frames ≤ R.frames) (hl : R'.locals ≤ R.locals) (hc : R'.cells ≤ R.cells) (hs : R'.slots ≤ R.slots) (k : W p l e R' s m args below meth c H locs cells slots Q g) : W p l e R s m args below meth c H locs cells slots Q g := fun T hT X => k T hT { X with room := w_has hf hl hc hs X.room }
theorem w_imp {g : JFrame} (h : ∀ t, Q t → Q' t) (k : W p l e R s m args below meth c H locs cells slots Q g) : W p l e R s m args below meth c H locs cells slots Q' g := fun T hT X => by
  obtain ⟨t, a, b⟩ := k T hT X
  exact ⟨t, a, h t b⟩
theorem mq_lw {b mc ms : Nat} {ad : Nat → Nat} {μ0 ν : zMem} (hlo : zlo E = s.heap.size) (h1 : mc ≤ 671359) (h2 : ms ≤ 7082027) : ∀ t, MQ below (zQ E ad μ0 (some (.int (nI 1))) ν) #[Value.ref b] s mc ms (zA E) t → lw_Z below #[Value.ref b] s t := by
  rintro t ⟨o, g1, g2, ⟨ad', -, -, ho, -⟩, L, ⟨hv, hw, hs⟩, hf⟩
  refine ⟨o, g1, g2, ho, hv, hw, hs.weaken (fun q hq hlt => ?_) h1 h2⟩
  have hq2 : zlo E ≤ q.base := hf q hq
  rw [hlo] at hq2
  exact absurd hlt (Nat.not_lt.mpr hq2)
theorem w_new {idx ci : Nat} {fs : List Value} (C : zCx E y p s m args meth c) (hP : va_P (zD E) vwCl ws H) (hD : va_D (zA E) ws) (hS : va_S (zA E) s.heap H locs) (hd : decode y.2.1 pc = .ok (.new idx, 3)) (hl : zCL y.1.cls idx ci fs) (hc : cN + 1 ≤ R.cells) (hs : sN + fs.length ≤ R.slots) (kk : ∀ q H1, va_P (zD E) vwCl (ws ++ [(q, .inr (ci, fs))]) H1 → va_D (zA E) (ws ++ [(q, .inr (ci, fs))]) → va_S (zA E) s.heap H1 locs → W p E.1 e R s m args below meth c H1 locs (cN + 1) (sN + fs.length) Q (F0 m (pc + 3) LS (.ref q :: st))) : W p E.1 e R s m args below meth c H locs cN sN Q (F0 m pc LS st) := by
  obtain ⟨q, hq, l1, l2, l3, l4, l5⟩ := hl
  obtain ⟨ty0, hty0⟩ := zty_tbl ci q hq
  exact va_new (R := R) (C := q.1) (T := q.2.1) (N := q.2.2) (ws := ws) C.1 C.2.1 C.2.2.2.2.2.2.1 (zin_tbl ci q hq) ty0 hty0 C.2.2.2.2.2.1 (C.2.2.2.2.2.2.1 _ l1) (C.2.2.2.2.2.2.1 _ l2) (C.2.2.2.2.2.2.1 _ l3) C.2.2.2.2.2.2.2.1 hP hD hS (fun q hq => Nat.le_trans C.2.2.2.2.2.2.2.2.1 hq) hq (l5 ty0 hty0) hc (by rw [l4]; exact hs) hd (fun q1 H1 hP hD hS => by
    rw [l4]
    exact kk q1 H1 hP hD hS)
theorem w_callI {idx mc' ms' a d : Nat} {z : zY} {rest : List Value} {B' : Option Value → va_W → Prop} (C : zCx E y p s m args meth c) (hP : va_P (zD E) vwCl ws H) (hD : va_D (zA E) ws) (hS : va_S (zA E) s.heap H locs) (hLS : LS.size = y.2.2.1) (hd : decode y.2.1 pc = .ok (.invokespecial idx, 3)) (hl : zMI y.1.cls idx z 0) (ht : rTr E d z [.ref a] ws mc' ms' B') (hB0 : ∀ v w, B' v w → v = none) (hw : ((rest.map fun v => v.category).sum) ≤ 8) (hR1 : d + 1 ≤ R.frames) (hR2 : 60 * d + 60 ≤ R.locals) (hc : cN + mc' ≤ R.cells) (hs : sN + ms' ≤ R.slots)
    (kk : ∀ ws' H' locs', B' none ws' → va_P (zD E) vwCl ws' H' → va_D (zA E) ws' → va_S (zA E) s.heap H' locs' → W p E.1 e R s m args below meth c H' locs' (cN + mc') (sN + ms') Q (F0 m (pc + 3) LS rest)) : W p E.1 e R s m args below meth c H locs cN sN Q (F0 m pc LS (.ref a :: rest)) := by
  obtain ⟨z1, z2, z3, z4⟩ := z
  obtain ⟨l1, l2, l3, l4, l5, l6, n1, n2, n3, n4⟩ := hl
  have l6 : z4 = none := l6
  subst l6
  have hmL : z3 ≤ 40 := Nat.le_of_ble_eq_true n4
  have hr := va_runI (e := e) (R := R) (below := below) (meth := meth) (locs := locs) (cells := cN) (slots := sN) (g := F0 m pc LS (.ref a :: rest)) (As := []) (rest := rest) ⟨C.1, C.2.1, C.2.2.1, C.2.2.2.2.2.1, C.2.2.2.2.2.2.1⟩ ht (cwI 0 C.2.2.2.2.2.2.1 (zgood (zwd_in l4)) rfl rfl rfl (C.2.2.2.2.2.2.1 _ l3) (C.2.2.2.2.2.2.1 _ l1) (C.2.2.2.2.2.2.1 _ l2) l5 ⟨n1, n2, n3⟩ ⟨hR1, by show 8 + (z3 + 11) + 60 * d ≤ R.locals; omega⟩) ⟨rPre_blind, fun U hU hW => ⟨rfl, rPre_of C.2.2.2.2.2.2.2.1 C.2.2.2.2.2.2.2.2.1 C.2.2.2.2.2.2.2.2.2 hP hD hS hU hW⟩⟩ rfl rfl hLS rfl (by show 2 * 0 + _ ≤ 8; omega) hd ⟨hc, hs⟩
  intro T hT0 X
  obtain ⟨v0, st₀, t, T', L, e0, X', hLf, e1, e2, ⟨v, w, hv, hB, hPD, hF⟩, stp⟩ := hr T hT0 X
  cases hv
  cases hB0 _ _ hB
  unfold va_F at hF
  rw [e0] at hF
  have hS' : va_S (zA E) s.heap T'.heap (locs ++ L) := ⟨Nat.le_trans hS.1 (by rw [e1]; exact hF.1), fun q g1 g2 => by rw [e1, hF.2 q (Nat.lt_of_lt_of_le g1 hS.1) g2]; exact hS.2.1 q g1 g2, fun q hq => by
    rcases List.mem_append.mp hq with h | h
    · exact hS.2.2 q h
    · exact hLf q h⟩
  obtain ⟨t2, a1, b1⟩ := kk w T'.heap (locs ++ L) hB (by rw [e1]; exact hPD.1) hPD.2 hS' T' rfl X'
  exact ⟨t2, stp t2 a1, b1⟩
theorem w_newl (C : zCx E y p s m args meth c) (hP : va_P (zD E) vwCl ws H) (hD : va_D (zA E) ws) (hS : va_S (zA E) s.heap H locs) (hd : decode y.2.1 pc = .ok (.newarray .long, 2)) (hc : cN + 1 ≤ R.cells) (hs : sN + 1 ≤ R.slots) (kk : ∀ q H1, va_P (zD E) vwCl (ws ++ [(q, .inl (zcy E 4, 1, .inr (.inl (fun _ => (0 : Int64)))))]) H1 → va_D (zA E) (ws ++ [(q, .inl (zcy E 4, 1, .inr (.inl (fun _ => (0 : Int64)))))]) → va_S (zA E) s.heap H1 locs → W p E.1 e R s m args below meth c H1 locs (cN + 1) (sN + 1) Q (F0 m (pc + 2) LS (.ref q :: st))) : W p E.1 e R s m args below meth c H locs cN sN Q (F0 m pc LS (.int (nI 1) :: st)) := by
  refine va_newa (atype := .long) (a0 := (1, .inr (.inl (fun _ => (0 : Int64))))) C.1 C.2.1 (C.2.2.2.2.2.2.1 _ w_arrL) rfl C.2.2.2.2.2.2.2.1 hP hD hS (fun q hq => Nat.le_trans C.2.2.2.2.2.2.2.2.1 hq) (N' := 1) (fun cA => rfl) (nI_pos (by omega)) (nI_clamp (by omega)) (by decide) hc hs hd (fun q cA H1 hK hP hD hS => ?_)
  have hz : cA = zcy E 4 := by
    have := hK.2 (ztys E).length (cA, zty 4) (by simp; rfl)
    exact r_one C.2.2.2.2.2.2.2.1 (by decide) this.2
  subst hz
  exact kk q H1 hP hD hS
theorem w_loop {b L : Nat} {xs : Nat → Int32} {qs old : Nat → Nat} (C : zCx E mL_law p s m #[Value.ref b] meth c) (hlo : zlo E = s.heap.size) (hXs : zXs E L xs) (hAS : zAS E (zad51 qs old)) (hP : va_P (zD E) vwCl (zL51 E qs) H) (hD : va_D (zA E) (zL51 E qs)) (hS : va_S (zA E) s.heap H locs) (hl : zlr (zad51 qs old) 7 (zLs (nI (6 * 0)) none none) LS) : W p E.1 e room_1 s m #[Value.ref b] below meth c H locs 51 100000 (lw_Z below #[Value.ref b] s) (F0 m 23 LS []) := by
  obtain ⟨r, ν, ⟨hr1, k, κ, α, τ, hk, hI, hν⟩, hgo⟩ := lw_loop (zI := zI) hXs (fun k κ α τ _ h => z_step h) (fun k κ α τ h => zI_next h) 512 0 zκ1 zα1 zτ1 none none (Nat.zero_le _) (by have := hXs.2; omega) rfl zI_1
  subst hr1
  subst hν
  obtain ⟨c5, c6⟩ := zI_room hI hk
  have hW : zWd E (zad51 qs old) (zκ1, zα1, zτ1) H := by
    refine ⟨hP.by zg51 z51k, hD.by zg51 z51k (fun i j hi hj => ?_), hAS⟩
    have hlen : (zws E (zad51 qs old) (zκ1, zα1, zτ1)).length = 51 := by unfold zws; rw [List.length_map, zpl51]; rfl
    rw [hlen] at hi hj
    exact zg51_in i hi j hj
  have w := hgo.2 p e s m #[Value.ref b] below meth c (zκ1, zα1, (zτ1.1, fun _ => 0)) (zad51 qs old) (zad51 qs old) H locs LS C ⟨Nat.zero_le _, Nat.zero_le _, fun x => absurd x (by decide), fun x => absurd x (by decide)⟩ zagr.rf (fun _ => rfl) hW hS hl
  refine w_room (R' := zrm 1001 (zκ1, zα1, (zτ1.1, fun _ => 0)) (κ, α, τ)) (Nat.le_of_ble_eq_true rfl) (Nat.le_of_ble_eq_true rfl) ?_ ?_ (w_imp (mq_lw hlo ?_ ?_) w)
  · show τ.2 5 - 0 ≤ 671359; omega
  · show τ.2 6 - 0 ≤ 7082027; omega
  · show τ.2 5 - 0 ≤ 671359; omega
  · show τ.2 6 - 0 ≤ 7082027; omega
set_option maxHeartbeats 4000000 in
set_option maxRecDepth 100000 in
theorem w_start {b L : Nat} {xs : Nat → Int32} {old : Nat → Nat} (C : zCx E mL_law p s m #[Value.ref b] meth c) (hlo : zlo E = s.heap.size) (hXs : zXs E L xs) (h144 : old 144 = b) (hAS : ∀ qs : Nat → Nat, zAS E (zad51 qs old)) : W p E.1 e room_1 s m #[Value.ref b] below meth c s.heap [] 0 0 (lw_Z below #[Value.ref b] s) (entryFrame m ([Value.ref b] : List Value).toArray 7) := by
  have hl := lv_entry ([.ref b]) (n := 7) (Nat.le_of_ble_eq_true rfl)
  rw [lg_entry_eq]
  generalize (lg_sl ([.ref b]) ++ List.replicate (7 - (lg_sl ([.ref b])).length) Slot.unset).toArray = LS at hl ⊢
  have hl : lv_has LS 7 [(0, .ref b)] := hl
  have hP : va_P (zD E) vwCl [] s.heap := fun k q h => by simp at h
  have hD : va_D (zA E) [] := ⟨fun i j p q h => by simp at h, fun k q h => by simp at h⟩
  have hS : va_S (zA E) s.heap s.heap [] := va_S.rf
  refine w_new C hP hD hS dL_law_0 clL_8 (Nat.le_of_ble_eq_true rfl) (Nat.le_of_ble_eq_true rfl) (fun a8 H1 hP hD hS => ?_)
  refine lv_dup C.1 C.2.1 dL_law_3 rfl ?_
  refine w_callI C hP hD hS hl.1 dL_law_4 miL_15 (c_X8_init (E := E) (w := []) (a := a8) 0) (fun v w h => h.1) (Nat.le_of_ble_eq_true rfl) (Nat.le_of_ble_eq_true rfl) (Nat.le_of_ble_eq_true rfl) (Nat.le_of_ble_eq_true rfl) (Nat.le_of_ble_eq_true rfl) (fun ws2 H2 locs2 hB hP hD hS => ?_)
  obtain ⟨-, q1, q2, q3, q4, q5, q6, q7, q8, q9, q10, q11, q12, q13, q14, q15, q16, q17, q18, q19, q20, q21, q22, q23, q24, q25, q26, q27, q28, q29, q30, q31, rfl⟩ := hB
  refine lv_astore_n (lv' := [(1, .ref a8), (0, .ref b)]) C.1 C.2.1 dL_law_7 rfl hl (by decide) rfl (fun LS hl => ?_)
  refine w_new C hP hD hS dL_law_8 clL_16 (Nat.le_of_ble_eq_true rfl) (Nat.le_of_ble_eq_true rfl) (fun a9 H3 hP hD hS => ?_)
  refine lv_dup C.1 C.2.1 dL_law_11 rfl ?_
  refine w_callI C hP hD hS hl.1 dL_law_12 miL_18 (c_X9_init (E := E) (a := a9) 0) (fun v w h => h.1) (Nat.le_of_ble_eq_true rfl) (Nat.le_of_ble_eq_true rfl) (Nat.le_of_ble_eq_true rfl) (Nat.le_of_ble_eq_true rfl) (Nat.le_of_ble_eq_true rfl) (fun ws4 H4 locs4 hB hP hD hS => ?_)
  obtain ⟨-, r1, r2, r3, r4, r5, r6, r7, r8, r9, r10, r11, r12, r13, r14, r15, r16, r17, rfl⟩ := hB
  refine lv_astore_n (lv' := [(2, .ref a9), (1, .ref a8), (0, .ref b)]) C.1 C.2.1 dL_law_15 rfl hl (by decide) rfl (fun LS hl => ?_)
  refine lv_iconst (v := nI 1) C.1 C.2.1 dL_law_16 (by decide) ?_
  refine w_newl C hP hD hS dL_law_17 (Nat.le_of_ble_eq_true rfl) (Nat.le_of_ble_eq_true rfl) (fun o H5 hP hD hS => ?_)
  refine lv_astore_n (lv' := [(3, .ref o), (2, .ref a9), (1, .ref a8), (0, .ref b)]) C.1 C.2.1 dL_law_19 rfl hl (by decide) rfl (fun LS hl => ?_)
  refine lv_iconst (v := nI 0) C.1 C.2.1 dL_law_20 (by decide) ?_
  refine lv_istore (lv' := [(4, .int (nI 0)), (3, .ref o), (2, .ref a9), (1, .ref a8), (0, .ref b)]) C.1 C.2.1 dL_law_21 hl (by decide) rfl (fun LS hl => ?_)
  refine W.widen (k := 51) (n := 100000) (Nat.le_of_ble_eq_true rfl) (Nat.le_of_ble_eq_true rfl) ?_
  refine w_loop (qs := zq51 a8 q1 q2 q3 q4 q5 q6 q7 q8 q9 q10 q11 q12 q13 q14 q15 q16 q17 q18 q19 q20 q21 q22 q23 q24 q25 q26 q27 q28 q29 q30 q31 a9 r1 r2 r3 r4 r5 r6 r7 r8 r9 r10 r11 r12 r13 r14 r15 r16 r17 o) (old := old) C hlo hXs (hAS _) hP hD hS ⟨hl.1, hl.2.1, fun i v hi => ?_⟩
  match i, hi with
  | 0, hi => cases hi; show LS[0]? = some (.val (.ref (old 144))); rw [h144]; exact lv_at hl 4 rfl
  | 1, hi => cases hi; exact lv_at hl 3 rfl
  | 2, hi => cases hi; exact lv_at hl 2 rfl
  | 3, hi => cases hi; exact lv_at hl 1 rfl
  | 4, hi => cases hi; exact lv_at hl 0 rfl
  | 5, hi => cases hi
  | 6, hi => cases hi
  | _ + 7, hi => cases hi
end WS
/-- YOUR PART: from the entry, for every script of at most 3072 ints, the law comes to its end with true -/
theorem whole_start {p : Program} {e : Env} {s : State} {m : MethodId} {below : List Frame} {meth : Method} {c : Code} (l : Launch) (hflags : l.flags = flags0) {b L : Nat} {xs : Nat → Int32} (hL : L ≤ 3072) (C0 : lw_At p s m meth c b L xs) : W p l e room_1 s m #[Value.ref b] below meth c s.heap [] 0 0 (lw_Z below #[Value.ref b] s) (entryFrame m ([Value.ref b] : List Value).toArray 7) := by
  obtain ⟨hx, hb, hr, hml, hown, hts, hX, hbl, hlocks, hgv⟩ := C0
  obtain ⟨dC, dI, cy, old, hK, hN, h144, hAS⟩ := zE_ex l hflags hts hgv
  exact w_start (E := (l, dC, dI, cy, s.heap.size, s, b)) ⟨hx, hb, hml, hr, hlocks, hown, fun w hw => hts w (zin_t hw), hK, Nat.le_refl _, hN⟩ rfl ⟨hX, hL⟩ h144 hAS

