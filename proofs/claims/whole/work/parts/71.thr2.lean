/-! clause of the class where it throws -/
def zps : List Nat := [116, 1078, 1087, 1089, 1092, 1094, 1079, 1080, 127, 128, 1081, 1086, 1090, 1106, 1068, 1107, 1070, 1108, 1072, 1082, 1084, 1074, 1096, 1097, 1098, 1099, 1059, 1099, 1100, 1101, 1102, 1061, 1102, 1103, 1104, 1079, 1063, 1095, 1057, 1058, 1065, 1066, 1067, 1069, 1071, 1073, 1077, 1076, 1075]
theorem z_at0 : vx_at0 RX8 174 zNSE zchn = zps.filterMap (fun i => lw_tbl[i]?) := by decide +kernel
theorem z_at0o : (vx_at0 RX8 174 zNSE zchn).all vx_ot = true := by decide +kernel
def zi0 (X : String) : MethodName := ⟨X, "<init>", "()V"⟩
theorem z_at0n : (vx_at0 RX8 174 zNSE zchn).filter (fun w => !goodWord w) = [.declares (zi0 "java/lang/RuntimeException"), .declares (zi0 "java/lang/Exception"), .declares (zi0 "java/lang/Throwable"), .castable zNSE zNSE] := by decide +kernel
theorem z_at0s {E : zEnv} {s : State} {args : Array Value} (hN : zN E s) (hz : ∀ w ∈ zT, w.before args s = true) : ∀ w ∈ vx_at0 RX8 174 zNSE zchn, w.before args s = true := fun w hw => by
  have hG := hN.2.2.2
  cases hg : goodWord w with
  | true =>
    rw [z_at0] at hw
    obtain ⟨i, -, hi⟩ := List.mem_filterMap.mp hw
    exact hz w (List.mem_filter.mpr ⟨List.mem_of_getElem? hi, hg⟩)
  | false =>
    have h1 : w ∈ (vx_at0 RX8 174 zNSE zchn).filter (fun w => !goodWord w) := List.mem_filter.mpr ⟨hw, by rw [hg]; rfl⟩
    rw [z_at0n] at h1
    simp only [List.mem_cons, List.not_mem_nil, or_false] at h1
    rcases h1 with rfl | rfl | rfl | rfl
    · exact va_Nw.use rfl (va_Nw.warmD hN.2.1 (va_Nw.of rfl (hG.w 1059 (by decide +kernel))))
    · exact va_Nw.use rfl (va_Nw.warmD hN.2.1 (va_Nw.of rfl (hG.w 1061 (by decide +kernel))))
    · exact va_Nw.use rfl (va_Nw.warmD hN.2.1 (va_Nw.of rfl (hG.w 1063 (by decide +kernel))))
    · exact va_Nw.use rfl (va_Nw.warmC hN.2.1 (va_Nw.of rfl (hG.w 1058 (by decide +kernel))))
def zXC (E : zEnv) (ad : Nat → Nat) (μ : zMem) : String → State → State → Prop := fun X st t => X = zNSE ∧ zWd E ad μ t.heap ∧ va_F (zA E) st t
def zrmT (d : Nat) : Room := { frames := d, cells := 1, slots := 6, locals := 60 * d }
def zTh (E : zEnv) (d : Nat) (as : List Value) (μ : zMem) : Prop := ∀ ad : Nat → Nat, vx_Met E.1 yX8_clause (zwd mX8_clause) (zrmT d) (va_Pc (as.map (ztv ad)) (zPre E ad μ)) (fun _ _ _ _ => False) (zXC E ad μ) 1 6 (zA E)
section TH2
variable {E : zEnv} {s : State}
theorem zq_U (h : zN E s) : vx_Zq Bundle.tN "UNASSIGNED_STACK" Bundle.steD (zA E) s s.heap := by
  have hG := h.2.2.2
  exact vx_Zq.kept (vx_Zq.moved h.2.1.alike (vx_Zqof (args := #[Value.ref (zsc E)]) (hG.w 1083 (by decide +kernel)) (hG.w 116 (by decide +kernel)) (hG.c (by decide +kernel)) hG.old)) h.kp
theorem zq_Sup (h : zN E s) : vx_Zq Bundle.tN "SUPPRESSED_SENTINEL" Bundle.listD (zA E) s s.heap := by
  have hG := h.2.2.2
  exact vx_Zq.kept (vx_Zq.moved h.2.1.alike (vx_Zqof (args := #[Value.ref (zsc E)]) (hG.w 1085 (by decide +kernel)) (hG.w 116 (by decide +kernel)) (hG.c (by decide +kernel)) hG.old)) h.kp
theorem z_tr (h : zG E) : E.1.stackTraces = false := by
  unfold Launch.stackTraces
  rw [h.1]
  decide +kernel
end TH2
section TH3
variable {E : zEnv} {κ α : Nat → Nat → Int32} {τ : (Nat → Nat → Int64) × (Nat → Nat)}
theorem s_clauseTh (d : Nat) {c w : Int32} (hW : kW κ τ) (h : c < 0 ∨ ¬ c < nI (kN κ) ∨ w < -3 ∨ ∃ k, c = nI k ∧ k < kN κ ∧ ¬ w < nI (kLn κ k)) : zTh E (d + 8) [.ref 0, .int c, .int w] (κ, α, τ) := by
  intro ad
  refine vx_ofW (cc := cX8_clause) (maxL := 4) (ret := some .int) (by decide) rfl ?_
  intro p e s m args below meth cd s₁ B hml hex hv
  obtain ⟨rfl, hK, hWd, hlo, hN⟩ := hv
  have hts := atoms_spec (ws := zwd mX8_clause) B.pre
  have C : zCx E mX8_clause p s m ([.ref 0, .int c, .int w].map (ztv ad)).toArray meth cd := ⟨B.exec, B.bytes, hml, B.returns, B.notSynchronized, findClass_of_methodNamed B.named, fun w h => hts w (List.mem_cons_of_mem _ h), hK, hlo, hN⟩
  obtain ⟨LS, e1, hz⟩ := zentry (ad := ad) (m := m) (as := [.ref 0, .int c, .int w]) (n := 4) (ls := [some (.ref 0), some (.int c), some (.int w), none]) rfl (Nat.le_of_ble_eq_true rfl)
  rw [e1]
  have h4 := hW.n400
  -- the throw
  have fin : ∀ (H : Heap) (locs : List Loc) (LS : Array Slot), LS.size = 4 → zWd E ad (κ, α, τ) H → va_S (zA E) s.heap H locs → W p E.1 e (zrmT (d + 8)) s m ([.ref 0, .int c, .int w].map (ztv ad)).toArray below meth cd H locs 0 0 (vx_MQ below (fun _ _ _ _ => False) (zXC E ad (κ, α, τ)) ([.ref 0, .int c, .int w].map (ztv ad)).toArray s 1 6 (zA E)) (F0 m 35 LS []) := by
    intro H locs LS hsz hWd hS
    refine vx_throw0 (own := RX8) (cls := zNSE) (names := zchn) (ik := 172) (ic := 174) (A := zA E) C.1 C.2.1 (z_tr hN.2.2.2) C.2.2.2.2.2.1 (by decide) (by decide) (C.2.2.2.2.2.2.1 _ (zt_of 1056 (by decide +kernel) (by decide +kernel))) (C.2.2.2.2.2.2.1 _ (zt_of 119 (by decide +kernel) (by decide +kernel))) (z_at0s hN C.2.2.2.2.2.2.1) ?_ (zq_U hN) (zq_Sup hN) hS (hsz.trans C.2.2.1.symm) dX8_clause_35 dX8_clause_38 dX8_clause_39 dX8_clause_42 (fun x hx => (hex x hx).elim) ?_ ?_ (by show 0 + 1 ≤ 1; omega) (by show 0 + 6 ≤ 6; omega) C.2.2.2.2.1 ?_ hS.2.2 (by omega) (by omega)
    · intro w hw
      unfold vx_ot
      rcases List.mem_cons.mp hw with rfl | hw
      · decide +kernel
      · rcases List.mem_cons.mp hw with rfl | hw
        · decide +kernel
        · exact List.all_eq_true.mp z_at0o w hw
    · show 2 + 3 < d + 8
      omega
    · show 0 + (13 * (2 + 1) + 42) ≤ 60 * (d + 8)
      omega
    · intro t hal hsz hkeep
      refine ⟨rfl, ⟨hWd.1.kept (fun k x hx => hkeep x.1 ((hWd.1 k x hx).lt)), hWd.2⟩, Nat.le_trans hS.1 hsz, fun q hq hA => ?_⟩
      rw [hkeep q (Nat.lt_of_lt_of_le hq hS.1)]
      exact hS.2.1 q hq hA
  obtain ⟨i0, hi01, hi02⟩ := zws_at (E := E) (ad := ad) (μ := (κ, α, τ)) (p := 0) (zpl_b rfl)
  obtain ⟨iA, hiA1, hiA2⟩ := zws_at (E := E) (ad := ad) (μ := (κ, α, τ)) (p := 10) (zpl_b rfl)
  obtain ⟨iB, hiB1, hiB2⟩ := zws_at (E := E) (ad := ad) (μ := (κ, α, τ)) (p := 11) (zpl_b rfl)
  rw [zcel_obj (c := 8) rfl] at hi02
  rw [zcel_obj (c := 3) rfl] at hiA2
  rw [zcel_obj (c := 5) rfl] at hiB2
  obtain ⟨f1, hf1, kf1, of1, lf1⟩ := fX8_10
  obtain ⟨f2, hf2, kf2, of2, lf2⟩ := fX8_91
  obtain ⟨f3, hf3, kf3, of3, lf3⟩ := fX8_137
  have r0 : LS[0]? = some (.val (.ref (ad 0))) := hz.2.2 0 _ rfl
  have goal : W p E.1 e (zrmT (d + 8)) s m ([.ref 0, .int c, .int w].map (ztv ad)).toArray below meth cd s.heap [] 0 0 (vx_MQ below (fun _ _ _ _ => False) (zXC E ad (κ, α, τ)) ([.ref 0, .int c, .int w].map (ztv ad)).toArray s 1 6 (zA E)) (F0 m 0 LS []) := by
    refine lv_aload_n C.1 C.2.1 dX8_clause_0 rfl r0 ?_
    refine va_get C.1 C.2.1 (C := f1.1) (T := f1.2.1) (N := f1.2.2) C.2.2.2.2.2.2.1 (zin_tbl 8 f1 hf1) C.2.2.2.2.2.1 C.2.2.2.2.2.2.2.1 hWd.1 i0 hi02 hf1 0 kf1 (ref := f1.1) (C.2.2.2.2.2.2.1 _ lf1) (fun x hx => by rw [← of1]; exact hx) (v := .ref (ad 10)) rfl dX8_clause_1 ?_
    refine va_get C.1 C.2.1 (C := f2.1) (T := f2.2.1) (N := f2.2.2) C.2.2.2.2.2.2.1 (zin_tbl 3 f2 hf2) C.2.2.2.2.2.1 C.2.2.2.2.2.2.2.1 hWd.1 iA hiA2 hf2 0 kf2 (ref := f2.1) (C.2.2.2.2.2.2.1 _ lf2) (fun x hx => by rw [← of2]; exact hx) (v := .ref (ad 11)) rfl dX8_clause_4 ?_
    refine lv_astore_n C.1 C.2.1 dX8_clause_7 rfl hz.has (by decide) rfl (fun LS2 h7 => ?_)
    have h7' : zlr ad 4 [some (.ref 0), some (.int c), some (.int w), some (.ref 11)] LS2 := zlr.set1 (ls := [some (.ref 0), some (.int c), some (.int w), none]) (i := 3) (v := .ref 11) rfl h7
    have r1 : LS2[1]? = some (.val (.int c)) := h7'.2.2 1 _ rfl
    have r2 : LS2[2]? = some (.val (.int w)) := h7'.2.2 2 _ rfl
    have r3 : LS2[3]? = some (.val (.ref (ad 11))) := h7'.2.2 3 _ rfl
    have fin0 := fin s.heap [] LS2 h7'.1 hWd va_S.rf
    refine lv_iload_n C.1 C.2.1 dX8_clause_8 rfl r1 ?_
    refine lv_if_lt C.1 C.2.1 dX8_clause_9 (tgt := 35) (by decide) (fun _ => fin0) (fun h1 => ?_)
    refine lv_iload_n C.1 C.2.1 dX8_clause_12 rfl r1 ?_
    refine lv_aload_n C.1 C.2.1 dX8_clause_13 rfl r3 ?_
    refine va_get C.1 C.2.1 (C := f3.1) (T := f3.2.1) (N := f3.2.2) C.2.2.2.2.2.2.1 (zin_tbl 5 f3 hf3) C.2.2.2.2.2.1 C.2.2.2.2.2.2.2.1 hWd.1 iB hiB2 hf3 5 kf3 (ref := f3.1) (C.2.2.2.2.2.2.1 _ lf3) (fun x hx => by rw [← of3]; exact hx) (v := .int (κ 11 5)) rfl dX8_clause_14 ?_
    refine lv_icmp_ge C.1 C.2.1 dX8_clause_17 (tgt := 35) (by decide) (fun _ => fin0) (fun h2 => ?_)
    rw [hW.n] at h2
    refine lv_iload_n C.1 C.2.1 dX8_clause_20 rfl r2 ?_
    refine lv_bipush C.1 C.2.1 (v := -3) dX8_clause_21 (by decide) ?_
    refine lv_icmp_lt C.1 C.2.1 dX8_clause_23 (tgt := 35) (by decide) (fun _ => fin0) (fun h3 => ?_)
    have hk : ∃ k, c = nI k ∧ k < kN κ ∧ ¬ w < nI (kLn κ k) := by
      rcases h with q | q | q | q
      · exact absurd q h1
      · exact absurd (Int32.not_lt.mp q) h2
      · exact absurd q h3
      · exact q
    obtain ⟨k, rfl, hkN, hkL⟩ := hk
    refine lv_iload_n C.1 C.2.1 dX8_clause_26 rfl r2 ?_
    refine lv_aload_n C.1 C.2.1 dX8_clause_27 rfl r3 ?_
    refine lv_iload_n C.1 C.2.1 dX8_clause_28 rfl r1 ?_
    obtain ⟨hT, n1, n2, n3, n4⟩ := lX8_169
    obtain ⟨cell, g1, g2, g3⟩ := va_recv C.2.2.2.2.2.2.2.1 hWd.1 (q := (RX5, TX5, 7)) rfl hiB2
    have ht := s_lengthOf (E := E) (α := α) d hW hkN
    have hr := va_runV (e := e) (R := zrmT (d + 8)) (below := below) (meth := meth) (locs := []) (cells := 0) (slots := 0) (g := F0 m 29 LS2 [.int (nI k), .ref (ad 11), .int w]) (As := [.int (nI k)]) (rest := [.int w]) ⟨C.1, C.2.1, C.2.2.1, C.2.2.2.2.2.1, C.2.2.2.2.2.2.1⟩ (ht.2 ad) (cwV 1 C.2.2.2.2.2.2.1 (zgood hT) rfl rfl rfl ⟨rfl, n1, n2, n3⟩ ⟨by show d + 1 + 1 ≤ d + 8; omega, by show 8 + (2 + 11) + 60 * (d + 1) ≤ 60 * (d + 8); omega⟩) ⟨zPre_blind, ⟨cell, g1, g2, g3⟩, fun U hU hWm => ⟨rfl, zPre_of hK hlo hN hWd va_S.rf hU hWm⟩⟩ rfl rfl h7'.1 rfl (by show 2 * 0 + 1 ≤ 8; omega) dX8_clause_29 ⟨by rw [Nat.sub_self]; show 0 + 0 ≤ 1; omega, by rw [Nat.sub_self]; show 0 + 0 ≤ 6; omega⟩
    intro T hT0 X
    obtain ⟨v0, st₀, t, T', L, e0, X', hLf, e3, e2, ⟨ad', ha, hae, hv, hWd2, hF⟩, st⟩ := hr T hT0 X
    rw [Nat.sub_self, Nat.sub_self] at X'
    have hae : ad' = ad := hae rfl
    subst hae
    cases hv
    unfold va_F at hF
    rw [e0] at hF
    have hS' : va_S (zA E) s.heap T'.heap ([] ++ L) := ⟨by rw [e3]; exact hF.1, fun q g1 g2 => by rw [e3]; exact hF.2 q g1 g2, fun q hq => hLf q (by simpa using hq)⟩
    have kW : W p E.1 e (zrmT (d + 8)) s m ([.ref 0, .int (nI k), .int w].map (ztv ad')).toArray below meth cd T'.heap ([] ++ L) 0 0 (vx_MQ below (fun _ _ _ _ => False) (zXC E ad' (κ, α, τ)) ([.ref 0, .int (nI k), .int w].map (ztv ad')).toArray s 1 6 (zA E)) (F0 m 32 LS2 [.int (nI (kLn κ k)), .int w]) :=
      lv_icmp_lt C.1 C.2.1 dX8_clause_32 (tgt := 43) (by decide) (fun q => absurd q hkL) (fun _ => fin T'.heap ([] ++ L) LS2 h7'.1 (by rw [e3]; exact hWd2) hS')
    obtain ⟨t2, a1, b1⟩ := kW T' rfl X'
    exact ⟨t2, st t2 a1, b1⟩
  exact goal
end TH3
