/-! the class: keep, back -/
section KP
variable {E : zEnv} {d : Nat} {y : zY} {pc : Nat} {ls : List (Option Value)} {st : List Value} {μ ν : zMem} {r : Option Value} {P : Option Value → zMem → Prop}
def zkv (x : Int32) (i : Nat) : Value := if x = 0 then .null else .ref (30 + 20 * i)
theorem x_aald2 (i : Nat) (hi : i < 2) (hd : decode y.2.1 pc = .ok (.aaload, 1)) (kk : zX E d y (pc + 1) ls (zkv (zr μ 2 i) i :: st) μ P) : zX E d y pc ls (.int (nI i) :: .ref 2 :: st) μ P := kk.map (fun r ν kk => ⟨kk.1, fun p e s m args below meth c μ0 ad0 ad H locs LS C h1 h2 h3 h4 h5 h6 => by
  obtain ⟨w, hi1, hi2⟩ := zws_at (E := E) (ad := ad) (μ := μ) (p := 2) (zpl_b rfl)
  rw [zcel_2] at hi2
  refine va_aldq (C := RX3) C.1 C.2.1 C.2.2.2.2.2.2.2.1 h4.1 w 5 hi2 (ztys_at (by decide)) (zvin hi (by omega)) hd ?_
  rw [nI_clamp (by omega)]
  have e1 : va_rf (if zr μ 2 i = 0 then none else some (ad (30 + 20 * i))) = ztv ad (zkv (zr μ 2 i) i) := by
    unfold zkv
    by_cases h : zr μ 2 i = 0
    · rw [if_pos h, if_pos h]; rfl
    · rw [if_neg h, if_neg h]; rfl
  show W p E.1 e _ s m args below meth c H locs _ _ _ (F0 m (pc + 1) LS (va_rf (if zr μ 2 i = 0 then none else some (ad (30 + 20 * i))) :: st.map (ztv ad)))
  rw [e1]
  exact kk.2 p e s m args below meth c μ0 ad0 ad H locs LS C h1 h2 h3 h4 h5 h6⟩)
theorem x_astore_nN {j : Fin 4} (i : Nat) (hd : decode y.2.1 pc = .ok (.astore_n j, 1)) (hj : (j : Nat) = i) (hi : i < y.2.2.1) (hn : znl ls i = true) (kk : zX E d y (pc + 1) (ls.set i (some .null)) st μ P) : zX E d y pc ls (.null :: st) μ P := kk.map (fun r ν k => ⟨k.1, fun p e s m args below meth c μ0 ad0 ad H locs LS C h1 h2 h3 h4 h5 h6 => lv_astore_nN C.1 C.2.1 hd hj h6.has hi rfl (fun LS2 h7 => k.2 p e s m args below meth c μ0 ad0 ad H locs LS2 C h1 h2 h3 h4 h5 (zlr.set1 (v := .null) hn h7))⟩)
theorem x_aload_nN {j : Fin 4} (i : Nat) (hd : decode y.2.1 pc = .ok (.aload_n j, 1)) (hi : (j : Nat) = i) (hl : ls[i]? = some (some .null)) (kk : zX E d y (pc + 1) ls (.null :: st) μ P) : zX E d y pc ls st μ P := kk.map (fun r ν k => ⟨k.1, fun p e s m args below meth c μ0 ad0 ad H locs LS C h1 h2 h3 h4 h5 h6 => lv_aload_nN C.1 C.2.1 hd hi (h6.2.2 i _ hl) (k.2 p e s m args below meth c μ0 ad0 ad H locs LS C h1 h2 h3 h4 h5 h6)⟩)
theorem x_ifnonnullN {off : Int} (hd : decode y.2.1 pc = .ok (.ifnonnull off, 3)) (kk : zX E d y (pc + 3) ls st μ P) : zX E d y pc ls (.null :: st) μ P := kk.map (fun r ν k => ⟨k.1, fun p e s m args below meth c μ0 ad0 ad H locs LS C h1 h2 h3 h4 h5 h6 => lv_ifnonnullN C.1 C.2.1 hd (k.2 p e s m args below meth c μ0 ad0 ad H locs LS C h1 h2 h3 h4 h5 h6)⟩)
theorem zkn_5 {g : Nat} (hg : g < 3) : zg (zkn μ g) 5 = zg μ 5 + 12 := by
  show (if 5 = g then 512 else if 5 = g + 2 then 1 else if 5 = 5 then zg μ 5 + 12 else _) = _
  rw [if_neg (by omega), if_neg (by omega), if_pos rfl]
theorem zkn_6 {g : Nat} (hg : g < 3) : zg (zkn μ g) 6 = zg μ 6 + 2190 := by
  show (if 6 = g then 512 else if 6 = g + 2 then 1 else if 6 = 5 then zg μ 5 + 12 else if 6 = 6 then zg μ 6 + 2190 else _) = _
  rw [if_neg (by omega), if_neg (by omega), if_neg (by decide), if_pos rfl]
theorem zkn_mono {g : Nat} (hg : g < 3) (hg1 : 1 ≤ g) : zmono μ (zkn μ g) := by
  refine ⟨by rw [zkn_5 hg]; omega, by rw [zkn_6 hg]; omega, fun h => ?_, fun h => ?_⟩
  · show (if 3 = g then 512 else if 3 = g + 2 then 1 else if 3 = 5 then zg μ 5 + 12 else if 3 = 6 then zg μ 6 + 2190 else zg μ 3) = 1
    rw [if_neg (by omega)]
    split
    · rfl
    · exact h
  · show (if 4 = g then 512 else if 4 = g + 2 then 1 else if 4 = 5 then zg μ 5 + 12 else if 4 = 6 then zg μ 6 + 2190 else zg μ 4) = 1
    rw [if_neg (by omega)]
    split
    · rfl
    · exact h
def zq12 (a q1 q2 q3 q4 q5 q6 q7 q8 q9 q10 q11 : Nat) (k : Nat) : Nat := match k with
  | 0 => a
  | 1 => q1
  | 2 => q2
  | 3 => q3
  | 4 => q4
  | 5 => q5
  | 6 => q6
  | 7 => q7
  | 8 => q8
  | 9 => q9
  | 10 => q10
  | _ => q11
theorem g_newState {i : Nat} (hi : i < 2) (h0 : zg μ (i + 3) ≠ 1) (kk : zGo E (d + 3) mX8_keep 37 [some (.ref 0), some (.int (nI i)), some (.ref (30 + 20 * i))] [] (zkn μ (i + 1)) r ν) : zGo E (d + 3) mX8_keep 22 [some (.ref 0), some (.int (nI i)), none] [] μ r ν :=
  ⟨(zkn_mono (g := i + 1) (by omega) (by omega)).tr kk.1, fun p1 e s m args below meth c μ0 ad0 ad H locs LS C h1 h2 h3 h4 h5 h6 => by
    have k5 := zkn_5 (μ := μ) (g := i + 1) (by omega)
    have k6 := zkn_6 (μ := μ) (g := i + 1) (by omega)
    have m5 := h1.1
    have m6 := h1.2.1
    have n5 := kk.1.1
    have n6 := kk.1.2.1
    have hN := C.2.2.2.2.2.2.2.2.2
    obtain ⟨q3, hq3, l1, l2, l3, l4, l5⟩ := clX8_7
    obtain ⟨ty0, hty0⟩ := zty_tbl 3 q3 hq3
    have l4 : q3.2.2 = 17 := l4
    refine va_new (R := zrm (d + 3) μ0 ν) (C := q3.1) (T := q3.2.1) (N := q3.2.2) (ws := zws E ad μ) C.1 C.2.1 C.2.2.2.2.2.2.1 (zin_tbl 3 q3 hq3) ty0 hty0 C.2.2.2.2.2.1 (C.2.2.2.2.2.2.1 _ l1) (C.2.2.2.2.2.2.1 _ l2) (C.2.2.2.2.2.2.1 _ l3) C.2.2.2.2.2.2.2.1 h4.1 h4.2.1 h5 (fun q hq => Nat.le_trans C.2.2.2.2.2.2.2.2.1 hq) hq3 (l5 ty0 hty0) (by show _ ≤ zg ν 5 - zg μ0 5; omega) (by show _ ≤ zg ν 6 - zg μ0 6; omega) dX8_keep_22 (fun q H1 hP1 hD1 hS1 => ?_)
    refine lv_dup C.1 C.2.1 dX8_keep_25 rfl ?_
    obtain ⟨⟨j1, w1⟩, w2, w3, w4, w5, w6, n1, n2, n3, n4⟩ := miX8_9
    have hne : va_Nw (.methodLinkNest RX8 9 yX3_init "LearntReasons") s := va_Nw.warmM hN.2.1 (va_Nw.of rfl (hN.2.2.2.w j1 w1))
    have hr := va_runIN (e := e) (R := zrm (d + 3) μ0 ν) (below := below) (meth := meth) (locs := locs) (cells := zg μ 5 - zg μ0 5 + 1) (slots := zg μ 6 - zg μ0 6 + q3.2.2) (host := "LearntReasons") (g := F0 m 26 LS [.ref q, .ref q]) (As := []) (rest := [.ref q]) ⟨C.1, C.2.1, C.2.2.1, C.2.2.2.2.2.1, C.2.2.2.2.2.2.1⟩ (c_X3_init (E := E) (w := zws E ad μ) (a := q) d) ⟨va_cnB 0 C.2.2.2.2.2.2.1 (zgood (zwd_in w4)) rfl rfl rfl hne (C.2.2.2.2.2.2.1 _ w3) ⟨n1, n2, n3⟩ ⟨Nat.le_refl _, by show 8 + (1 + 11) + 60 * (d + 2) ≤ 60 * (d + 3); omega⟩, w5, C.2.2.2.2.2.2.1 _ w2⟩ ⟨rPre_blind, fun U hU hW => ⟨rfl, rPre_of C.2.2.2.2.2.2.2.1 C.2.2.2.2.2.2.2.2.1 hN hP1 hD1 hS1 hU hW⟩⟩ rfl rfl h6.1 rfl (by show 2 * 0 + 1 ≤ 8; omega) dX8_keep_26 ⟨by show _ ≤ zg ν 5 - zg μ0 5; omega, by show _ ≤ zg ν 6 - zg μ0 6; omega⟩
    intro T hT0 X
    obtain ⟨v0, st₀, t, T', L, e0, X', hLf, e1, e2, ⟨v, w, hv, hB, hPD, hF⟩, st⟩ := hr T hT0 X
    cases hv
    obtain ⟨rfl, q1, q2, q3', q4, q5, q6, q7, q8, q9, q10, q11, rfl⟩ := hB
    unfold va_F at hF
    rw [e0] at hF
    have hS' : va_S (zA E) s.heap T'.heap (locs ++ L) := ⟨Nat.le_trans hS1.1 (by rw [e1]; exact hF.1), fun q g1 g2 => by rw [e1, hF.2 q (Nat.lt_of_lt_of_le g1 hS1.1) g2]; exact hS1.2.1 q g1 g2, fun q hq => by
      rcases List.mem_append.mp hq with h | h
      · exact hS1.2.2 q h
      · exact hLf q h⟩
    have hP2 : va_P (zD E) vwCl (zws E ad μ ++ zL12 E (zq12 q q1 q2 q3' q4 q5 q6 q7 q8 q9 q10 q11)) T'.heap := by rw [e1]; exact hPD.1
    have hD2 : va_D (zA E) (zws E ad μ ++ zL12 E (zq12 q q1 q2 q3' q4 q5 q6 q7 q8 q9 q10 q11)) := hPD.2
    have hz5 : zg μ 5 - zg μ0 5 + 1 + 11 = zg (zkn μ (i + 1)) 5 - zg μ0 5 := by omega
    have hz6 : zg μ 6 - zg μ0 6 + q3.2.2 + (7 + (400 + 400 + 400 + 401 + 512) + 3 + 8 + 3 + 8 + 31) = zg (zkn μ (i + 1)) 6 - zg μ0 6 := by omega
    rw [hz5, hz6] at X'
    have hqs : zq12 q q1 q2 q3' q4 q5 q6 q7 q8 q9 q10 q11 0 = q := rfl
    generalize zq12 q q1 q2 q3' q4 q5 q6 q7 q8 q9 q10 q11 = qs at hP2 hD2 hqs
    subst hqs
    have ho : ∀ p, p < 30 → zan ad (i + 1) qs p = ad p := fun p hp => zan_out (by omega)
    have hnew : zan ad (i + 1) qs (30 + 20 * i) = qs 0 := by rw [zan_in (by omega), show 30 + 20 * i - (10 + 20 * (i + 1)) = 0 by omega]
    have h6' : zlr (zan ad (i + 1) qs) 3 [some (.ref 0), some (.int (nI i)), none] LS := ⟨h6.1, h6.2.1, fun j v hj => by
      match j, hj with
      | 0, hj => cases hj; have := h6.2.2 0 _ rfl; show LS[0]? = some (.val (.ref (zan ad (i + 1) qs 0))); rw [ho 0 (by decide)]; exact this
      | 1, hj => cases hj; exact h6.2.2 1 _ rfl
      | 2, hj => cases hj
      | k + 3, hj => cases hj⟩
    obtain ⟨i0, hi01, hi02⟩ := zws_at (E := E) (ad := ad) (μ := μ) (p := 0) (zpl_b rfl)
    obtain ⟨i2, hi21, hi22⟩ := zws_at (E := E) (ad := ad) (μ := μ) (p := 2) (zpl_b rfl)
    rw [zcel_obj (c := 8) rfl] at hi02
    rw [zcel_2] at hi22
    obtain ⟨q8', hq8, hk8, hown8, hl8⟩ := fX8_16
    have kW : W p1 E.1 e (zrm (d + 3) μ0 ν) s m args below meth c T'.heap (locs ++ L) (zg (zkn μ (i + 1)) 5 - zg μ0 5) (zg (zkn μ (i + 1)) 6 - zg μ0 6) (MQ below (zQ E ad0 μ0 r ν) args s (zg ν 5 - zg μ0 5) (zg ν 6 - zg μ0 6) (zA E)) (F0 m 29 LS [.ref (qs 0)]) := by
      refine lv_astore_n C.1 C.2.1 dX8_keep_29 rfl h6'.has (by decide) rfl (fun LS2 h7 => ?_)
      have h7' : zlr (zan ad (i + 1) qs) 3 [some (.ref 0), some (.int (nI i)), some (.ref (30 + 20 * i))] LS2 := zlr.set1 (ls := [some (.ref 0), some (.int (nI i)), none]) (i := 2) (v := .ref (30 + 20 * i)) rfl (by show lv_has LS2 3 ((2, .ref (zan ad (i + 1) qs (30 + 20 * i))) :: _); rw [hnew]; exact h7)
      have r0 : LS2[0]? = some (.val (.ref (ad 0))) := by rw [← ho 0 (by decide)]; exact h7'.2.2 0 _ rfl
      have r1 : LS2[1]? = some (.val (.int (nI i))) := h7'.2.2 1 _ rfl
      have r2 : LS2[2]? = some (.val (.ref (qs 0))) := by rw [← hnew]; exact h7'.2.2 2 _ rfl
      refine lv_aload_n C.1 C.2.1 dX8_keep_30 rfl r0 ?_
      refine va_get C.1 C.2.1 (C := q8'.1) (T := q8'.2.1) (N := q8'.2.2) C.2.2.2.2.2.2.1 (zin_tbl 8 q8' hq8) C.2.2.2.2.2.1 C.2.2.2.2.2.2.2.1 hP2 i0 (by rw [List.getElem?_append_left (List.getElem?_eq_some_iff.mp hi02).1]; exact hi02) hq8 1 hk8 (ref := q8'.1) (C.2.2.2.2.2.2.1 _ hl8) (fun x hx => by rw [← hown8]; exact hx) (v := .ref (ad 2)) rfl dX8_keep_31 ?_
      refine lv_iload_n C.1 C.2.1 dX8_keep_34 rfl r1 ?_
      refine lv_aload_n C.1 C.2.1 dX8_keep_35 rfl r2 ?_
      refine va_astq C.1 C.2.1 C.2.2.2.2.2.2.2.1 hP2 hD2 hS' i2 5 ((zws E ad μ).length + 0) 3 (r := (RX3, TX3, 17)) (by rw [List.getElem?_append_left (List.getElem?_eq_some_iff.mp hi22).1]; exact hi22) (ztys_at (by decide)) (rix rfl) rfl (zvin hi (by omega)) dX8_keep_36 (fun H2 locs2 hP3 hD3 hS3 => ?_)
      rw [nI_clamp (by omega)] at hP3 hD3
      refine kk.2 p1 e s m args below meth c μ0 ad0 (zan ad (i + 1) qs) H2 locs2 LS2 C (h1.tr (zkn_mono (by omega) (by omega))) (fun p hp hs => ?_) (fun q => absurd q (by omega)) (zkept (by omega) (by omega) h0 h4.2.2 h4.2.1 hi21 hP3 hD3) hS3 h7'
      rw [zan_out (zpl_nb (μ := μ) (by omega) (by omega) h0 (zpl_mono h1 hp))]
      exact h2 p hp hs
    obtain ⟨t2, a1, b1⟩ := kW T' rfl X'
    exact ⟨t2, st t2 a1, b1⟩⟩
end KP
