/-! the law's clause where the class's throws -/
def k_thT (τ : (Nat → Nat → Int64) × (Nat → Nat)) : (Nat → Nat → Int64) × (Nat → Nat) := (τ.1, fun k => if k = 5 then τ.2 5 + 1 else if k = 6 then τ.2 6 + 6 else τ.2 k)
section TH4
variable {E : zEnv} {κ α : Nat → Nat → Int32} {τ : (Nat → Nat → Int64) × (Nat → Nat)}
theorem zws_th {ad : Nat → Nat} : zws E ad (κ, α, k_thT τ) = zws E ad (κ, α, τ) := rfl
theorem zWd_th {ad : Nat → Nat} {H : Heap} (h : zWd E ad (κ, α, τ) H) : zWd E ad (κ, α, k_thT τ) H := by
  unfold zWd
  rw [zws_th]
  exact h
theorem s_lawTh (d : Nat) {c w : Int32} (h : zTh E (d + 8) [.ref 0, .int c, .int w] (κ, α, τ)) : zTrW E (d + 9) mL_clause zhh [.ref 0, .int c, .int w, .ref 130] (κ, α, τ) (some (.int (nI 1))) (κ, α, k_thT τ) := by
  have hz5 : zg (κ, α, k_thT τ) 5 - zg (κ, α, τ) 5 = 1 := by show τ.2 5 + 1 - τ.2 5 = 1; omega
  have hz6 : zg (κ, α, k_thT τ) 6 - zg (κ, α, τ) 6 = 6 := by show τ.2 6 + 6 - τ.2 6 = 6; omega
  refine ⟨⟨by show τ.2 5 ≤ τ.2 5 + 1; omega, by show τ.2 6 ≤ τ.2 6 + 6; omega, fun q => q, fun q => q⟩, fun ad => ?_⟩
  unfold zrm
  rw [hz5, hz6]
  refine va_MetW (cc := cL_clause) (maxL := 5) (ret := some .int) (hh := zhh) (by decide) rfl ?_
  intro p e s m args below meth cd s₁ B hml hv
  obtain ⟨rfl, hK, hWd, hlo, hN⟩ := hv
  have hts := atoms_spec (ws := zwdW mL_clause zhh) B.pre
  have C : zCx E mL_clause p s m ([.ref 0, .int c, .int w, .ref 130].map (ztv ad)).toArray meth cd := ⟨B.exec, B.bytes, hml, B.returns, B.notSynchronized, findClass_of_methodNamed B.named, fun w h => hts w (List.mem_cons_of_mem _ h), hK, hlo, hN⟩
  have htab : cd.exceptionTable.toList = tableOf zhh := vx_table (x := yL_clause) B (hts _ List.mem_cons_self)
  obtain ⟨LS, e1, hz⟩ := zentry (ad := ad) (m := m) (as := [.ref 0, .int c, .int w, .ref 130]) (n := 5) (ls := [some (.ref 0), some (.int c), some (.int w), some (.ref 130), none]) rfl (Nat.le_of_ble_eq_true rfl)
  rw [e1]
  have r0 : LS[0]? = some (.val (.ref (ad 0))) := hz.2.2 0 _ rfl
  have r1 : LS[1]? = some (.val (.int c)) := hz.2.2 1 _ rfl
  have r2 : LS[2]? = some (.val (.int w)) := hz.2.2 2 _ rfl
  have r3 : LS[3]? = some (.val (.ref (ad 130))) := hz.2.2 3 _ rfl
  obtain ⟨i0, hi01, hi02⟩ := zws_at (E := E) (ad := ad) (μ := (κ, α, τ)) (p := 0) (zpl_b rfl)
  rw [zcel_obj (c := 8) rfl] at hi02
  refine lv_aload_n C.1 C.2.1 dL_clause_0 rfl r3 ?_
  refine lv_iconst C.1 C.2.1 (v := nI 0) dL_clause_1 (by decide) ?_
  refine lv_aload_n C.1 C.2.1 dL_clause_2 rfl r0 ?_
  refine lv_iload_n C.1 C.2.1 dL_clause_3 rfl r1 ?_
  refine lv_iload_n C.1 C.2.1 dL_clause_4 rfl r2 ?_
  obtain ⟨hT, n1, n2, n3, n4⟩ := lL_7
  obtain ⟨cell, g1, g2, g3⟩ := va_recv C.2.2.2.2.2.2.2.1 hWd.1 (q := (RX8, TX8, 7)) rfl hi02
  have hr := vx_runV (e := e) (R := ({ frames := d + 9, cells := 1, slots := 6, locals := 60 * (d + 9) } : Room)) (below := below) (meth := meth) (locs := []) (cells := 0) (slots := 0) (g := F0 m 5 LS [.int w, .int c, .ref (ad 0), .int (nI 0), .ref (ad 130)]) (As := [.int c, .int w]) (rest := [.int (nI 0), .ref (ad 130)]) ⟨C.1, C.2.1, C.2.2.1, C.2.2.2.2.2.1, C.2.2.2.2.2.2.1⟩ (h ad) (cwV 2 C.2.2.2.2.2.2.1 (zgood hT) rfl rfl rfl ⟨rfl, n1, n2, n3⟩ ⟨by show d + 8 + 1 ≤ d + 9; omega, by show 8 + (4 + 11) + 60 * (d + 8) ≤ 60 * (d + 9); omega⟩) ⟨zPre_blind, ⟨cell, g1, g2, g3⟩, fun U hU hWm => ⟨rfl, zPre_of hK hlo hN hWd va_S.rf hU hWm⟩⟩ rfl rfl hz.1 rfl (by show 2 * 0 + 2 ≤ 8; omega) dL_clause_5 ⟨by show 0 + 1 ≤ 1; omega, by show 0 + 6 ≤ 6; omega⟩
  intro T hT0 X
  rcases hr T hT0 X with ⟨v, st₀, t, T', L, -, -, -, -, -, hF, -⟩ | ⟨q, st₀, t, T', L, Xn, ce, e0, X', hLf, e3, e4, ⟨rfl, hWd2, hF⟩, hcell, hvn, hcl, hst⟩
  · exact hF.elim
  · unfold va_F at hF
    rw [e0] at hF
    have hS' : va_S (zA E) s.heap T'.heap ([] ++ L) := ⟨by rw [e3]; exact hF.1, fun q g1 g2 => by rw [e3]; exact hF.2 q g1 g2, fun q hq => hLf q (by simpa using hq)⟩
    have hcast : (Cond.castable zNSE zNSE).before ([.ref 0, .int c, .int w, .ref 130].map (ztv ad)).toArray s = true := va_Nw.use rfl (va_Nw.warmC hN.2.1 (va_Nw.of rfl (hN.2.2.2.w 1058 (by decide +kernel))))
    have kk : W p E.1 e ({ frames := d + 9, cells := 1, slots := 6, locals := 60 * (d + 9) } : Room) s m ([.ref 0, .int c, .int w, .ref 130].map (ztv ad)).toArray below meth cd T'.heap ([] ++ L) (0 + 1) (0 + 6) (MQ below (zQ E ad (κ, α, τ) (some (.int (nI 1))) (κ, α, k_thT τ)) ([.ref 0, .int c, .int w, .ref 130].map (ztv ad)).toArray s 1 6 (zA E)) (F0 m 13 LS [.ref q]) := by
      refine lv_astore C.1 C.2.1 dL_clause_13 hz.has (by decide) rfl (fun LS2 h7 => ?_)
      refine lv_iconst C.1 C.2.1 (v := nI 1) dL_clause_15 (by decide) ?_
      exact W.iret C.1 C.2.1 (C.2.2.2.1.trans rfl) (fun t2 ht2 hW2 => ⟨ad, zagr.rf, fun _ => rfl, rfl, by rw [ht2, e3]; exact zWd_th hWd2, hS'.F ht2⟩) (fun q hq => hS'.2.2 q hq) dL_clause_16 C.2.2.2.2.1
    obtain ⟨t2, a1, b1⟩ := (vx_catch (own := RL) (name := zNSE) (E := zNSE) (pc := 5) (ls := LS) (rest := [.int (nI 0), .ref (ad 130)]) C.2.2.2.2.2.1 [] ⟨0, 10, 13, 13⟩ [] (by rw [htab]; rfl) (fun z hz => by cases hz) (by decide) (by decide) (C.2.2.2.2.2.2.1 _ (zt_of 1051 (by decide +kernel) (by decide +kernel))) hcast (by rw [e3]; exact hcell) hvn hcl kk) T' rfl X'
    exact ⟨t2, hst.trans a1, b1⟩
end TH4
