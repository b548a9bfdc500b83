/-! the store's makeRoom -/
section ROOM2
variable {E : zEnv} {d : Nat} {μ : zMem} {ws : va_W}
theorem rPre_blind {as : List Value} : FrameBlind (va_Pc as (rPre E ws)) := fun a U g mk q => ⟨q.1, va_K.moved (u := U) (U := U.calling g mk a) (Vm.Alike.refl U.vm) q.2.1, q.2.2.1, q.2.2.2.1, q.2.2.2.2.same rfl rfl⟩
theorem rPre_of {s U : State} {H : Heap} {locs : List Loc} (hK : zK E s) (hlo : zlo E ≤ s.heap.size) (hN : zN E s) (hP : va_P (zD E) vwCl ws H) (hD : va_D (zA E) ws) (h5 : va_S (zA E) s.heap H locs) (hU : U.heap = H) (hW : s.WarmedH U.vm) : rPre E ws U := ⟨va_K.moved hW.alike hK, ⟨by rw [hU]; exact hP, hD⟩, by rw [hU]; exact Nat.le_trans hlo h5.1, hN.warm hW hU h5 hlo⟩
theorem zPLr : ∃ q : vw_C, vwCl[5]? = some q ∧ 4 < q.2.2 ∧ (q.2.1 4).1 = q.1 ∧ Cond.fieldLink RX5 25 q.1 (q.2.1 4).2.1 (q.2.1 4).2.2.1 ∈ zT ∧ (q.2.1 4).2.2.2 = false ∧ parseFieldDescriptor (q.2.1 4).2.2.1 = some (.array .int) := by
  obtain ⟨q, h1, h2, h3, h4⟩ := fX5_25
  cases h1
  exact ⟨_, rfl, h2, h3, h4, by decide, by decide +kernel⟩
theorem zstab_lit {g : Nat} (hg : g < 3) : zstab (16 + 20 * g) = false := by match g, hg with | 0, _ => rfl | 1, _ => rfl | 2, _ => rfl
theorem zlr_lit {g : Nat} (hg : g < 3) : zln μ (16 + 20 * g) = zg μ g := by match g, hg with | 0, _ => rfl | 1, _ => rfl | 2, _ => rfl
theorem g_room {g N : Nat} {x : Int32} (hg : g < 3) (hL : zar μ (16 + 20 * g) 0) (hS : zat μ (11 + 20 * g) 5) (hN : zg μ g < N) (hN2 : N ≤ 1000000) : zGo E (d + 2) mX5_makeRoom 25 [some (.ref (11 + 20 * g)), some (.int x)] [.int (nI N), .ref (16 + 20 * g), .ref (11 + 20 * g)] μ none (zgm μ g N) :=
  ⟨zgm_mono hg, fun p1 e s m args below meth c μ0 ad0 ad H locs LS C h1 h2 h3 h4 h5 h6 => by
    obtain ⟨hT, hn1, hn2, hn3, hn4⟩ := lX5_59
    have hmL := Nat.le_of_ble_eq_true hn4
    have m5 := h1.1
    have m6 := h1.2.1
    have g5 := zgm_5 (μ := μ) (N := N) hg
    have g6 := zgm_6 (μ := μ) (N := N) hg
    obtain ⟨iL, hiL1, hiL2⟩ := zws_at (E := E) (ad := ad) hL.1
    rw [zcel_arr hL.2.1 hL.2.2, zarr_int (by decide), zlr_lit hg] at hiL2
    obtain ⟨iS, hiS1, hiS2⟩ := zws_at (E := E) (ad := ad) hS.1
    have hfs := zcel_obj (E := E) (ad := ad) (μ := μ) hS.2
    have hr := va_runS (e := e) (R := zrm (d + 2) μ0 (zgm μ g N)) (below := below) (meth := meth) (locs := locs) (cells := zg μ 5 - zg μ0 5) (slots := zg μ 6 - zg μ0 6) (g := F0 m 25 LS [.int (nI N), .ref (ad (16 + 20 * g)), .ref (ad (11 + 20 * g))]) (As := [.ref (ad (16 + 20 * g)), .int (nI N)]) (rest := [.ref (ad (11 + 20 * g))]) ⟨C.1, C.2.1, C.2.2.1, C.2.2.2.2.2.1, C.2.2.2.2.2.2.1⟩ (q_copyOf (E := E) d hiL2 hN hN2) (va_cwS 2 C.2.2.2.2.2.2.1 (zgood hT) rfl rfl rfl ⟨hn1, hn2, hn3⟩ ⟨Nat.le_refl _, by show 8 + (3 + 11) + 60 * (d + 1) ≤ 60 * (d + 2); omega⟩) ⟨rPre_blind, fun U hU hW => ⟨rfl, rPre_of C.2.2.2.2.2.2.2.1 C.2.2.2.2.2.2.2.2.1 C.2.2.2.2.2.2.2.2.2 h4.1 h4.2.1 h5 hU hW⟩⟩ rfl rfl h6.1 rfl (Nat.le_of_ble_eq_true rfl) dX5_makeRoom_25 ⟨by show _ ≤ zg (zgm μ g N) 5 - zg μ0 5; omega, by show _ ≤ zg (zgm μ g N) 6 - zg μ0 6; omega⟩
    intro T hT0 X
    obtain ⟨v0, st₀, t, T', L, e0, X', hLf, e1, e2, ⟨v, w, hv, ⟨q, hvq, hw⟩, hPD, hF⟩, st⟩ := hr T hT0 X
    cases hv
    subst hvq
    subst hw
    unfold va_F at hF
    rw [e0] at hF
    have hS' : va_S (zA E) s.heap T'.heap (locs ++ L) := ⟨Nat.le_trans h5.1 (by rw [e1]; exact hF.1), fun q g1 g2 => by rw [e1, hF.2 q (Nat.lt_of_lt_of_le g1 h5.1) g2]; exact h5.2.1 q g1 g2, fun q hq => by
      rcases List.mem_append.mp hq with h | h
      · exact h5.2.2 q h
      · exact hLf q h⟩
    have hPD1 : va_P (zD E) vwCl (zWn E ad μ g N q) T'.heap := by rw [e1]; exact hPD.1
    have hiSn : (zWn E ad μ g N q)[iS]? = some (ad (11 + 20 * g), .inr (5, (List.range (znf 5)).map (fun k => zfv ad μ (11 + 20 * g) k))) := by
      unfold zWn
      rw [List.getElem?_append_left (List.getElem?_eq_some_iff.mp hiS2).1, hiS2, hfs]
    obtain ⟨q5, hq, hk, hown, hl, hfin, hty⟩ := zPLr
    obtain ⟨ty0, hty0⟩ := zty_tbl 5 q5 hq
    have hz5 : zg μ 5 - zg μ0 5 + 1 = zg (zgm μ g N) 5 - zg μ0 5 := by omega
    have hz6 : zg μ 6 - zg μ0 6 + N = zg (zgm μ g N) 6 - zg μ0 6 := by omega
    rw [hz5, hz6] at X'
    have kW := va_put (e := e) (l := E.1) (R := zrm (d + 2) μ0 (zgm μ g N)) (below := below) (meth := meth) (ls := LS) (rest := []) (pc := 28) (cells := zg (zgm μ g N) 5 - zg μ0 5) (slots := zg (zgm μ g N) 6 - zg μ0 6) (Q := MQ below (zQ E ad0 μ0 none (zgm μ g N)) args s (zg (zgm μ g N) 5 - zg μ0 5) (zg (zgm μ g N) 6 - zg μ0 6) (zA E)) (v := .ref q) C.1 C.2.1 (C := q5.1) (T := q5.2.1) (N := q5.2.2) C.2.2.2.2.2.2.1 (zin_tbl 5 q5 hq) ty0 hty0 (znm_tbl 5 q5 hq) C.2.2.2.2.2.1 C.2.2.2.2.2.2.2.1 hPD1 hPD.2 hS' iS hiSn hq 4 hk (ref := q5.1) (C.2.2.2.2.2.2.1 _ hl) (fun x hx => by rw [← hown]; exact hx) hfin hty rfl rfl (by rw [List.length_map, List.length_range]; decide) dX5_makeRoom_28 (fun H1 locs1 hP hD hS => by
      refine W.vret C.1 C.2.1 (C.2.2.2.1.trans rfl) (fun t ht hW => ?_) (fun q hq => hS.2.2 q hq) dX5_makeRoom_31 C.2.2.2.2.1
      refine ⟨zam ad g q, fun p hp hs => ?_, fun h => absurd h (by omega), rfl, ?_, hS.F ht⟩
      · rw [zam_ne (fun e => by
          rw [e, zstab_lit hg] at hs; cases hs)]
        exact h2 p hp hs
      · rw [ht]
        exact zmoved hg h4.2.2 h4.2.1 hL.1 hiS1 hfs.symm hP hD)
    obtain ⟨t2, a1, b1⟩ := kW T' rfl X'
    exact ⟨t2, st t2 a1, b1⟩⟩
/-- how long the row of literals is behind makeRoom(n) -/
def kRl (L n : Nat) : Nat := if n ≤ L then L else if 2 * L < n then n else 2 * L
def k_room (μ : zMem) (g n : Nat) : zMem := if n ≤ zg μ g then μ else zgm μ g (kRl (zg μ g) n)
theorem s_makeRoom {g n : Nat} (hg : g < 3) (hL : zar μ (16 + 20 * g) 0) (hS : zat μ (11 + 20 * g) 5) (hn : n ≤ 24000) (hL2 : zg μ g ≤ 24000) : zTr E (d + 2) mX5_makeRoom [.ref (11 + 20 * g), .int (nI n)] μ none (k_room μ g n) := by
  have hrf : zrf (11 + 20 * g) 4 = some (16 + 20 * g) := by match g, hg with | 0, _ => rfl | 1, _ => rfl | 2, _ => rfl
  refine zM.tr (zM_of [some (.ref (11 + 20 * g)), some (.int (nI n))] (by decide) rfl (Nat.le_of_ble_eq_true rfl) ?_)
  refine x_iload_n 1 dX5_makeRoom_0 rfl rfl ?_
  refine x_aload_n 0 dX5_makeRoom_1 rfl rfl ?_
  refine x_getr (16 + 20 * g) dX5_makeRoom_2 fX5_25 hS hrf ?_
  refine x_alen dX5_makeRoom_5 hL (by decide) ?_
  rw [zlr_lit hg]
  unfold k_room
  by_cases h : n ≤ zg μ g
  · rw [if_pos h]
    refine x_icmp_le_t 31 dX5_makeRoom_6 (by decide) (nI_le h (by omega)) ?_
    refine x_vret dX5_makeRoom_31 rfl ?_
    exact ⟨rfl, rfl⟩
  · rw [if_neg h]
    refine x_icmp_le_f 31 dX5_makeRoom_6 (by decide) (nI_ge (by omega) (by omega)) ?_
    refine x_aload_n 0 dX5_makeRoom_9 rfl rfl ?_
    refine x_aload_n 0 dX5_makeRoom_10 rfl rfl ?_
    refine x_getr (16 + 20 * g) dX5_makeRoom_11 fX5_25 hS hrf ?_
    refine x_iload_n 1 dX5_makeRoom_14 rfl rfl ?_
    refine x_iconst (nI 2) dX5_makeRoom_15 (by decide) ?_
    refine x_aload_n 0 dX5_makeRoom_16 rfl rfl ?_
    refine x_getr (16 + 20 * g) dX5_makeRoom_17 fX5_25 hS hrf ?_
    refine x_alen dX5_makeRoom_20 hL (by decide) ?_
    rw [zlr_lit hg]
    refine x_imul dX5_makeRoom_21 ?_
    rw [pk_mul]
    refine x_mmax dX5_makeRoom_22 lX5_53 (Nat.le_of_ble_eq_true rfl) ?_
    have hk : k_max (nI n) (nI (2 * zg μ g)) = nI (kRl (zg μ g) n) := by
      unfold k_max kRl
      rw [if_neg h]
      by_cases h2 : 2 * zg μ g < n
      · rw [if_neg (nI_nlt (by omega) (by omega)), if_pos h2]
      · rw [if_neg h2]
        by_cases h3 : n < 2 * zg μ g
        · rw [if_pos (nI_lt h3 (by omega))]
        · rw [if_neg (nI_nlt (by omega) (by omega)), show n = 2 * zg μ g by omega]
    rw [hk]
    have hb : zg μ g < kRl (zg μ g) n ∧ kRl (zg μ g) n ≤ 1000000 := by
      unfold kRl
      rw [if_neg h]
      split <;> omega
    exact ⟨none, zgm μ g (kRl (zg μ g) n), ⟨rfl, rfl⟩, g_room hg hL hS hb.1 hb.2⟩
end ROOM2
