/-! Arrays.copyOf, and the row of literals that grows -/
section ROOM
variable {E : zEnv} {d : Nat} {μ : zMem} {ws : va_W}
theorem vp_cellI (N : Nat) (cA : ClassId) : vp_cell cA (N, .inl (fun _ => (0 : Int32))) = arrV cA N (fun _ => defaultValue .int) := rfl
theorem q_copyOf (d : Nat) {i a n N : Nat} {f : Nat → Int32} (hi : ws[i]? = some (a, .inl (zcy E 0, n, .inl f))) (hn : n < N) (hN : N ≤ 1000000) : rTr E (d + 1) mJ7_copyOf_59c91 [.ref a, .int (nI N)] ws 1 N (fun v w => ∃ q, v = some (.ref q) ∧ w = ws ++ [(q, .inl (zcy E 0, N, .inl (va_cpy f (fun _ => 0) 0 0 n)))]) := by
  have hlen : i < ws.length := (List.getElem?_eq_some_iff.mp hi).1
  refine rTr_of [some (.ref a), some (.int (nI N)), none] (by decide) rfl (Nat.le_of_ble_eq_true rfl) ?_
  refine r_iload_n 1 dJ7_copyOf_59c91_0 rfl rfl ?_
  refine r_aload_n 0 dJ7_copyOf_59c91_1 rfl rfl ?_
  refine r_alen (cA := zcy E 0) i dJ7_copyOf_59c91_2 hi (by decide) ?_
  refine r_icmp_ne 14 dJ7_copyOf_59c91_3 (by decide) (fun _ => ?_) (fun h => absurd ((nI_eq (by omega) (by omega)).mp h) (by omega))
  refine r_iload_n 1 dJ7_copyOf_59c91_14 rfl rfl ?_
  refine r_newa (t := 0) (N := N) .int dJ7_copyOf_59c91_15 rfl (by decide) w_arrI (vp_cellI N) rfl (Nat.ble_eq_true_of_le hN) (by decide) (Nat.le_refl _) (by omega) (fun q => ?_)
  refine r_astore_n 2 dJ7_copyOf_59c91_17 rfl (by decide) rfl ?_
  refine r_aload_n 0 dJ7_copyOf_59c91_18 rfl rfl ?_
  refine r_iconst (nI 0) dJ7_copyOf_59c91_19 (by decide) ?_
  refine r_aload_n 2 dJ7_copyOf_59c91_20 rfl rfl ?_
  refine r_iconst (nI 0) dJ7_copyOf_59c91_21 (by decide) ?_
  refine r_aload_n 0 dJ7_copyOf_59c91_22 rfl rfl ?_
  refine r_alen (cA := zcy E 0) (f := f) i dJ7_copyOf_59c91_23 (by rw [List.getElem?_append_left hlen]; exact hi) (by decide) ?_
  refine r_iload_n 1 dJ7_copyOf_59c91_24 rfl rfl ?_
  refine r_mmin dJ7_copyOf_59c91_25 lJ7_304 (Nat.le_of_ble_eq_true rfl) (Nat.le_refl _) (by omega) ?_
  have hmin : k_min (nI n) (nI N) = nI n := by unfold k_min; rw [if_neg (nI_nlt (by omega) (by omega))]
  rw [hmin]
  refine r_copyi (t := 0) (sp := 0) (dp := 0) (n := n) (f := f) (g := fun _ => 0) (n1 := N) i ws.length dJ7_copyOf_59c91_28 w_cpyJ7 (by rw [List.getElem?_append_left hlen]; exact hi) (by simp) (by decide) rfl rfl rfl (by omega) (by omega) (by omega) (fun i hi => rfl) (Nat.le_of_ble_eq_true rfl) ?_
  refine r_aload_n 2 dJ7_copyOf_59c91_31 rfl rfl ?_
  refine r_aret dJ7_copyOf_59c91_32 rfl rfl (by omega) ⟨q, rfl, ?_⟩
  simp
/-- the memory behind a row of literals that has grown: of the state now (0), of those that are kept (1, 2) -/
def zgm (μ : zMem) (g N : Nat) : zMem := (fun p j => if p = 16 + 20 * g ∧ zg μ g ≤ j then 0 else μ.1 p j, μ.2.1, μ.2.2.1, fun k => if k = g then N else if k = 5 then zg μ 5 + 1 else if k = 6 then zg μ 6 + N else zg μ k)
theorem zrf_lit : ∀ g < 3, ∀ p < 131, ∀ k < 28, zrf p k = some (16 + 20 * g) → p = 11 + 20 * g := by decide +kernel
theorem znf_le : ∀ p < 131, ∀ c, zcls p = some c → znf c ≤ 28 := by
  intro p hp c hc
  obtain ⟨q, h1, h2⟩ := zcls_lt hc
  have : ∀ q ∈ vwCl, q.2.2 ≤ 28 := by decide
  rw [← h2]
  exact this q (List.mem_of_getElem? h1)
theorem zpl_lt {p : Nat} (h : p ∈ zpl μ) : p < 131 := by
  unfold zpl at h
  rcases List.mem_append.mp h with h | h
  · have := List.mem_range.mp (List.mem_filter.mp h).1; omega
  · rcases List.mem_append.mp h with h | h
    · by_cases z : zg μ 3 = 1
      · rw [if_pos z] at h
        have : ∀ q ∈ zB0, q < 131 := by decide
        exact this p h
      · rw [if_neg z] at h; cases h
    · by_cases z : zg μ 4 = 1
      · rw [if_pos z] at h
        have : ∀ q ∈ zB1, q < 131 := by decide
        exact this p h
      · rw [if_neg z] at h; cases h
theorem zpl_gm {g N : Nat} (hg : g < 3) : zpl (zgm μ g N) = zpl μ := by
  unfold zpl
  have h3 : zg (zgm μ g N) 3 = zg μ 3 := by
    show (if 3 = g then N else if 3 = 5 then zg μ 5 + 1 else if 3 = 6 then zg μ 6 + N else zg μ 3) = _
    rw [if_neg (by omega), if_neg (by decide), if_neg (by decide)]
  have h4 : zg (zgm μ g N) 4 = zg μ 4 := by
    show (if 4 = g then N else if 4 = 5 then zg μ 5 + 1 else if 4 = 6 then zg μ 6 + N else zg μ 4) = _
    rw [if_neg (by omega), if_neg (by decide), if_neg (by decide)]
  rw [h3, h4]
theorem zgm_5 {g N : Nat} (hg : g < 3) : zg (zgm μ g N) 5 = zg μ 5 + 1 := by
  show (if 5 = g then N else if 5 = 5 then zg μ 5 + 1 else if 5 = 6 then zg μ 6 + N else zg μ 5) = _
  rw [if_neg (by omega), if_pos rfl]
theorem zgm_6 {g N : Nat} (hg : g < 3) : zg (zgm μ g N) 6 = zg μ 6 + N := by
  show (if 6 = g then N else if 6 = 5 then zg μ 5 + 1 else if 6 = 6 then zg μ 6 + N else zg μ 6) = _
  rw [if_neg (by omega), if_neg (by decide), if_pos rfl]
theorem zgm_mono {g N : Nat} (hg : g < 3) : zmono μ (zgm μ g N) := by
  refine ⟨by rw [zgm_5 hg]; omega, by rw [zgm_6 hg]; omega, fun h => ?_, fun h => ?_⟩
  · show (if 3 = g then N else if 3 = 5 then zg μ 5 + 1 else if 3 = 6 then zg μ 6 + N else zg μ 3) = _
    rw [if_neg (by omega), if_neg (by decide), if_neg (by decide)]; exact h
  · show (if 4 = g then N else if 4 = 5 then zg μ 5 + 1 else if 4 = 6 then zg μ 6 + N else zg μ 4) = _
    rw [if_neg (by omega), if_neg (by decide), if_neg (by decide)]; exact h
theorem zr_gm {g N p i : Nat} (hp : p ≠ 16 + 20 * g) : zr (zgm μ g N) p i = zr μ p i := by
  unfold zr
  cases Nat.ble 100 p
  · show (if p = 16 + 20 * g ∧ zg μ g ≤ i then 0 else μ.1 p i) = μ.1 p i
    rw [if_neg (fun q => hp q.1)]
  · rfl
theorem zln_gm {g N p : Nat} (hg : g < 3) (hp : p ≠ 16 + 20 * g) : zln (zgm μ g N) p = zln μ p := by
  have key : ∀ k, k < 3 → k ≠ g → zg (zgm μ g N) k = zg μ k := fun k hk hne => by
    show (if k = g then N else if k = 5 then zg μ 5 + 1 else if k = 6 then zg μ 6 + N else zg μ k) = _
    rw [if_neg hne, if_neg (by omega), if_neg (by omega)]
  unfold zln
  by_cases h1 : p = 16
  · subst h1; exact key 0 (by decide) (by omega)
  · by_cases h2 : p = 36
    · subst h2; exact key 1 (by decide) (by omega)
    · by_cases h3 : p = 56
      · subst h3; exact key 2 (by decide) (by omega)
      · have b1 : Nat.beq p 16 = false := by cases h : Nat.beq p 16 with | false => rfl | true => exact absurd (Nat.eq_of_beq_eq_true h) h1
        have b2 : Nat.beq p 36 = false := by cases h : Nat.beq p 36 with | false => rfl | true => exact absurd (Nat.eq_of_beq_eq_true h) h2
        have b3 : Nat.beq p 56 = false := by cases h : Nat.beq p 56 with | false => rfl | true => exact absurd (Nat.eq_of_beq_eq_true h) h3
        rw [b1, b2, b3]; rfl
/-- addresses with the row of literals moved to q -/
def zam (ad : Nat → Nat) (g q : Nat) : Nat → Nat := fun p => if p = 16 + 20 * g then q else ad p
theorem zam_ne {ad : Nat → Nat} {g q p : Nat} (h : p ≠ 16 + 20 * g) : zam ad g q p = ad p := if_neg h
theorem zam_eq {ad : Nat → Nat} {g q : Nat} : zam ad g q (16 + 20 * g) = q := if_pos rfl
theorem zcel_gm {ad : Nat → Nat} {g N q p : Nat} (hg : g < 3) (hp : p < 131) (h1 : p ≠ 16 + 20 * g) (h2 : p ≠ 11 + 20 * g) : zcel E (zam ad g q) (zgm μ g N) p = zcel E ad μ p := by
  unfold zcel
  cases hc : zcls p with
  | some c =>
    show Sum.inr (c, _) = Sum.inr (c, _)
    refine congrArg (fun l => Sum.inr (c, l)) (List.map_congr_left (fun k hk => ?_))
    have hk28 := Nat.lt_of_lt_of_le (List.mem_range.mp hk) (znf_le p hp c hc)
    unfold zfv
    cases hr : zrf p k with
    | none => show Value.int _ = Value.int _; rw [zr_gm h1]
    | some r =>
      show Value.ref _ = Value.ref _
      rw [zam_ne (fun e => h2 (zrf_lit g hg p hp k hk28 (by rw [hr, e])))]
  | none =>
    show (match zaty p with | some a => zarr E (zam ad g q) (zgm μ g N) p a | none => _) = (match zaty p with | some a => zarr E ad μ p a | none => _)
    cases zaty p with
    | none => rfl
    | some a =>
      show zarr E (zam ad g q) (zgm μ g N) p a = zarr E ad μ p a
      have hz : ∀ i, zr (zgm μ g N) p i = zr μ p i := fun i => zr_gm h1
      have ha : ∀ i, zam ad g q (30 + 20 * i) = ad (30 + 20 * i) := fun i => zam_ne (by omega)
      unfold zarr
      simp only [hz, zln_gm hg h1, ha]
      rfl
theorem zws_len {ad : Nat → Nat} : (zws E ad μ).length = (zpl μ).length := by unfold zws; rw [List.length_map]
/-- a place stands once in the world -/
theorem zpl_once {ad : Nat → Nat} (hD : va_D (zA E) (zws E ad μ)) {i j p : Nat} (hi : (zpl μ)[i]? = some p) (hj : (zpl μ)[j]? = some p) : i = j :=
  hD.1 i j (ad p, zcel E ad μ p) (ad p, zcel E ad μ p) (by unfold zws; rw [List.getElem?_map, hi]; rfl) (by unfold zws; rw [List.getElem?_map, hj]; rfl) rfl
/-- the world behind the copy, and behind the field that now points to it -/
def zWn (E : zEnv) (ad : Nat → Nat) (μ : zMem) (g N q : Nat) : va_W := zws E ad μ ++ [((q, Sum.inl (zcy E 0, N, Sum.inl (va_cpy (fun j => zr μ (16 + 20 * g) j) (fun _ => 0) 0 0 (zg μ g)))) : Nat × va_E)]
def zWr (E : zEnv) (ad : Nat → Nat) (μ : zMem) (g N q iS : Nat) (fs : List Value) : va_W := (zWn E ad μ g N q).set iS ((ad (11 + 20 * g), Sum.inr (5, fs.set 4 (.ref q))) : Nat × va_E)
theorem zmoved {ad : Nat → Nat} {g N q iS : Nat} {H : Heap} {fs : List Value} (hg : g < 3) (hAS : zAS E ad) (hD0 : va_D (zA E) (zws E ad μ)) (hL : 16 + 20 * g ∈ zpl μ) (hS : (zpl μ)[iS]? = some (11 + 20 * g)) (hfs : Sum.inr (5, fs) = zcel E ad μ (11 + 20 * g))
    (hP : va_P (zD E) vwCl (zWr E ad μ g N q iS fs) H)
    (hD : va_D (zA E) (zWr E ad μ g N q iS fs)) : zWd E (zam ad g q) (zgm μ g N) H := by
  obtain ⟨iL, hiL⟩ := List.getElem?_of_mem hL
  have hlen := zws_len (E := E) (μ := μ) (ad := ad)
  have hiSl : iS < (zpl μ).length := (List.getElem?_eq_some_iff.mp hS).1
  have key : ∀ (k : Nat) (x : Nat × va_E), (zws E (zam ad g q) (zgm μ g N))[k]? = some x → (zWr E ad μ g N q iS fs)[if k = iL then (zpl μ).length else k]? = some x := by
    intro k x hx
    unfold zWr zWn
    unfold zws at hx
    rw [List.getElem?_map, zpl_gm hg] at hx
    cases hp : (zpl μ)[k]? with
    | none => rw [hp] at hx; cases hx
    | some p =>
      rw [hp] at hx
      have hx : (zam ad g q p, zcel E (zam ad g q) (zgm μ g N) p) = x := Option.some.inj hx
      subst hx
      have hp131 := zpl_lt (List.mem_of_getElem? hp)
      have hkl : k < (zpl μ).length := (List.getElem?_eq_some_iff.mp hp).1
      by_cases hk : k = iL
      · subst hk
        rw [hiL] at hp
        have hp : 16 + 20 * g = p := Option.some.inj hp
        subst hp
        rw [if_pos rfl, List.getElem?_set_ne (by omega), List.getElem?_append_right (by omega), hlen, Nat.sub_self, zam_eq]
        show some _ = some _
        have hc : zcls (16 + 20 * g) = none := by match g, hg with | 0, _ => rfl | 1, _ => rfl | 2, _ => rfl
        have ha : zaty (16 + 20 * g) = some 0 := by match g, hg with | 0, _ => rfl | 1, _ => rfl | 2, _ => rfl
        have hl : zln (zgm μ g N) (16 + 20 * g) = N := by match g, hg with | 0, _ => rfl | 1, _ => rfl | 2, _ => rfl
        have hb : Nat.ble 100 (16 + 20 * g) = false := by match g, hg with | 0, _ => rfl | 1, _ => rfl | 2, _ => rfl
        rw [zcel_arr hc ha, zarr_int (by decide), hl]
        refine congrArg (fun f => some (q, Sum.inl (zcy E 0, N, Sum.inl f))) ?_
        funext j
        unfold va_cpy zr
        rw [hb]
        show (if 0 ≤ j ∧ j < 0 + zg μ g then μ.1 (16 + 20 * g) (0 + (j - 0)) else 0) = (if 16 + 20 * g = 16 + 20 * g ∧ zg μ g ≤ j then 0 else μ.1 (16 + 20 * g) j)
        by_cases hj : j < zg μ g
        · rw [if_pos ⟨Nat.zero_le _, by omega⟩, if_neg (fun z => by omega), Nat.sub_zero, Nat.zero_add]
        · rw [if_neg (fun z => hj (by omega)), if_pos ⟨rfl, by omega⟩]
      · rw [if_neg hk]
        have hpL : p ≠ 16 + 20 * g := fun e => hk (zpl_once hD0 (by rw [hp, e]) hiL)
        rw [zam_ne hpL]
        by_cases hkS : k = iS
        · subst hkS
          rw [hS] at hp
          have hp : 11 + 20 * g = p := Option.some.inj hp
          subst hp
          rw [List.getElem?_set_self (by rw [List.length_append]; omega)]
          have hc : zcls (11 + 20 * g) = some 5 := by match g, hg with | 0, _ => rfl | 1, _ => rfl | 2, _ => rfl
          rw [zcel_obj hc] at hfs ⊢
          have hfs : fs = (List.range (znf 5)).map (fun k => zfv ad μ (11 + 20 * g) k) := by cases hfs; rfl
          subst hfs
          have hv : ∀ k, zfv (zam ad g q) (zgm μ g N) (11 + 20 * g) k = if k = 4 then .ref q else zfv ad μ (11 + 20 * g) k := by
            intro k
            unfold zfv
            have h0 : zrf (11 + 20 * g) k = if k ≤ 4 then some (11 + 20 * g + 1 + k) else none := by
              match g, hg with
              | 0, _ => by_cases h : k ≤ 4
                        · rw [if_pos h]; show (bif Nat.ble k 4 then some _ else none) = _; rw [Nat.ble_eq_true_of_le h]; rfl
                        · rw [if_neg h]; show (bif Nat.ble k 4 then some _ else none) = _
                          cases hb : Nat.ble k 4 with
                          | true => exact absurd (Nat.le_of_ble_eq_true hb) h
                          | false => rfl
              | 1, _ => by_cases h : k ≤ 4
                        · rw [if_pos h]; show (bif Nat.ble k 4 then some _ else none) = _; rw [Nat.ble_eq_true_of_le h]; rfl
                        · rw [if_neg h]; show (bif Nat.ble k 4 then some _ else none) = _
                          cases hb : Nat.ble k 4 with
                          | true => exact absurd (Nat.le_of_ble_eq_true hb) h
                          | false => rfl
              | 2, _ => by_cases h : k ≤ 4
                        · rw [if_pos h]; show (bif Nat.ble k 4 then some _ else none) = _; rw [Nat.ble_eq_true_of_le h]; rfl
                        · rw [if_neg h]; show (bif Nat.ble k 4 then some _ else none) = _
                          cases hb : Nat.ble k 4 with
                          | true => exact absurd (Nat.le_of_ble_eq_true hb) h
                          | false => rfl
            rw [h0]
            by_cases h4 : k = 4
            · subst h4
              rw [if_pos (Nat.le_refl _), if_pos rfl]
              show Value.ref (zam ad g q (11 + 20 * g + 1 + 4)) = _
              rw [show 11 + 20 * g + 1 + 4 = 16 + 20 * g by omega, zam_eq]
            · rw [if_neg h4]
              by_cases h : k ≤ 4
              · rw [if_pos h]
                show Value.ref (zam ad g q (11 + 20 * g + 1 + k)) = Value.ref _
                rw [zam_ne (by omega)]
              · rw [if_neg h]
                show Value.int _ = Value.int _
                rw [zr_gm (by omega)]
          simp only [hv]
          refine congrArg (fun l => some (ad (11 + 20 * g), Sum.inr (5, l))) ?_
          rfl
        · have hpS : p ≠ 11 + 20 * g := fun e => hkS (zpl_once hD0 (by rw [hp, e]) hS)
          rw [List.getElem?_set_ne (Ne.symm hkS), List.getElem?_append_left (by omega), zcel_gm hg hp131 hpL hpS]
          unfold zws
          rw [List.getElem?_map, hp]
          rfl
  refine ⟨hP.by _ key, hD.by _ key (fun i j hi hj hij => ?_), hAS.of (fun p hp => zam_ne (by omega))⟩
  rw [zws_len, zpl_gm hg] at hi hj
  by_cases h1 : i = iL
  · by_cases h2 : j = iL
    · rw [h1, h2]
    · rw [if_pos h1, if_neg h2] at hij; omega
  · by_cases h2 : j = iL
    · rw [if_neg h1, if_pos h2] at hij; omega
    · rw [if_neg h1, if_neg h2] at hij; exact hij
end ROOM
