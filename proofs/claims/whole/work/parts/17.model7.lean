/-! the reference: the core -/
def a_thF (r i : Nat) (a : Nat → Nat → Int32) : Nat → Nat → Int32 := zup a 112 (zv (aL a r i)) (nI 1)
def a_coStep (n : Nat) (x : Int32 × (Nat → Nat → Int32)) : Int32 × (Nat → Nat → Int32) :=
  if x.2 112 (zv (x.2 109 n)) = 0 then x else
  if x.2 107 (zv (x.2 109 n)) = -1 then (if 0 < x.2 106 (zv (x.2 109 n)) then (x.1 ||| (nI 1 <<< (zon (a_placeAssumed x.2 (zv (x.2 109 n))) &&& 31)), x.2) else x)
  else (x.1, zit (a_thF (x.2 107 (zv (x.2 109 n))).toNatClampNeg) 0 (aS x.2 (x.2 107 (zv (x.2 109 n))).toNatClampNeg) x.2)
def a_coL : Nat → Int32 × (Nat → Nat → Int32) → Int32 × (Nat → Nat → Int32)
  | 0, x => x
  | n + 1, x => a_coL n (a_coStep n x)
def a_clr (α : Nat → Nat → Int32) : Nat → Nat → Int32 := zit (fun v a => zup a 112 v (nI 0)) 0 31 α
def a_core (α : Nat → Nat → Int32) (k : Nat) : Int32 × (Nat → Nat → Int32) :=
  a_coL (α 100 10).toNatClampNeg (nI 1 <<< (nI k &&& 31), zup (a_clr α) 112 (zv (α 101 (16 + k))) (nI 1))
theorem a_clr_off (α : Nat → Nat → Int32) : zoff [112] α (a_clr α) := zit_off _ (fun k a => zoff.rf.up (by decide)) _ _ _
theorem a_thF_off (r i : Nat) (a : Nat → Nat → Int32) : zoff [112] a (a_thF r i a) := zoff.rf.up (by decide)
theorem aWA.off {L : List Nat} {α β : Nat → Nat → Int32} (h : aWA α) (ho : zoff L α β) (hL : 101 ∉ L) : aWA β := by
  have e := ho 101 hL
  unfold aWA aA aV at *
  rw [e]
  exact h
theorem aA_off {L : List Nat} {α β : Nat → Nat → Int32} (ho : zoff L α β) (hL : 101 ∉ L) : aA β = aA α := by unfold aA; rw [ho 101 hL]
theorem zdm (x : Int32) : x + Int32.ofInt (-1) = x - nI 1 := by rw [Int32.sub_eq_add_neg]; rfl
section M8
variable {E : zEnv} {κ α : Nat → Nat → Int32} {τ : (Nat → Nat → Int64) × (Nat → Nat)}
/-- reasons of what is on the trail are clauses, or none -/
def aR (α : Nat → Nat → Int32) (t : Nat) : Prop := ∀ i, i < t → ¬ α 107 (zv (α 109 i)) = -1 → ∃ c, c < aN α ∧ α 107 (zv (α 109 i)) = nI c
theorem l_coreC (d : Nat) (P : Option Value → zMem → Prop) (l1 : Int32) : ∀ m w α, w + m = 31 → zX E (d + 3) mX9_coreOf 21 [some (.ref 100), some (.int l1), some (.int (nI 31)), none, none, none] [] (κ, zit (fun v a => zup a 112 v (nI 0)) w m α, τ) P → zX E (d + 3) mX9_coreOf 2 [some (.ref 100), some (.int l1), some (.int (nI w)), none, none, none] [] (κ, α, τ) P := by
  intro m
  induction m with
  | zero =>
    intro w α hw K
    have : w = 31 := by omega
    subst this
    refine x_iload_n (pc := 2) 2 dX9_coreOf_2 rfl rfl ?_
    refine x_bipush (pc := 3) (nI 30) dX9_coreOf_3 (by decide) ?_
    refine x_icmp_gt_t (pc := 5) 21 dX9_coreOf_5 (by decide) (nI_lt (by omega) (by omega)) ?_
    exact K
  | succ m ih =>
    intro w α hw K
    refine x_iload_n (pc := 2) 2 dX9_coreOf_2 rfl rfl ?_
    refine x_bipush (pc := 3) (nI 30) dX9_coreOf_3 (by decide) ?_
    refine x_icmp_gt_f (pc := 5) 21 dX9_coreOf_5 (by decide) (nI_nlt (by omega) (by omega)) ?_
    refine x_aload_n (pc := 8) 0 dX9_coreOf_8 rfl rfl ?_
    refine x_getr (pc := 9) (112) dX9_coreOf_9 fX9_38 (zat_b rfl rfl) rfl ?_
    refine x_iload_n (pc := 12) 2 dX9_coreOf_12 rfl rfl ?_
    refine x_iconst (pc := 13) (nI 0) dX9_coreOf_13 (by decide) ?_
    have hj14 : w < 31 := by omega
    refine x_zast_h (pc := 14) (w) dX9_coreOf_14 (zar_b rfl rfl rfl) rfl (by first | rfl | simp only [pk_mul, nI_add] | simp only [zon, pk_mul, nI_add]) hj14 (Nat.lt_of_lt_of_le hj14 (by decide)) (by decide) ?_
    refine x_iinc (pc := 15) (nI (w + 1)) dX9_coreOf_15 rfl (zinc _) (by decide) rfl ?_
    refine x_goto (pc := 18) 2 dX9_coreOf_18 (by decide) ?_
    exact ih (w + 1) _ (by omega) K
theorem l_coreI (d : Nat) (P : Option Value → zMem → Prop) {k s : Int32} {j : Nat} {v r : Nat} (hv : v ≤ 30) (hW : aW α) (hr : α 107 v = nI r) (hrN : r < aN α) : ∀ m i β, i + m = aS α r → zoff [112] α β → (∀ i', zX E (d + 3) mX9_coreOf 168 [some (.ref 100), some (.int k), some (.int s), some (.int (nI j)), some (.int (nI v)), some i'] [] (κ, zit (a_thF r) i m β, τ) P) → zX E (d + 3) mX9_coreOf 113 [some (.ref 100), some (.int k), some (.int s), some (.int (nI j)), some (.int (nI v)), some (.int (nI i))] [] (κ, β, τ) P := by
  have hs := hW.s30 hrN
  have hn := hW.n400
  have hne : ¬ nI r = -1 := fun q => by have := congrArg Int32.toInt q; rw [nI_toInt (by omega)] at this; simp at this
  intro m
  induction m with
  | zero =>
    intro i β hi ho K
    have hWb := hW.off ho (by decide)
    have hcb : r < aN β := by rw [zo_N ho (by decide)]; exact hrN
    have hsb := zo_S ho (by decide) r
    have hrb : β 107 v = nI r := by rw [ho.at (by decide)]; exact hr
    refine x_aload_n (pc := 113) 0 dX9_coreOf_113 rfl rfl ?_
    refine x_getr (pc := 114) (107) dX9_coreOf_114 fX9_29 (zat_b rfl rfl) rfl ?_
    refine x_iload (pc := 117) dX9_coreOf_117 rfl ?_
    have hj119 : v < 31 := by omega
    refine x_iald_h (pc := 119) (v) dX9_coreOf_119 (zar_b rfl rfl rfl) rfl (by first | rfl | simp only [pk_mul, nI_add] | simp only [zon, pk_mul, nI_add]) hj119 (Nat.lt_of_lt_of_le hj119 (by decide)) ?_
    rw [hrb]
    refine x_iconst (pc := 120) (-1) dX9_coreOf_120 (by decide) ?_
    refine x_icmp_eq_f (pc := 121) 168 dX9_coreOf_121 (by decide) (hne) ?_
    refine x_iload (pc := 124) dX9_coreOf_124 rfl ?_
    refine x_aload_n (pc := 126) 0 dX9_coreOf_126 rfl rfl ?_
    refine x_aload_n (pc := 127) 0 dX9_coreOf_127 rfl rfl ?_
    refine x_getr (pc := 128) (107) dX9_coreOf_128 fX9_29 (zat_b rfl rfl) rfl ?_
    refine x_iload (pc := 131) dX9_coreOf_131 rfl ?_
    have hj133 : v < 31 := by omega
    refine x_iald_h (pc := 133) (v) dX9_coreOf_133 (zar_b rfl rfl rfl) rfl (by first | rfl | simp only [pk_mul, nI_add] | simp only [zon, pk_mul, nI_add]) hj133 (Nat.lt_of_lt_of_le hj133 (by decide)) ?_
    rw [hrb]
    refine x_callV1i (pc := 134) dX9_coreOf_134 lX9_99 (zat_b rfl rfl) rfl (t_sizeOfW (d + 1) hWb hcb) (Nat.le_of_ble_eq_true rfl) (Or.inl zgr) ?_
    refine x_icmp_ge_t (pc := 137) 168 dX9_coreOf_137 (by decide) (nI_le (by omega) (by omega)) ?_
    exact K _
  | succ m ih =>
    intro i β hi ho K
    have hWb := hW.off ho (by decide)
    have hcb : r < aN β := by rw [zo_N ho (by decide)]; exact hrN
    have hsb := zo_S ho (by decide) r
    have hrb : β 107 v = nI r := by rw [ho.at (by decide)]; exact hr
    have hl := hWb.l hcb (show i < aS β r by omega)
    obtain ⟨g1, g2, g3, g4, g5⟩ := hl.is (Nat.le_refl _)
    refine x_aload_n (pc := 113) 0 dX9_coreOf_113 rfl rfl ?_
    refine x_getr (pc := 114) (107) dX9_coreOf_114 fX9_29 (zat_b rfl rfl) rfl ?_
    refine x_iload (pc := 117) dX9_coreOf_117 rfl ?_
    have hj119 : v < 31 := by omega
    refine x_iald_h (pc := 119) (v) dX9_coreOf_119 (zar_b rfl rfl rfl) rfl (by first | rfl | simp only [pk_mul, nI_add] | simp only [zon, pk_mul, nI_add]) hj119 (Nat.lt_of_lt_of_le hj119 (by decide)) ?_
    rw [hrb]
    refine x_iconst (pc := 120) (-1) dX9_coreOf_120 (by decide) ?_
    refine x_icmp_eq_f (pc := 121) 168 dX9_coreOf_121 (by decide) (hne) ?_
    refine x_iload (pc := 124) dX9_coreOf_124 rfl ?_
    refine x_aload_n (pc := 126) 0 dX9_coreOf_126 rfl rfl ?_
    refine x_aload_n (pc := 127) 0 dX9_coreOf_127 rfl rfl ?_
    refine x_getr (pc := 128) (107) dX9_coreOf_128 fX9_29 (zat_b rfl rfl) rfl ?_
    refine x_iload (pc := 131) dX9_coreOf_131 rfl ?_
    have hj133 : v < 31 := by omega
    refine x_iald_h (pc := 133) (v) dX9_coreOf_133 (zar_b rfl rfl rfl) rfl (by first | rfl | simp only [pk_mul, nI_add] | simp only [zon, pk_mul, nI_add]) hj133 (Nat.lt_of_lt_of_le hj133 (by decide)) ?_
    rw [hrb]
    refine x_callV1i (pc := 134) dX9_coreOf_134 lX9_99 (zat_b rfl rfl) rfl (t_sizeOfW (d + 1) hWb hcb) (Nat.le_of_ble_eq_true rfl) (Or.inl zgr) ?_
    refine x_icmp_ge_f (pc := 137) 168 dX9_coreOf_137 (by decide) (nI_ge (by omega) (by omega)) ?_
    refine x_aload_n (pc := 140) 0 dX9_coreOf_140 rfl rfl ?_
    refine x_getr (pc := 141) (112) dX9_coreOf_141 fX9_38 (zat_b rfl rfl) rfl ?_
    refine x_aload_n (pc := 144) 0 dX9_coreOf_144 rfl rfl ?_
    refine x_aload_n (pc := 145) 0 dX9_coreOf_145 rfl rfl ?_
    refine x_getr (pc := 146) (107) dX9_coreOf_146 fX9_29 (zat_b rfl rfl) rfl ?_
    refine x_iload (pc := 149) dX9_coreOf_149 rfl ?_
    have hj151 : v < 31 := by omega
    refine x_iald_h (pc := 151) (v) dX9_coreOf_151 (zar_b rfl rfl rfl) rfl (by first | rfl | simp only [pk_mul, nI_add] | simp only [zon, pk_mul, nI_add]) hj151 (Nat.lt_of_lt_of_le hj151 (by decide)) ?_
    rw [hrb]
    refine x_iload (pc := 152) dX9_coreOf_152 rfl ?_
    refine x_callV2i (pc := 154) dX9_coreOf_154 lX9_108 (zat_b rfl rfl) rfl (t_literalW (d + 1) hWb hcb (by omega)) (Nat.le_of_ble_eq_true rfl) (Or.inl zgr) ?_
    refine x_callS1i (pc := 157) dX9_coreOf_157 lX9_71 (t_size (d + 1) _) (Nat.le_of_ble_eq_true rfl) (Or.inl zgr) ?_
    refine x_iconst (pc := 160) (nI 1) dX9_coreOf_160 (by decide) ?_
    have hj161 : zv (aL β r i) < 31 := by omega
    refine x_zast_h (pc := 161) (zv (aL β r i)) dX9_coreOf_161 (zar_b rfl rfl rfl) rfl (g3) hj161 (Nat.lt_of_lt_of_le hj161 (by decide)) (by decide) ?_
    refine x_iinc (pc := 162) (nI (i + 1)) dX9_coreOf_162 rfl (zinc _) (by decide) rfl ?_
    refine x_goto (pc := 165) 113 dX9_coreOf_165 (by decide) ?_
    exact ih (i + 1) _ (by omega) (ho.tr (a_thF_off r i β)) K
theorem l_core (d : Nat) (P : Option Value → zMem → Prop) {k : Int32} (hW : aW α) (hA : aWA α) : ∀ n s β, n ≤ 30 → zoff [112] α β → (∀ i, i < n → lok 30 (α 109 i)) → aR α n → P (some (.int (a_coL n (s, β)).1)) (κ, (a_coL n (s, β)).2, τ) → zX E (d + 3) mX9_coreOf 50 [some (.ref 100), some (.int k), some (.int s), some (.int (nI n - nI 1)), none, none] [] (κ, β, τ) P := by
  intro n
  induction n with
  | zero =>
    intro s β hn ho hl hR K
    refine x_iload_n (pc := 50) 3 dX9_coreOf_50 rfl rfl ?_
    refine x_if_lt_t (pc := 51) 174 dX9_coreOf_51 (by decide) (by decide) ?_
    refine x_iload_n (pc := 174) 2 dX9_coreOf_174 rfl rfl ?_
    refine x_iret (pc := 175) dX9_coreOf_175 rfl ?_
    exact K
  | succ n ih =>
    intro s β hn ho hl hR K
    have hWb := hW.off ho (by decide)
    have hAb := hA.off ho (by decide)
    have e1 : nI (n + 1) - nI 1 = nI n := nI_pred n
    have hl0 : lok 30 (β 109 n) := by rw [ho.at (by decide)]; exact hl n (by omega)
    obtain ⟨g1, g2, g3, g4, g5⟩ := hl0.is (Nat.le_refl _)
    have next : ∀ s' β' v', zoff [112] α β' → P (some (.int (a_coL n (s', β')).1)) (κ, (a_coL n (s', β')).2, τ) → zX E (d + 3) mX9_coreOf 168 [some (.ref 100), some (.int k), some (.int s'), some (.int (nI n)), some (.int (nI (zv (β 109 n)))), v'] [] (κ, β', τ) P := by
      intro s' β' v' ho' K'
      refine x_iinc (pc := 168) (nI n - nI 1) dX9_coreOf_168 rfl (zdm _) (by decide) rfl ?_
      refine x_goto (pc := 171) 50 dX9_coreOf_171 (by decide) ?_
      refine zX.sub (zs1 (zs1 (zs1 (zs1 (zsn (zsn zse)))))) ?_
      exact ih s' β' (by omega) ho' (fun i hi => hl i (by omega)) (fun i hi => hR i (by omega)) K'
    have hK : a_coL (n + 1) (s, β) = a_coL n (a_coStep n (s, β)) := rfl
    rw [hK] at K
    rw [e1]
    refine x_iload_n (pc := 50) 3 dX9_coreOf_50 rfl rfl ?_
    refine x_if_lt_f (pc := 51) 174 dX9_coreOf_51 (by decide) (nI_pos (by omega)) ?_
    refine x_aload_n (pc := 54) 0 dX9_coreOf_54 rfl rfl ?_
    refine x_getr (pc := 55) (109) dX9_coreOf_55 fX9_35 (zat_b rfl rfl) rfl ?_
    refine x_iload_n (pc := 58) 3 dX9_coreOf_58 rfl rfl ?_
    have hj59 : n < 30 := by omega
    refine x_iald_h (pc := 59) (n) dX9_coreOf_59 (zar_b rfl rfl rfl) rfl (by first | rfl | simp only [pk_mul, nI_add] | simp only [zon, pk_mul, nI_add]) hj59 (Nat.lt_of_lt_of_le hj59 (by decide)) ?_
    refine x_callS1i (pc := 60) dX9_coreOf_60 lX9_71 (t_size (d + 1) _) (Nat.le_of_ble_eq_true rfl) (Or.inl zgr) ?_
    rw [g3]
    refine x_istore (pc := 63) dX9_coreOf_63 (by decide) rfl ?_
    refine x_aload_n (pc := 65) 0 dX9_coreOf_65 rfl rfl ?_
    refine x_getr (pc := 66) (112) dX9_coreOf_66 fX9_38 (zat_b rfl rfl) rfl ?_
    refine x_iload (pc := 69) dX9_coreOf_69 rfl ?_
    have hj71 : zv (β 109 n) < 31 := by omega
    refine x_zald_h (pc := 71) (zv (β 109 n)) dX9_coreOf_71 (zar_b rfl rfl rfl) rfl (by first | rfl | simp only [pk_mul, nI_add] | simp only [zon, pk_mul, nI_add]) hj71 (Nat.lt_of_lt_of_le hj71 (by decide)) ?_
    generalize hve : zv (β 109 n) = v at *
    by_cases h1 : β 112 v = 0
    · have e : a_coStep n (s, β) = (s, β) := by unfold a_coStep; dsimp only; rw [hve, if_pos h1]
      rw [e] at K
      refine x_if_ne_f (pc := 72) 78 dX9_coreOf_72 (by decide) (h1) ?_
      refine x_goto (pc := 75) 168 dX9_coreOf_75 (by decide) ?_
      exact next s β none ho K
    · by_cases h2 : β 107 v = -1
      · by_cases h3 : 0 < β 106 v
        · have e : a_coStep n (s, β) = (s ||| (nI 1 <<< (zon (a_placeAssumed β v) &&& 31)), β) := by unfold a_coStep; dsimp only; rw [hve, if_neg h1, if_pos h2, if_pos h3]
          rw [e] at K
          refine x_if_ne_t (pc := 72) 78 dX9_coreOf_72 (by decide) (h1) ?_
          refine x_aload_n (pc := 78) 0 dX9_coreOf_78 rfl rfl ?_
          refine x_getr (pc := 79) (107) dX9_coreOf_79 fX9_29 (zat_b rfl rfl) rfl ?_
          refine x_iload (pc := 82) dX9_coreOf_82 rfl ?_
          have hj84 : v < 31 := by omega
          refine x_iald_h (pc := 84) (v) dX9_coreOf_84 (zar_b rfl rfl rfl) rfl (by first | rfl | simp only [pk_mul, nI_add] | simp only [zon, pk_mul, nI_add]) hj84 (Nat.lt_of_lt_of_le hj84 (by decide)) ?_
          refine x_iconst (pc := 85) (-1) dX9_coreOf_85 (by decide) ?_
          refine x_icmp_ne_f (pc := 86) 110 dX9_coreOf_86 (by decide) (h2) ?_
          refine x_aload_n (pc := 89) 0 dX9_coreOf_89 rfl rfl ?_
          refine x_getr (pc := 90) (106) dX9_coreOf_90 fX9_26 (zat_b rfl rfl) rfl ?_
          refine x_iload (pc := 93) dX9_coreOf_93 rfl ?_
          have hj95 : v < 31 := by omega
          refine x_iald_h (pc := 95) (v) dX9_coreOf_95 (zar_b rfl rfl rfl) rfl (by first | rfl | simp only [pk_mul, nI_add] | simp only [zon, pk_mul, nI_add]) hj95 (Nat.lt_of_lt_of_le hj95 (by decide)) ?_
          refine x_if_le_f (pc := 96) 110 dX9_coreOf_96 (by decide) (Int32.not_le.mpr h3) ?_
          refine x_iload_n (pc := 99) 2 dX9_coreOf_99 rfl rfl ?_
          refine x_iconst (pc := 100) (nI 1) dX9_coreOf_100 (by decide) ?_
          refine x_aload_n (pc := 101) 0 dX9_coreOf_101 rfl rfl ?_
          refine x_iload (pc := 102) dX9_coreOf_102 rfl ?_
          refine x_callV1i (pc := 104) dX9_coreOf_104 lX9_150 (zat_b rfl rfl) rfl (t_placeAssumed d hWb.v30 (by omega) hAb) (Nat.le_of_ble_eq_true rfl) (Or.inl zgr) ?_
          refine x_ishl (pc := 107) dX9_coreOf_107 ?_
          refine x_ior (pc := 108) dX9_coreOf_108 ?_
          refine x_istore_n (pc := 109) 2 dX9_coreOf_109 rfl (by decide) rfl ?_
          refine x_iconst (pc := 110) (nI 0) dX9_coreOf_110 (by decide) ?_
          refine x_istore (pc := 111) dX9_coreOf_111 (by decide) rfl ?_
          refine x_aload_n (pc := 113) 0 dX9_coreOf_113 rfl rfl ?_
          refine x_getr (pc := 114) (107) dX9_coreOf_114 fX9_29 (zat_b rfl rfl) rfl ?_
          refine x_iload (pc := 117) dX9_coreOf_117 rfl ?_
          have hj119 : v < 31 := by omega
          refine x_iald_h (pc := 119) (v) dX9_coreOf_119 (zar_b rfl rfl rfl) rfl (by first | rfl | simp only [pk_mul, nI_add] | simp only [zon, pk_mul, nI_add]) hj119 (Nat.lt_of_lt_of_le hj119 (by decide)) ?_
          refine x_iconst (pc := 120) (-1) dX9_coreOf_120 (by decide) ?_
          refine x_icmp_eq_t (pc := 121) 168 dX9_coreOf_121 (by decide) (h2) ?_
          exact next _ β _ ho K
        · have e : a_coStep n (s, β) = (s, β) := by unfold a_coStep; dsimp only; rw [hve, if_neg h1, if_pos h2, if_neg h3]
          rw [e] at K
          refine x_if_ne_t (pc := 72) 78 dX9_coreOf_72 (by decide) (h1) ?_
          refine x_aload_n (pc := 78) 0 dX9_coreOf_78 rfl rfl ?_
          refine x_getr (pc := 79) (107) dX9_coreOf_79 fX9_29 (zat_b rfl rfl) rfl ?_
          refine x_iload (pc := 82) dX9_coreOf_82 rfl ?_
          have hj84 : v < 31 := by omega
          refine x_iald_h (pc := 84) (v) dX9_coreOf_84 (zar_b rfl rfl rfl) rfl (by first | rfl | simp only [pk_mul, nI_add] | simp only [zon, pk_mul, nI_add]) hj84 (Nat.lt_of_lt_of_le hj84 (by decide)) ?_
          refine x_iconst (pc := 85) (-1) dX9_coreOf_85 (by decide) ?_
          refine x_icmp_ne_f (pc := 86) 110 dX9_coreOf_86 (by decide) (h2) ?_
          refine x_aload_n (pc := 89) 0 dX9_coreOf_89 rfl rfl ?_
          refine x_getr (pc := 90) (106) dX9_coreOf_90 fX9_26 (zat_b rfl rfl) rfl ?_
          refine x_iload (pc := 93) dX9_coreOf_93 rfl ?_
          have hj95 : v < 31 := by omega
          refine x_iald_h (pc := 95) (v) dX9_coreOf_95 (zar_b rfl rfl rfl) rfl (by first | rfl | simp only [pk_mul, nI_add] | simp only [zon, pk_mul, nI_add]) hj95 (Nat.lt_of_lt_of_le hj95 (by decide)) ?_
          refine x_if_le_t (pc := 96) 110 dX9_coreOf_96 (by decide) (Int32.not_lt.mp h3) ?_
          refine x_iconst (pc := 110) (nI 0) dX9_coreOf_110 (by decide) ?_
          refine x_istore (pc := 111) dX9_coreOf_111 (by decide) rfl ?_
          refine x_aload_n (pc := 113) 0 dX9_coreOf_113 rfl rfl ?_
          refine x_getr (pc := 114) (107) dX9_coreOf_114 fX9_29 (zat_b rfl rfl) rfl ?_
          refine x_iload (pc := 117) dX9_coreOf_117 rfl ?_
          have hj119 : v < 31 := by omega
          refine x_iald_h (pc := 119) (v) dX9_coreOf_119 (zar_b rfl rfl rfl) rfl (by first | rfl | simp only [pk_mul, nI_add] | simp only [zon, pk_mul, nI_add]) hj119 (Nat.lt_of_lt_of_le hj119 (by decide)) ?_
          refine x_iconst (pc := 120) (-1) dX9_coreOf_120 (by decide) ?_
          refine x_icmp_eq_t (pc := 121) 168 dX9_coreOf_121 (by decide) (h2) ?_
          exact next _ β _ ho K
      · have hR0 := hR n (by omega)
        rw [← ho.at (p := 109) (by decide) n, hve, ← ho.at (p := 107) (by decide) v, ← zo_N ho (by decide)] at hR0
        obtain ⟨r, hr1, hr2⟩ := hR0 h2
        have hn4 := hWb.n400
        have hrc : (β 107 v).toNatClampNeg = r := by rw [hr2]; exact nI_clamp (by omega)
        have e : a_coStep n (s, β) = (s, zit (a_thF r) 0 (aS β r) β) := by unfold a_coStep; dsimp only; rw [hve, if_neg h1, if_neg h2, hrc]
        rw [e] at K
        refine x_if_ne_t (pc := 72) 78 dX9_coreOf_72 (by decide) (h1) ?_
        refine x_aload_n (pc := 78) 0 dX9_coreOf_78 rfl rfl ?_
        refine x_getr (pc := 79) (107) dX9_coreOf_79 fX9_29 (zat_b rfl rfl) rfl ?_
        refine x_iload (pc := 82) dX9_coreOf_82 rfl ?_
        have hj84 : v < 31 := by omega
        refine x_iald_h (pc := 84) (v) dX9_coreOf_84 (zar_b rfl rfl rfl) rfl (by first | rfl | simp only [pk_mul, nI_add] | simp only [zon, pk_mul, nI_add]) hj84 (Nat.lt_of_lt_of_le hj84 (by decide)) ?_
        refine x_iconst (pc := 85) (-1) dX9_coreOf_85 (by decide) ?_
        refine x_icmp_ne_t (pc := 86) 110 dX9_coreOf_86 (by decide) (h2) ?_
        refine x_iconst (pc := 110) (nI 0) dX9_coreOf_110 (by decide) ?_
        refine x_istore (pc := 111) dX9_coreOf_111 (by decide) rfl ?_
        refine l_coreI d P (by omega) hWb hr2 hr1 (aS β r) 0 β (by omega) zoff.rf (fun i' => ?_)
        exact next _ _ _ (ho.tr (zit_off _ (a_thF_off r) _ _ _)) K
theorem t_coreOf (d : Nat) {k t : Nat} (hW : aW α) (hA : aWA α) (hk : k < aA α) (hQ : aQ α t) (hR : aR α t) : zTr E (d + 3) mX9_coreOf [.ref 100, .int (nI k)] (κ, α, τ) (some (.int (a_core α k).1)) (κ, (a_core α k).2, τ) := by
  refine zM.tr (zM_of [some (.ref 100), some (.int (nI k)), none, none, none, none] (by decide) rfl (Nat.le_of_ble_eq_true rfl) ?_)
  have h8 := hA.2.1
  have hv := hW.v30
  obtain ⟨g1, g2, g3, g4, g5⟩ := (hA.2.2 k hk).is hv
  refine x_iconst (pc := 0) (nI 0) dX9_coreOf_0 (by decide) ?_
  refine x_istore_n (pc := 1) 2 dX9_coreOf_1 rfl (by decide) rfl ?_
  refine l_coreC d _ (nI k) 31 0 α (by omega) ?_
  have ho := a_clr_off α
  refine x_aload_n (pc := 21) 0 dX9_coreOf_21 rfl rfl ?_
  refine x_getr (pc := 22) (112) dX9_coreOf_22 fX9_38 (zat_b rfl rfl) rfl ?_
  refine x_aload_n (pc := 25) 0 dX9_coreOf_25 rfl rfl ?_
  refine x_getr (pc := 26) (101) dX9_coreOf_26 fX9_7 (zat_b rfl rfl) rfl ?_
  refine x_bipush (pc := 29) (nI 16) dX9_coreOf_29 (by decide) ?_
  refine x_iload_n (pc := 31) 1 dX9_coreOf_31 rfl rfl ?_
  refine x_iadd (pc := 32) dX9_coreOf_32 ?_
  have hj33 : 16 + k < 13326 := by omega
  refine x_iald_h (pc := 33) (16 + k) dX9_coreOf_33 (zar_b rfl rfl rfl) rfl (by first | rfl | simp only [pk_mul, nI_add] | simp only [zon, pk_mul, nI_add]) hj33 (Nat.lt_of_lt_of_le hj33 (by decide)) ?_
  have e1 : a_clr α 101 (16 + k) = α 101 (16 + k) := ho.at (by decide) _
  rw [show zit (fun v a => zup a 112 v (nI 0)) 0 31 α = a_clr α from rfl, e1]
  refine x_callS1i (pc := 34) dX9_coreOf_34 lX9_71 (t_size (d + 1) _) (Nat.le_of_ble_eq_true rfl) (Or.inl zgr) ?_
  refine x_iconst (pc := 37) (nI 1) dX9_coreOf_37 (by decide) ?_
  have hj38 : zv (α 101 (16 + k)) < 31 := by omega
  refine x_zast_h (pc := 38) (zv (α 101 (16 + k))) dX9_coreOf_38 (zar_b rfl rfl rfl) rfl (g3) hj38 (Nat.lt_of_lt_of_le hj38 (by decide)) (by decide) ?_
  refine x_iconst (pc := 39) (nI 1) dX9_coreOf_39 (by decide) ?_
  refine x_iload_n (pc := 40) 1 dX9_coreOf_40 rfl rfl ?_
  refine x_ishl (pc := 41) dX9_coreOf_41 ?_
  refine x_istore_n (pc := 42) 2 dX9_coreOf_42 rfl (by decide) rfl ?_
  refine x_aload_n (pc := 43) 0 dX9_coreOf_43 rfl rfl ?_
  refine x_geti_h (pc := 44) dX9_coreOf_44 fX9_102 (zat_b rfl rfl) rfl rfl ?_
  have e2 : zup (a_clr α) 112 (zv (α 101 (16 + k))) (nI 1) 100 10 = nI t := by rw [zup_p (by decide), ho.at (by decide)]; exact hQ.1
  rw [e2]
  have hc : (α 100 10).toNatClampNeg = t := by rw [hQ.1]; exact nI_clamp (by have := hQ.2.1; omega)
  refine x_iconst (pc := 47) (nI 1) dX9_coreOf_47 (by decide) ?_
  refine x_isub (pc := 48) dX9_coreOf_48 ?_
  refine x_istore_n (pc := 49) 3 dX9_coreOf_49 rfl (by decide) rfl ?_
  refine l_core d _ hW hA t _ _ hQ.2.1 (ho.up (by decide)) hQ.2.2 hR ?_
  exact ⟨by unfold a_core; rw [hc], by unfold a_core; rw [hc]⟩
end M8
