/-! the class's search: look, put, leave -/
def k_emt (κ : Nat → Nat → Int32) : Nat → Nat → Int32 := zup (zup (zup (zup (zup (zup (zup κ 3 2 (nI 0)) 3 6 (nI 0)) 3 7 (nI 0)) 3 8 (nI 0)) 3 11 (nI 0)) 3 12 (nI 0)) 3 13 (nI 0)
def k_sat (κ : Nat → Nat → Int32) (i : Nat) : Int32 := κ 12 i &&& κ 3 6 ||| κ 13 i &&& κ 3 7
def k_opn (κ : Nat → Nat → Int32) (i : Nat) : Int32 := (κ 12 i ||| κ 13 i) &&& ((κ 3 6 ||| κ 3 7) ^^^ (-1))
def k_clB (κ : Nat → Nat → Int32) (i : Nat) : Bool := decide (k_sat κ i = 0) && (decide (¬ κ 14 i = nI 2) && decide (k_opn κ i = 0))
def k_drB (κ : Nat → Nat → Int32) (i : Nat) : Bool := decide (k_sat κ i = 0) && (decide (¬ κ 14 i = nI 2) && (decide (¬ k_opn κ i = 0) && decide (k_opn κ i &&& (k_opn κ i - nI 1) = 0)))
def k_clash (κ : Nat → Nat → Int32) : Option Nat := zfind (k_clB κ) 0 (kN κ)
def k_drawn (κ : Nat → Nat → Int32) : Option Nat := zfind (k_drB κ) 0 (kN κ)
def k_lk (κ : Nat → Nat → Int32) (x y : Int32) : Nat → Nat → Int32 := zup (zup κ 3 9 x) 3 10 y
def k_look (κ : Nat → Nat → Int32) : Nat → Nat → Int32 := k_lk κ (zon (k_clash κ)) (zon (k_drawn κ))
theorem k_lk_p {κ : Nat → Nat → Int32} {x y : Int32} {p j : Nat} (h : p ≠ 3) : k_lk κ x y p j = κ p j := by unfold k_lk; rw [zup_p h, zup_p h]
theorem k_lk_i {κ : Nat → Nat → Int32} {x y : Int32} {p j : Nat} (h : j ≠ 9) (h2 : j ≠ 10) : k_lk κ x y p j = κ p j := by unfold k_lk; rw [zup_i h2, zup_i h]
theorem k_lk_9 {κ : Nat → Nat → Int32} {x y : Int32} : k_lk κ x y 3 9 = x := by unfold k_lk; rw [zup_i (by decide), zup_same]
theorem k_lk_10 {κ : Nat → Nat → Int32} {x y : Int32} : k_lk κ x y 3 10 = y := by unfold k_lk; rw [zup_same]
theorem zup_comm {κ : Nat → Nat → Int32} {p i q j : Nat} {v w : Int32} (h : p ≠ q ∨ i ≠ j) : zup (zup κ p i v) q j w = zup (zup κ q j w) p i v := by
  funext a b
  unfold zup
  by_cases h1 : a = q ∧ b = j
  · by_cases h2 : a = p ∧ b = i
    · rcases h with h | h
      · exact absurd (h2.1.symm.trans h1.1) h
      · exact absurd (h2.2.symm.trans h1.2) h
    · rw [if_pos h1, if_neg h2, if_pos h1]
  · rw [if_neg h1, if_neg h1]
theorem k_lk_s9 {κ : Nat → Nat → Int32} {x y z : Int32} : zup (k_lk κ x y) 3 9 z = k_lk κ z y := by unfold k_lk; rw [zup_comm (Or.inr (by decide)), zup_zup]
theorem k_lk_s10 {κ : Nat → Nat → Int32} {x y z : Int32} : zup (k_lk κ x y) 3 10 z = k_lk κ x z := by unfold k_lk; rw [zup_zup]
def zor2 (a b : Option Nat) : Option Nat := match a with
  | some x => some x
  | none => b
theorem zor2_none (a : Option Nat) : zor2 a none = a := by cases a <;> rfl
def k_olit (κ : Nat → Nat → Int32) (c : Nat) : Int32 := if κ 12 c &&& k_opn κ c = 0 then -(kbc (k_opn κ c - nI 1) + nI 1) else kbc (k_opn κ c - nI 1) + nI 1
def k_sput0 (κ : Nat → Nat → Int32) (l w : Int32) : Nat → Nat → Int32 := zup (zup (zup (zup κ 70 (κ 3 2).toNatClampNeg l) 3 2 (κ 3 2 + nI 1)) 71 (zv l) (κ 3 8)) 72 (zv l) w
/-- a literal comes onto the trail -/
def k_sput (κ : Nat → Nat → Int32) (l w : Int32) : Nat → Nat → Int32 := if 0 < l then zup (k_sput0 κ l w) 3 6 (κ 3 6 ||| kb l) else zup (k_sput0 κ l w) 3 7 (κ 3 7 ||| kb l)
def k_lv1 (n : Nat) (κ : Nat → Nat → Int32) : Nat → Nat → Int32 := zup (zup (zup (k_setPhase κ (κ 70 n)) 3 6 (κ 3 6 &&& (kb (κ 70 n) ^^^ (-1)))) 3 7 (κ 3 7 &&& (kb (κ 70 n) ^^^ (-1)))) 3 2 (nI n)
def k_lvL (b : Int32) : Nat → (Nat → Nat → Int32) → (Nat → Nat → Int32)
  | 0, κ => κ
  | n + 1, κ => if b < κ 71 (zv (κ 70 n)) then k_lvL b n (k_lv1 n κ) else κ
def k_leave (κ : Nat → Nat → Int32) (b : Int32) : Nat → Nat → Int32 := zup (k_lvL b (κ 3 2).toNatClampNeg κ) 3 8 (k_max b (nI 0))
/-- the trail is in order -/
def kQ (κ : Nat → Nat → Int32) (t : Nat) : Prop := κ 3 2 = nI t ∧ t ≤ 30 ∧ ∀ i, i < t → lok 30 (κ 70 i)
def k_asB (κ : Nat → Nat → Int32) (i : Nat) : Bool := decide ((if 0 < κ 20 i then κ 3 6 else κ 3 7) &&& kb (κ 20 i) = 0)
def kA (κ : Nat → Nat → Int32) : Nat := (κ 19 1).toNatClampNeg
def k_first (κ : Nat → Nat → Int32) : Option Nat := zfind (k_asB κ) 0 (kA κ)
theorem zdec1 (x : Int32) : x + Int32.ofInt (-1) = x - nI 1 := by rw [Int32.sub_eq_add_neg]; rfl
section C6
variable {E : zEnv} {κ α : Nat → Nat → Int32} {τ : (Nat → Nat → Int64) × (Nat → Nat)}
theorem s_startEmpty (d : Nat) : zTr E (d + 1) mX2_startEmpty [.ref 3] (κ, α, τ) none (k_emt κ, α, τ) := by
  refine zM.tr (zM_of [some (.ref 3)] (by decide) rfl (Nat.le_of_ble_eq_true rfl) ?_)
  refine x_aload_n (pc := 0) 0 dX2_startEmpty_0 rfl rfl ?_
  refine x_iconst (pc := 1) (nI 0) dX2_startEmpty_1 (by decide) ?_
  refine x_puti_l (pc := 2) dX2_startEmpty_2 pX2_74 (zat_b rfl rfl) rfl rfl ?_
  refine x_aload_n (pc := 5) 0 dX2_startEmpty_5 rfl rfl ?_
  refine x_iconst (pc := 6) (nI 0) dX2_startEmpty_6 (by decide) ?_
  refine x_puti_l (pc := 7) dX2_startEmpty_7 pX2_77 (zat_b rfl rfl) rfl rfl ?_
  refine x_aload_n (pc := 10) 0 dX2_startEmpty_10 rfl rfl ?_
  refine x_iconst (pc := 11) (nI 0) dX2_startEmpty_11 (by decide) ?_
  refine x_puti_l (pc := 12) dX2_startEmpty_12 pX2_80 (zat_b rfl rfl) rfl rfl ?_
  refine x_aload_n (pc := 15) 0 dX2_startEmpty_15 rfl rfl ?_
  refine x_iconst (pc := 16) (nI 0) dX2_startEmpty_16 (by decide) ?_
  refine x_puti_l (pc := 17) dX2_startEmpty_17 pX2_83 (zat_b rfl rfl) rfl rfl ?_
  refine x_aload_n (pc := 20) 0 dX2_startEmpty_20 rfl rfl ?_
  refine x_iconst (pc := 21) (nI 0) dX2_startEmpty_21 (by decide) ?_
  refine x_puti_l (pc := 22) dX2_startEmpty_22 pX2_86 (zat_b rfl rfl) rfl rfl ?_
  refine x_aload_n (pc := 25) 0 dX2_startEmpty_25 rfl rfl ?_
  refine x_iconst (pc := 26) (nI 0) dX2_startEmpty_26 (by decide) ?_
  refine x_puti_l (pc := 27) dX2_startEmpty_27 pX2_89 (zat_b rfl rfl) rfl rfl ?_
  refine x_aload_n (pc := 30) 0 dX2_startEmpty_30 rfl rfl ?_
  refine x_iconst (pc := 31) (nI 0) dX2_startEmpty_31 (by decide) ?_
  refine x_puti_l (pc := 32) dX2_startEmpty_32 pX2_92 (zat_b rfl rfl) rfl rfl ?_
  refine x_vret (pc := 35) dX2_startEmpty_35 rfl ?_
  exact ⟨rfl, rfl⟩
theorem l_look (d : Nat) (hN : κ 11 5 = nI (kN κ)) (hN4 : kN κ ≤ 400) : ∀ m i c e, i + m = kN κ → (∀ x, c = some x → x < 400) → (∀ x, e = some x → x < 400) → zX E (d + 1) mX2_look 30 [some (.ref 3), some (.ref 11), some (.int (κ 3 6 ||| κ 3 7)), some (.int (nI i)), none, none, none] [] (k_lk κ (zon c) (zon e), α, τ) (fun r ν => r = none ∧ ν = (k_lk κ (zon (zor2 c (zfind (k_clB κ) i m))) (zon (zor2 e (zfind (k_drB κ) i m))), α, τ)) := by
  intro m
  induction m with
  | zero =>
    intro i c e hi hc he
    refine x_iload_n (pc := 30) 3 dX2_look_30 rfl rfl ?_
    refine x_aload_n (pc := 31) 1 dX2_look_31 rfl rfl ?_
    refine x_geti_l (pc := 32) dX2_look_32 fX2_124 (zat_b rfl rfl) rfl rfl ?_
    rw [k_lk_p (by decide), hN]
    refine x_icmp_ge_t (pc := 35) 153 dX2_look_35 (by decide) (nI_le (by omega) (by omega)) ?_
    refine x_vret (pc := 153) dX2_look_153 rfl ?_
    rw [show zfind (k_clB κ) i 0 = none from rfl, show zfind (k_drB κ) i 0 = none from rfl, zor2_none, zor2_none]
    exact ⟨rfl, rfl⟩
  | succ m ih =>
    intro i c e hi hc he
    have s1 : zfind (k_clB κ) i (m + 1) = bif k_clB κ i then some i else zfind (k_clB κ) (i + 1) m := rfl
    have s2 : zfind (k_drB κ) i (m + 1) = bif k_drB κ i then some i else zfind (k_drB κ) (i + 1) m := rfl
    rw [s1, s2]
    have fin : ∀ c' e' x4 x5 x6, (∀ x, c' = some x → x < 400) → (∀ x, e' = some x → x < 400) → zor2 c (bif k_clB κ i then some i else zfind (k_clB κ) (i + 1) m) = zor2 c' (zfind (k_clB κ) (i + 1) m) → zor2 e (bif k_drB κ i then some i else zfind (k_drB κ) (i + 1) m) = zor2 e' (zfind (k_drB κ) (i + 1) m) → zX E (d + 1) mX2_look 147 [some (.ref 3), some (.ref 11), some (.int (κ 3 6 ||| κ 3 7)), some (.int (nI i)), x4, x5, x6] [] (k_lk κ (zon c') (zon e'), α, τ) (fun r ν => r = none ∧ ν = (k_lk κ (zon (zor2 c (bif k_clB κ i then some i else zfind (k_clB κ) (i + 1) m))) (zon (zor2 e (bif k_drB κ i then some i else zfind (k_drB κ) (i + 1) m))), α, τ)) := by
      intro c' e' x4 x5 x6 hc' he' q1 q2
      rw [q1, q2]
      refine x_iinc (pc := 147) (nI (i + 1)) dX2_look_147 rfl (zinc _) (by decide) rfl ?_
      refine x_goto (pc := 150) 30 dX2_look_150 (by decide) ?_
      exact zX.sub (zs1 (zs1 (zs1 (zs1 (zsn (zsn (zsn zse))))))) (ih (i + 1) c' e' (by omega) hc' he')
    refine x_iload_n (pc := 30) 3 dX2_look_30 rfl rfl ?_
    refine x_aload_n (pc := 31) 1 dX2_look_31 rfl rfl ?_
    refine x_geti_l (pc := 32) dX2_look_32 fX2_124 (zat_b rfl rfl) rfl rfl ?_
    rw [k_lk_p (by decide), hN]
    refine x_icmp_ge_f (pc := 35) 153 dX2_look_35 (by decide) (nI_ge (by omega) (by omega)) ?_
    refine x_aload_n (pc := 38) 1 dX2_look_38 rfl rfl ?_
    refine x_getr (pc := 39) (12) dX2_look_39 fX2_129 (zat_b rfl rfl) rfl ?_
    refine x_iload_n (pc := 42) 3 dX2_look_42 rfl rfl ?_
    have hj43 : i < 400 := by omega
    refine x_iald_l (pc := 43) (i) dX2_look_43 (zar_b rfl rfl rfl) rfl (by first | rfl | simp only [pk_mul, nI_add] | simp only [zon, pk_mul, nI_add]) hj43 (Nat.lt_of_lt_of_le hj43 (by decide)) ?_
    refine x_istore (pc := 44) dX2_look_44 (by decide) rfl ?_
    refine x_aload_n (pc := 46) 1 dX2_look_46 rfl rfl ?_
    refine x_getr (pc := 47) (13) dX2_look_47 fX2_132 (zat_b rfl rfl) rfl ?_
    refine x_iload_n (pc := 50) 3 dX2_look_50 rfl rfl ?_
    have hj51 : i < 400 := by omega
    refine x_iald_l (pc := 51) (i) dX2_look_51 (zar_b rfl rfl rfl) rfl (by first | rfl | simp only [pk_mul, nI_add] | simp only [zon, pk_mul, nI_add]) hj51 (Nat.lt_of_lt_of_le hj51 (by decide)) ?_
    refine x_istore (pc := 52) dX2_look_52 (by decide) rfl ?_
    refine x_iload (pc := 54) dX2_look_54 rfl ?_
    refine x_aload_n (pc := 56) 0 dX2_look_56 rfl rfl ?_
    refine x_geti_l (pc := 57) dX2_look_57 fX2_77 (zat_b rfl rfl) rfl rfl ?_
    rw [k_lk_p (by decide), k_lk_p (by decide), k_lk_i (by decide) (by decide)]
    refine x_iand (pc := 60) dX2_look_60 ?_
    refine x_iload (pc := 61) dX2_look_61 rfl ?_
    refine x_aload_n (pc := 63) 0 dX2_look_63 rfl rfl ?_
    refine x_geti_l (pc := 64) dX2_look_64 fX2_80 (zat_b rfl rfl) rfl rfl ?_
    rw [k_lk_i (by decide) (by decide)]
    by_cases h1 : k_sat κ i = 0
    ·
      refine x_iand (pc := 67) dX2_look_67 ?_
      refine x_ior (pc := 68) dX2_look_68 ?_
      refine x_if_ne_f (pc := 69) 147 dX2_look_69 (by decide) (h1) ?_
      refine x_aload_n (pc := 72) 1 dX2_look_72 rfl rfl ?_
      refine x_getr (pc := 73) (14) dX2_look_73 fX2_135 (zat_b rfl rfl) rfl ?_
      refine x_iload_n (pc := 76) 3 dX2_look_76 rfl rfl ?_
      have hj77 : i < 400 := by omega
      refine x_bald_l (pc := 77) (i) dX2_look_77 (zar_b rfl rfl rfl) rfl (by first | rfl | simp only [pk_mul, nI_add] | simp only [zon, pk_mul, nI_add]) hj77 (Nat.lt_of_lt_of_le hj77 (by decide)) ?_
      rw [k_lk_p (by decide)]
      by_cases h2 : κ 14 i = nI 2
      ·
        refine x_iconst (pc := 78) (nI 2) dX2_look_78 (by decide) ?_
        refine x_icmp_ne_f (pc := 79) 85 dX2_look_79 (by decide) (h2) ?_
        refine x_goto (pc := 82) 147 dX2_look_82 (by decide) ?_
        have b1 : k_clB κ i = false := by unfold k_clB; rw [decide_eq_false (p := ¬ κ 14 i = nI 2) (by simpa using h2)]; simp
        have b2 : k_drB κ i = false := by unfold k_drB; rw [decide_eq_false (p := ¬ κ 14 i = nI 2) (by simpa using h2)]; simp
        exact fin c e _ _ _ hc he (by rw [b1]; rfl) (by rw [b2]; rfl)
      ·
        refine x_iconst (pc := 78) (nI 2) dX2_look_78 (by decide) ?_
        refine x_icmp_ne_t (pc := 79) 85 dX2_look_79 (by decide) (h2) ?_
        refine x_iload (pc := 85) dX2_look_85 rfl ?_
        refine x_iload (pc := 87) dX2_look_87 rfl ?_
        refine x_ior (pc := 89) dX2_look_89 ?_
        refine x_iload_n (pc := 90) 2 dX2_look_90 rfl rfl ?_
        refine x_iconst (pc := 91) (-1) dX2_look_91 (by decide) ?_
        refine x_ixor (pc := 92) dX2_look_92 ?_
        refine x_iand (pc := 93) dX2_look_93 ?_
        refine x_istore (pc := 94) dX2_look_94 (by decide) rfl ?_
        by_cases h3 : k_opn κ i = 0
        · have b1 : k_clB κ i = true := by unfold k_clB; rw [decide_eq_true h1, decide_eq_true h2, decide_eq_true h3]; rfl
          have b2 : k_drB κ i = false := by unfold k_drB; rw [decide_eq_false (p := ¬ k_opn κ i = 0) (by simpa using h3)]; simp
          refine x_iload (pc := 96) dX2_look_96 rfl ?_
          refine x_if_ne_f (pc := 98) 124 dX2_look_98 (by decide) (h3) ?_
          refine x_aload_n (pc := 101) 0 dX2_look_101 rfl rfl ?_
          refine x_aload_n (pc := 102) 0 dX2_look_102 rfl rfl ?_
          refine x_geti_l (pc := 103) dX2_look_103 fX2_71 (zat_b rfl rfl) rfl rfl ?_
          rw [k_lk_9]
          cases c with
          | none =>
            refine x_iconst (pc := 106) (-1) dX2_look_106 (by decide) ?_
            refine x_icmp_ne_f (pc := 107) 114 dX2_look_107 (by decide) (rfl) ?_
            refine x_iload_n (pc := 110) 3 dX2_look_110 rfl rfl ?_
            refine x_goto (pc := 111) 118 dX2_look_111 (by decide) ?_
            refine x_puti_l (pc := 118) dX2_look_118 pX2_71 (zat_b rfl rfl) rfl rfl ?_
            rw [k_lk_s9]
            refine x_goto (pc := 121) 147 dX2_look_121 (by decide) ?_
            exact fin (some i) e _ _ _ (fun x hx => by cases hx; omega) he (by rw [b1]; rfl) (by rw [b2]; rfl)
          | some x =>
            refine x_iconst (pc := 106) (-1) dX2_look_106 (by decide) ?_
            refine x_icmp_ne_t (pc := 107) 114 dX2_look_107 (by decide) (nI_nem1 (by have := hc x rfl; omega)) ?_
            refine x_aload_n (pc := 114) 0 dX2_look_114 rfl rfl ?_
            refine x_geti_l (pc := 115) dX2_look_115 fX2_71 (zat_b rfl rfl) rfl rfl ?_
            rw [k_lk_9]
            refine x_puti_l (pc := 118) dX2_look_118 pX2_71 (zat_b rfl rfl) rfl rfl ?_
            rw [k_lk_s9]
            refine x_goto (pc := 121) 147 dX2_look_121 (by decide) ?_
            exact fin (some x) e _ _ _ hc he rfl (by rw [b2]; rfl)
        · have b1 : k_clB κ i = false := by unfold k_clB; rw [decide_eq_false h3]; simp
          refine x_iload (pc := 96) dX2_look_96 rfl ?_
          refine x_if_ne_t (pc := 98) 124 dX2_look_98 (by decide) (h3) ?_
          refine x_aload_n (pc := 124) 0 dX2_look_124 rfl rfl ?_
          refine x_geti_l (pc := 125) dX2_look_125 fX2_61 (zat_b rfl rfl) rfl rfl ?_
          rw [k_lk_10]
          cases e with
          | some x =>
            refine x_iconst (pc := 128) (-1) dX2_look_128 (by decide) ?_
            refine x_icmp_ne_t (pc := 129) 147 dX2_look_129 (by decide) (nI_nem1 (by have := he x rfl; omega)) ?_
            exact fin c (some x) _ _ _ hc he (by rw [b1]; rfl) rfl
          | none =>
            by_cases h4 : k_opn κ i &&& (k_opn κ i - nI 1) = 0
            · have b2 : k_drB κ i = true := by unfold k_drB; rw [decide_eq_true h1, decide_eq_true h2, decide_eq_true h3, decide_eq_true h4]; rfl
              refine x_iconst (pc := 128) (-1) dX2_look_128 (by decide) ?_
              refine x_icmp_ne_f (pc := 129) 147 dX2_look_129 (by decide) (rfl) ?_
              refine x_iload (pc := 132) dX2_look_132 rfl ?_
              refine x_iload (pc := 134) dX2_look_134 rfl ?_
              refine x_iconst (pc := 136) (nI 1) dX2_look_136 (by decide) ?_
              refine x_isub (pc := 137) dX2_look_137 ?_
              refine x_iand (pc := 138) dX2_look_138 ?_
              refine x_if_ne_f (pc := 139) 147 dX2_look_139 (by decide) (h4) ?_
              refine x_aload_n (pc := 142) 0 dX2_look_142 rfl rfl ?_
              refine x_iload_n (pc := 143) 3 dX2_look_143 rfl rfl ?_
              refine x_puti_l (pc := 144) dX2_look_144 pX2_61 (zat_b rfl rfl) rfl rfl ?_
              rw [k_lk_s10]
              exact fin c (some i) _ _ _ hc (fun x hx => by cases hx; omega) (by rw [b1]; rfl) (by rw [b2]; rfl)
            · have b2 : k_drB κ i = false := by unfold k_drB; rw [decide_eq_false h4]; simp
              refine x_iconst (pc := 128) (-1) dX2_look_128 (by decide) ?_
              refine x_icmp_ne_f (pc := 129) 147 dX2_look_129 (by decide) (rfl) ?_
              refine x_iload (pc := 132) dX2_look_132 rfl ?_
              refine x_iload (pc := 134) dX2_look_134 rfl ?_
              refine x_iconst (pc := 136) (nI 1) dX2_look_136 (by decide) ?_
              refine x_isub (pc := 137) dX2_look_137 ?_
              refine x_iand (pc := 138) dX2_look_138 ?_
              refine x_if_ne_t (pc := 139) 147 dX2_look_139 (by decide) (h4) ?_
              exact fin c none _ _ _ hc he (by rw [b1]; rfl) (by rw [b2]; rfl)
    · have b1 : k_clB κ i = false := by unfold k_clB; rw [decide_eq_false h1]; rfl
      have b2 : k_drB κ i = false := by unfold k_drB; rw [decide_eq_false h1]; rfl
      refine x_iand (pc := 67) dX2_look_67 ?_
      refine x_ior (pc := 68) dX2_look_68 ?_
      refine x_if_ne_t (pc := 69) 147 dX2_look_69 (by decide) (h1) ?_
      exact fin c e _ _ _ hc he (by rw [b1]; rfl) (by rw [b2]; rfl)
theorem s_look (d : Nat) (hN : κ 11 5 = nI (kN κ)) (hN4 : kN κ ≤ 400) : zTr E (d + 1) mX2_look [.ref 3] (κ, α, τ) none (k_look κ, α, τ) := by
  refine zM.tr (zM_of [some (.ref 3), none, none, none, none, none, none] (by decide) rfl (Nat.le_of_ble_eq_true rfl) ?_)
  refine x_aload_n (pc := 0) 0 dX2_look_0 rfl rfl ?_
  refine x_getr (pc := 1) (10) dX2_look_1 fX2_30 (zat_b rfl rfl) rfl ?_
  refine x_getr (pc := 4) (11) dX2_look_4 fX2_120 (zat_b rfl rfl) rfl ?_
  refine x_astore_n (pc := 7) 1 dX2_look_7 rfl (by decide) rfl ?_
  refine x_aload_n (pc := 8) 0 dX2_look_8 rfl rfl ?_
  refine x_geti_l (pc := 9) dX2_look_9 fX2_77 (zat_b rfl rfl) rfl rfl ?_
  refine x_aload_n (pc := 12) 0 dX2_look_12 rfl rfl ?_
  refine x_geti_l (pc := 13) dX2_look_13 fX2_80 (zat_b rfl rfl) rfl rfl ?_
  refine x_ior (pc := 16) dX2_look_16 ?_
  refine x_istore_n (pc := 17) 2 dX2_look_17 rfl (by decide) rfl ?_
  refine x_aload_n (pc := 18) 0 dX2_look_18 rfl rfl ?_
  refine x_iconst (pc := 19) (-1) dX2_look_19 (by decide) ?_
  refine x_puti_l (pc := 20) dX2_look_20 pX2_71 (zat_b rfl rfl) rfl rfl ?_
  refine x_aload_n (pc := 23) 0 dX2_look_23 rfl rfl ?_
  refine x_iconst (pc := 24) (-1) dX2_look_24 (by decide) ?_
  refine x_puti_l (pc := 25) dX2_look_25 pX2_61 (zat_b rfl rfl) rfl rfl ?_
  refine x_iconst (pc := 28) (nI 0) dX2_look_28 (by decide) ?_
  refine x_istore_n (pc := 29) 3 dX2_look_29 rfl (by decide) rfl ?_
  exact l_look d hN hN4 (kN κ) 0 none none (by omega) (fun x h => by cases h) (fun x h => by cases h)
theorem s_openLiteralOf (d : Nat) {c : Nat} (hc : c < 400) : zTr E (d + 2) mX2_openLiteralOf [.ref 3, .int (nI c)] (κ, α, τ) (some (.int (k_olit κ c))) (κ, α, τ) := by
  refine zM.tr (zM_of [some (.ref 3), some (.int (nI c)), none, none] (by decide) rfl (Nat.le_of_ble_eq_true rfl) ?_)
  unfold k_olit
  by_cases h : κ 12 c &&& k_opn κ c = 0
  · rw [if_pos h]
    refine x_aload_n (pc := 0) 0 dX2_openLiteralOf_0 rfl rfl ?_
    refine x_getr (pc := 1) (10) dX2_openLiteralOf_1 fX2_30 (zat_b rfl rfl) rfl ?_
    refine x_getr (pc := 4) (11) dX2_openLiteralOf_4 fX2_120 (zat_b rfl rfl) rfl ?_
    refine x_iload_n (pc := 7) 1 dX2_openLiteralOf_7 rfl rfl ?_
    refine x_callV1i (pc := 8) dX2_openLiteralOf_8 lX2_139 (zat_b rfl rfl) rfl (s_variablesOf d hc) (Nat.le_of_ble_eq_true rfl) (Or.inl zgr) ?_
    refine x_aload_n (pc := 11) 0 dX2_openLiteralOf_11 rfl rfl ?_
    refine x_geti_l (pc := 12) dX2_openLiteralOf_12 fX2_77 (zat_b rfl rfl) rfl rfl ?_
    refine x_aload_n (pc := 15) 0 dX2_openLiteralOf_15 rfl rfl ?_
    refine x_geti_l (pc := 16) dX2_openLiteralOf_16 fX2_80 (zat_b rfl rfl) rfl rfl ?_
    refine x_ior (pc := 19) dX2_openLiteralOf_19 ?_
    refine x_iconst (pc := 20) (-1) dX2_openLiteralOf_20 (by decide) ?_
    refine x_ixor (pc := 21) dX2_openLiteralOf_21 ?_
    refine x_iand (pc := 22) dX2_openLiteralOf_22 ?_
    refine x_istore_n (pc := 23) 2 dX2_openLiteralOf_23 rfl (by decide) rfl ?_
    refine x_iload_n (pc := 24) 2 dX2_openLiteralOf_24 rfl rfl ?_
    refine x_iconst (pc := 25) (nI 1) dX2_openLiteralOf_25 (by decide) ?_
    refine x_isub (pc := 26) dX2_openLiteralOf_26 ?_
    refine x_callS1i (pc := 27) dX2_openLiteralOf_27 lX2_142 (s_bitCount d _) (Nat.le_of_ble_eq_true rfl) (Or.inl zgr) ?_
    refine x_iconst (pc := 30) (nI 1) dX2_openLiteralOf_30 (by decide) ?_
    refine x_iadd (pc := 31) dX2_openLiteralOf_31 ?_
    refine x_istore_n (pc := 32) 3 dX2_openLiteralOf_32 rfl (by decide) rfl ?_
    refine x_aload_n (pc := 33) 0 dX2_openLiteralOf_33 rfl rfl ?_
    refine x_getr (pc := 34) (10) dX2_openLiteralOf_34 fX2_30 (zat_b rfl rfl) rfl ?_
    refine x_getr (pc := 37) (11) dX2_openLiteralOf_37 fX2_120 (zat_b rfl rfl) rfl ?_
    refine x_getr (pc := 40) (12) dX2_openLiteralOf_40 fX2_129 (zat_b rfl rfl) rfl ?_
    refine x_iload_n (pc := 43) 1 dX2_openLiteralOf_43 rfl rfl ?_
    have hj44 : c < 400 := by omega
    refine x_iald_l (pc := 44) (c) dX2_openLiteralOf_44 (zar_b rfl rfl rfl) rfl (by first | rfl | simp only [pk_mul, nI_add] | simp only [zon, pk_mul, nI_add]) hj44 (Nat.lt_of_lt_of_le hj44 (by decide)) ?_
    refine x_iload_n (pc := 45) 2 dX2_openLiteralOf_45 rfl rfl ?_
    refine x_iand (pc := 46) dX2_openLiteralOf_46 ?_
    refine x_if_eq_t (pc := 47) 54 dX2_openLiteralOf_47 (by decide) (h) ?_
    refine x_iload_n (pc := 54) 3 dX2_openLiteralOf_54 rfl rfl ?_
    refine x_ineg (pc := 55) dX2_openLiteralOf_55 ?_
    refine x_iret (pc := 56) dX2_openLiteralOf_56 rfl ?_
    exact ⟨rfl, rfl⟩
  · rw [if_neg h]
    refine x_aload_n (pc := 0) 0 dX2_openLiteralOf_0 rfl rfl ?_
    refine x_getr (pc := 1) (10) dX2_openLiteralOf_1 fX2_30 (zat_b rfl rfl) rfl ?_
    refine x_getr (pc := 4) (11) dX2_openLiteralOf_4 fX2_120 (zat_b rfl rfl) rfl ?_
    refine x_iload_n (pc := 7) 1 dX2_openLiteralOf_7 rfl rfl ?_
    refine x_callV1i (pc := 8) dX2_openLiteralOf_8 lX2_139 (zat_b rfl rfl) rfl (s_variablesOf d hc) (Nat.le_of_ble_eq_true rfl) (Or.inl zgr) ?_
    refine x_aload_n (pc := 11) 0 dX2_openLiteralOf_11 rfl rfl ?_
    refine x_geti_l (pc := 12) dX2_openLiteralOf_12 fX2_77 (zat_b rfl rfl) rfl rfl ?_
    refine x_aload_n (pc := 15) 0 dX2_openLiteralOf_15 rfl rfl ?_
    refine x_geti_l (pc := 16) dX2_openLiteralOf_16 fX2_80 (zat_b rfl rfl) rfl rfl ?_
    refine x_ior (pc := 19) dX2_openLiteralOf_19 ?_
    refine x_iconst (pc := 20) (-1) dX2_openLiteralOf_20 (by decide) ?_
    refine x_ixor (pc := 21) dX2_openLiteralOf_21 ?_
    refine x_iand (pc := 22) dX2_openLiteralOf_22 ?_
    refine x_istore_n (pc := 23) 2 dX2_openLiteralOf_23 rfl (by decide) rfl ?_
    refine x_iload_n (pc := 24) 2 dX2_openLiteralOf_24 rfl rfl ?_
    refine x_iconst (pc := 25) (nI 1) dX2_openLiteralOf_25 (by decide) ?_
    refine x_isub (pc := 26) dX2_openLiteralOf_26 ?_
    refine x_callS1i (pc := 27) dX2_openLiteralOf_27 lX2_142 (s_bitCount d _) (Nat.le_of_ble_eq_true rfl) (Or.inl zgr) ?_
    refine x_iconst (pc := 30) (nI 1) dX2_openLiteralOf_30 (by decide) ?_
    refine x_iadd (pc := 31) dX2_openLiteralOf_31 ?_
    refine x_istore_n (pc := 32) 3 dX2_openLiteralOf_32 rfl (by decide) rfl ?_
    refine x_aload_n (pc := 33) 0 dX2_openLiteralOf_33 rfl rfl ?_
    refine x_getr (pc := 34) (10) dX2_openLiteralOf_34 fX2_30 (zat_b rfl rfl) rfl ?_
    refine x_getr (pc := 37) (11) dX2_openLiteralOf_37 fX2_120 (zat_b rfl rfl) rfl ?_
    refine x_getr (pc := 40) (12) dX2_openLiteralOf_40 fX2_129 (zat_b rfl rfl) rfl ?_
    refine x_iload_n (pc := 43) 1 dX2_openLiteralOf_43 rfl rfl ?_
    have hj44 : c < 400 := by omega
    refine x_iald_l (pc := 44) (c) dX2_openLiteralOf_44 (zar_b rfl rfl rfl) rfl (by first | rfl | simp only [pk_mul, nI_add] | simp only [zon, pk_mul, nI_add]) hj44 (Nat.lt_of_lt_of_le hj44 (by decide)) ?_
    refine x_iload_n (pc := 45) 2 dX2_openLiteralOf_45 rfl rfl ?_
    refine x_iand (pc := 46) dX2_openLiteralOf_46 ?_
    refine x_if_eq_f (pc := 47) 54 dX2_openLiteralOf_47 (by decide) (h) ?_
    refine x_iload_n (pc := 50) 3 dX2_openLiteralOf_50 rfl rfl ?_
    refine x_goto (pc := 51) 56 dX2_openLiteralOf_51 (by decide) ?_
    refine x_iret (pc := 56) dX2_openLiteralOf_56 rfl ?_
    exact ⟨rfl, rfl⟩
theorem s_sput (d : Nat) {l : Int32} (w : Int32) {t : Nat} (hl : lok 30 l) (ht : κ 3 2 = nI t) (ht30 : t < 30) : zTr E (d + 2) mX2_put [.ref 3, .int l, .int w] (κ, α, τ) none (k_sput κ l w, α, τ) := by
  obtain ⟨g1, g2, g3, g4, g5⟩ := hl.is (by decide)
  have hcl : (κ 3 2).toNatClampNeg = t := by rw [ht]; exact nI_clamp (by omega)
  refine zM.tr (zM_of [some (.ref 3), some (.int l), some (.int w), none] (by decide) rfl (Nat.le_of_ble_eq_true rfl) ?_)
  refine x_iload_n (pc := 0) 1 dX2_put_0 rfl rfl ?_
  refine x_callN1i (pc := 1) dX2_put_1 lX2_147 (s_variableOf d l) (Nat.le_of_ble_eq_true rfl) (Or.inl zgr) ?_
  rw [g3]
  refine x_istore_n (pc := 4) 3 dX2_put_4 rfl (by decide) rfl ?_
  refine x_aload_n (pc := 5) 0 dX2_put_5 rfl rfl ?_
  refine x_geti_l (pc := 6) dX2_put_6 fX2_74 (zat_b rfl rfl) rfl rfl ?_
  rw [ht]
  refine x_aload_n (pc := 9) 0 dX2_put_9 rfl rfl ?_
  refine x_getr (pc := 10) (70) dX2_put_10 fX2_9 (zat_b rfl rfl) rfl ?_
  refine x_alen (pc := 13) dX2_put_13 (zar_b rfl rfl rfl) (by decide) ?_
  refine x_icmp_ge_f (pc := 14) 28 dX2_put_14 (by decide) (nI_ge (b := 30) (by omega) (by omega)) ?_
  refine x_iload_n (pc := 17) 3 dX2_put_17 rfl rfl ?_
  refine x_iconst (pc := 18) (nI 1) dX2_put_18 (by decide) ?_
  refine x_icmp_lt_f (pc := 19) 28 dX2_put_19 (by decide) (nI_nlt (b := 1) (by omega) (by omega)) ?_
  refine x_iload_n (pc := 22) 3 dX2_put_22 rfl rfl ?_
  refine x_bipush (pc := 23) (nI 30) dX2_put_23 (by decide) ?_
  refine x_icmp_le_t (pc := 25) 29 dX2_put_25 (by decide) (nI_le (b := 30) (by omega) (by omega)) ?_
  refine x_aload_n (pc := 29) 0 dX2_put_29 rfl rfl ?_
  refine x_getr (pc := 30) (70) dX2_put_30 fX2_9 (zat_b rfl rfl) rfl ?_
  refine x_aload_n (pc := 33) 0 dX2_put_33 rfl rfl ?_
  refine x_geti_l (pc := 34) dX2_put_34 fX2_74 (zat_b rfl rfl) rfl rfl ?_
  rw [ht]
  unfold k_sput k_sput0
  rw [hcl, ht]
  refine x_iload_n (pc := 37) 1 dX2_put_37 rfl rfl ?_
  have hj38 : t < 30 := by omega
  refine x_iast_l (pc := 38) (t) dX2_put_38 (zar_b rfl rfl rfl) rfl (by first | rfl | simp only [pk_mul, nI_add] | simp only [zon, pk_mul, nI_add]) hj38 (Nat.lt_of_lt_of_le hj38 (by decide)) ?_
  refine x_aload_n (pc := 39) 0 dX2_put_39 rfl rfl ?_
  refine x_dup (pc := 40) dX2_put_40 rfl ?_
  refine x_geti_l (pc := 41) dX2_put_41 fX2_74 (zat_b rfl rfl) rfl rfl ?_
  rw [zup_p (by decide), ht]
  refine x_iconst (pc := 44) (nI 1) dX2_put_44 (by decide) ?_
  refine x_iadd (pc := 45) dX2_put_45 ?_
  refine x_puti_l (pc := 46) dX2_put_46 pX2_74 (zat_b rfl rfl) rfl rfl ?_
  refine x_aload_n (pc := 49) 0 dX2_put_49 rfl rfl ?_
  refine x_getr (pc := 50) (71) dX2_put_50 fX2_15 (zat_b rfl rfl) rfl ?_
  refine x_iload_n (pc := 53) 3 dX2_put_53 rfl rfl ?_
  refine x_aload_n (pc := 54) 0 dX2_put_54 rfl rfl ?_
  refine x_geti_l (pc := 55) dX2_put_55 fX2_83 (zat_b rfl rfl) rfl rfl ?_
  rw [zup_i (by decide), zup_p (by decide)]
  have hj58 : zv l < 31 := by omega
  refine x_iast_l (pc := 58) (zv l) dX2_put_58 (zar_b rfl rfl rfl) rfl (by first | rfl | simp only [pk_mul, nI_add] | simp only [zon, pk_mul, nI_add]) hj58 (Nat.lt_of_lt_of_le hj58 (by decide)) ?_
  refine x_aload_n (pc := 59) 0 dX2_put_59 rfl rfl ?_
  refine x_getr (pc := 60) (72) dX2_put_60 fX2_18 (zat_b rfl rfl) rfl ?_
  refine x_iload_n (pc := 63) 3 dX2_put_63 rfl rfl ?_
  refine x_iload_n (pc := 64) 2 dX2_put_64 rfl rfl ?_
  have hj65 : zv l < 31 := by omega
  refine x_iast_l (pc := 65) (zv l) dX2_put_65 (zar_b rfl rfl rfl) rfl (by first | rfl | simp only [pk_mul, nI_add] | simp only [zon, pk_mul, nI_add]) hj65 (Nat.lt_of_lt_of_le hj65 (by decide)) ?_
  by_cases h : 0 < l
  · rw [if_pos h]
    refine x_iload_n (pc := 66) 1 dX2_put_66 rfl rfl ?_
    refine x_if_le_f (pc := 67) 86 dX2_put_67 (by decide) (Int32.not_le.mpr h) ?_
    refine x_aload_n (pc := 70) 0 dX2_put_70 rfl rfl ?_
    refine x_dup (pc := 71) dX2_put_71 rfl ?_
    refine x_geti_l (pc := 72) dX2_put_72 fX2_77 (zat_b rfl rfl) rfl rfl ?_
    rw [zup_p (by decide), zup_p (by decide), zup_i (by decide), zup_p (by decide)]
    refine x_iload_n (pc := 75) 1 dX2_put_75 rfl rfl ?_
    refine x_callN1i (pc := 76) dX2_put_76 lX2_150 (s_bitOf d l) (Nat.le_of_ble_eq_true rfl) (Or.inl zgr) ?_
    refine x_ior (pc := 79) dX2_put_79 ?_
    refine x_puti_l (pc := 80) dX2_put_80 pX2_77 (zat_b rfl rfl) rfl rfl ?_
    refine x_goto (pc := 83) 99 dX2_put_83 (by decide) ?_
    refine x_vret (pc := 99) dX2_put_99 rfl ?_
    exact ⟨rfl, rfl⟩
  · rw [if_neg h]
    refine x_iload_n (pc := 66) 1 dX2_put_66 rfl rfl ?_
    refine x_if_le_t (pc := 67) 86 dX2_put_67 (by decide) (Int32.not_lt.mp h) ?_
    refine x_aload_n (pc := 86) 0 dX2_put_86 rfl rfl ?_
    refine x_dup (pc := 87) dX2_put_87 rfl ?_
    refine x_geti_l (pc := 88) dX2_put_88 fX2_80 (zat_b rfl rfl) rfl rfl ?_
    rw [zup_p (by decide), zup_p (by decide), zup_i (by decide), zup_p (by decide)]
    refine x_iload_n (pc := 91) 1 dX2_put_91 rfl rfl ?_
    refine x_callN1i (pc := 92) dX2_put_92 lX2_150 (s_bitOf d l) (Nat.le_of_ble_eq_true rfl) (Or.inl zgr) ?_
    refine x_ior (pc := 95) dX2_put_95 ?_
    refine x_puti_l (pc := 96) dX2_put_96 pX2_80 (zat_b rfl rfl) rfl rfl ?_
    refine x_vret (pc := 99) dX2_put_99 rfl ?_
    exact ⟨rfl, rfl⟩
theorem l_leave (d : Nat) (b : Int32) : ∀ (n : Nat) (κ : Nat → Nat → Int32), n ≤ 30 → (∀ i, i < n → lok 30 (κ 70 i)) → zX E (d + 2) mX2_leaveAbove 7 [some (.ref 3), some (.int b), some (.int (nI n - nI 1)), none] [] (κ, α, τ) (fun r ν => r = none ∧ ν = (zup (k_lvL b n κ) 3 8 (k_max b (nI 0)), α, τ)) := by
  intro n
  induction n with
  | zero =>
    intro κ hn hl
    refine x_iload_n (pc := 7) 2 dX2_leaveAbove_7 rfl rfl ?_
    refine x_if_lt_t (pc := 8) 113 dX2_leaveAbove_8 (by decide) (by decide) ?_
    refine x_aload_n (pc := 113) 0 dX2_leaveAbove_113 rfl rfl ?_
    refine x_iload_n (pc := 114) 1 dX2_leaveAbove_114 rfl rfl ?_
    refine x_iconst (pc := 115) (nI 0) dX2_leaveAbove_115 (by decide) ?_
    refine x_mmax (pc := 116) dX2_leaveAbove_116 lX2_156 (Nat.le_of_ble_eq_true rfl) ?_
    refine x_puti_l (pc := 119) dX2_leaveAbove_119 pX2_83 (zat_b rfl rfl) rfl rfl ?_
    refine x_vret (pc := 122) dX2_leaveAbove_122 rfl ?_
    exact ⟨rfl, rfl⟩
  | succ n ih =>
    intro κ hn hl
    obtain ⟨g1, g2, g3, g4, g5⟩ := (hl n (by omega)).is (by decide)
    rw [show nI (n + 1) - nI 1 = nI n by rw [pk_sub (by omega)]; rfl]
    unfold k_lvL
    refine x_iload_n (pc := 7) 2 dX2_leaveAbove_7 rfl rfl ?_
    refine x_if_lt_f (pc := 8) 113 dX2_leaveAbove_8 (by decide) (nI_pos (by omega)) ?_
    refine x_aload_n (pc := 11) 0 dX2_leaveAbove_11 rfl rfl ?_
    refine x_getr (pc := 12) (71) dX2_leaveAbove_12 fX2_15 (zat_b rfl rfl) rfl ?_
    refine x_aload_n (pc := 15) 0 dX2_leaveAbove_15 rfl rfl ?_
    refine x_getr (pc := 16) (70) dX2_leaveAbove_16 fX2_9 (zat_b rfl rfl) rfl ?_
    refine x_iload_n (pc := 19) 2 dX2_leaveAbove_19 rfl rfl ?_
    have hj20 : n < 30 := by omega
    refine x_iald_l (pc := 20) (n) dX2_leaveAbove_20 (zar_b rfl rfl rfl) rfl (by first | rfl | simp only [pk_mul, nI_add] | simp only [zon, pk_mul, nI_add]) hj20 (Nat.lt_of_lt_of_le hj20 (by decide)) ?_
    refine x_callN1i (pc := 21) dX2_leaveAbove_21 lX2_147 (s_variableOf d _) (Nat.le_of_ble_eq_true rfl) (Or.inl zgr) ?_
    rw [g3]
    by_cases h : b < κ 71 (zv (κ 70 n))
    · rw [if_pos h]
      have hj24 : zv (κ 70 n) < 31 := by omega
      refine x_iald_l (pc := 24) (zv (κ 70 n)) dX2_leaveAbove_24 (zar_b rfl rfl rfl) rfl (by first | rfl | simp only [pk_mul, nI_add] | simp only [zon, pk_mul, nI_add]) hj24 (Nat.lt_of_lt_of_le hj24 (by decide)) ?_
      refine x_iload_n (pc := 25) 1 dX2_leaveAbove_25 rfl rfl ?_
      refine x_icmp_le_f (pc := 26) 113 dX2_leaveAbove_26 (by decide) (Int32.not_le.mpr h) ?_
      refine x_aload_n (pc := 29) 0 dX2_leaveAbove_29 rfl rfl ?_
      refine x_getr (pc := 30) (70) dX2_leaveAbove_30 fX2_9 (zat_b rfl rfl) rfl ?_
      refine x_iload_n (pc := 33) 2 dX2_leaveAbove_33 rfl rfl ?_
      have hj34 : n < 30 := by omega
      refine x_iald_l (pc := 34) (n) dX2_leaveAbove_34 (zar_b rfl rfl rfl) rfl (by first | rfl | simp only [pk_mul, nI_add] | simp only [zon, pk_mul, nI_add]) hj34 (Nat.lt_of_lt_of_le hj34 (by decide)) ?_
      refine x_callN1i (pc := 35) dX2_leaveAbove_35 lX2_150 (s_bitOf d _) (Nat.le_of_ble_eq_true rfl) (Or.inl zgr) ?_
      refine x_istore_n (pc := 38) 3 dX2_leaveAbove_38 rfl (by decide) rfl ?_
      refine x_aload_n (pc := 39) 0 dX2_leaveAbove_39 rfl rfl ?_
      refine x_getr (pc := 40) (10) dX2_leaveAbove_40 fX2_30 (zat_b rfl rfl) rfl ?_
      refine x_aload_n (pc := 43) 0 dX2_leaveAbove_43 rfl rfl ?_
      refine x_getr (pc := 44) (70) dX2_leaveAbove_44 fX2_9 (zat_b rfl rfl) rfl ?_
      refine x_iload_n (pc := 47) 2 dX2_leaveAbove_47 rfl rfl ?_
      have hj48 : n < 30 := by omega
      refine x_iald_l (pc := 48) (n) dX2_leaveAbove_48 (zar_b rfl rfl rfl) rfl (by first | rfl | simp only [pk_mul, nI_add] | simp only [zon, pk_mul, nI_add]) hj48 (Nat.lt_of_lt_of_le hj48 (by decide)) ?_
      have fin : ∀ μ, μ = k_lv1 n κ → zX E (d + 2) mX2_leaveAbove 107 [some (.ref 3), some (.int b), some (.int (nI n)), some (.int (kb (κ 70 n)))] [] (μ, α, τ) (fun r ν => r = none ∧ ν = (zup (k_lvL b n (k_lv1 n κ)) 3 8 (k_max b (nI 0)), α, τ)) := by
        intro μ hμ
        subst hμ
        refine x_iinc (pc := 107) (nI n - nI 1) dX2_leaveAbove_107 rfl (zdec1 _) (by decide) rfl ?_
        refine x_goto (pc := 110) 7 dX2_leaveAbove_110 (by decide) ?_
        refine zX.sub (zs1 (zs1 (zs1 (zsn zse)))) (ih (k_lv1 n κ) (by omega) (fun i hi => ?_))
        unfold k_lv1 k_setPhase
        rw [zup_p (by decide), zup_p (by decide), zup_p (by decide), zup_p (by decide)]
        exact hl i (by omega)
      by_cases h2 : 0 < κ 70 n
      ·
        refine x_if_le_f (pc := 49) 64 dX2_leaveAbove_49 (by decide) (Int32.not_le.mpr h2) ?_
        refine x_aload_n (pc := 52) 0 dX2_leaveAbove_52 rfl rfl ?_
        refine x_getr (pc := 53) (10) dX2_leaveAbove_53 fX2_30 (zat_b rfl rfl) rfl ?_
        refine x_geti_l (pc := 56) dX2_leaveAbove_56 fX2_153 (zat_b rfl rfl) rfl rfl ?_
        refine x_iload_n (pc := 59) 3 dX2_leaveAbove_59 rfl rfl ?_
        refine x_ior (pc := 60) dX2_leaveAbove_60 ?_
        refine x_goto (pc := 61) 75 dX2_leaveAbove_61 (by decide) ?_
        refine x_puti_l (pc := 75) dX2_leaveAbove_75 pX2_153 (zat_b rfl rfl) rfl rfl ?_
        refine x_aload_n (pc := 78) 0 dX2_leaveAbove_78 rfl rfl ?_
        refine x_dup (pc := 79) dX2_leaveAbove_79 rfl ?_
        refine x_geti_l (pc := 80) dX2_leaveAbove_80 fX2_77 (zat_b rfl rfl) rfl rfl ?_
        rw [zup_p (by decide)]
        refine x_iload_n (pc := 83) 3 dX2_leaveAbove_83 rfl rfl ?_
        refine x_iconst (pc := 84) (-1) dX2_leaveAbove_84 (by decide) ?_
        refine x_ixor (pc := 85) dX2_leaveAbove_85 ?_
        refine x_iand (pc := 86) dX2_leaveAbove_86 ?_
        refine x_puti_l (pc := 87) dX2_leaveAbove_87 pX2_77 (zat_b rfl rfl) rfl rfl ?_
        refine x_aload_n (pc := 90) 0 dX2_leaveAbove_90 rfl rfl ?_
        refine x_dup (pc := 91) dX2_leaveAbove_91 rfl ?_
        refine x_geti_l (pc := 92) dX2_leaveAbove_92 fX2_80 (zat_b rfl rfl) rfl rfl ?_
        rw [zup_i (by decide), zup_p (by decide)]
        refine x_iload_n (pc := 95) 3 dX2_leaveAbove_95 rfl rfl ?_
        refine x_iconst (pc := 96) (-1) dX2_leaveAbove_96 (by decide) ?_
        refine x_ixor (pc := 97) dX2_leaveAbove_97 ?_
        refine x_iand (pc := 98) dX2_leaveAbove_98 ?_
        refine x_puti_l (pc := 99) dX2_leaveAbove_99 pX2_80 (zat_b rfl rfl) rfl rfl ?_
        refine x_aload_n (pc := 102) 0 dX2_leaveAbove_102 rfl rfl ?_
        refine x_iload_n (pc := 103) 2 dX2_leaveAbove_103 rfl rfl ?_
        refine x_puti_l (pc := 104) dX2_leaveAbove_104 pX2_74 (zat_b rfl rfl) rfl rfl ?_
        exact fin _ (by unfold k_lv1 k_setPhase; rw [if_pos h2])
      ·
        refine x_if_le_t (pc := 49) 64 dX2_leaveAbove_49 (by decide) (Int32.not_lt.mp h2) ?_
        refine x_aload_n (pc := 64) 0 dX2_leaveAbove_64 rfl rfl ?_
        refine x_getr (pc := 65) (10) dX2_leaveAbove_65 fX2_30 (zat_b rfl rfl) rfl ?_
        refine x_geti_l (pc := 68) dX2_leaveAbove_68 fX2_153 (zat_b rfl rfl) rfl rfl ?_
        refine x_iload_n (pc := 71) 3 dX2_leaveAbove_71 rfl rfl ?_
        refine x_iconst (pc := 72) (-1) dX2_leaveAbove_72 (by decide) ?_
        refine x_ixor (pc := 73) dX2_leaveAbove_73 ?_
        refine x_iand (pc := 74) dX2_leaveAbove_74 ?_
        refine x_puti_l (pc := 75) dX2_leaveAbove_75 pX2_153 (zat_b rfl rfl) rfl rfl ?_
        refine x_aload_n (pc := 78) 0 dX2_leaveAbove_78 rfl rfl ?_
        refine x_dup (pc := 79) dX2_leaveAbove_79 rfl ?_
        refine x_geti_l (pc := 80) dX2_leaveAbove_80 fX2_77 (zat_b rfl rfl) rfl rfl ?_
        rw [zup_p (by decide)]
        refine x_iload_n (pc := 83) 3 dX2_leaveAbove_83 rfl rfl ?_
        refine x_iconst (pc := 84) (-1) dX2_leaveAbove_84 (by decide) ?_
        refine x_ixor (pc := 85) dX2_leaveAbove_85 ?_
        refine x_iand (pc := 86) dX2_leaveAbove_86 ?_
        refine x_puti_l (pc := 87) dX2_leaveAbove_87 pX2_77 (zat_b rfl rfl) rfl rfl ?_
        refine x_aload_n (pc := 90) 0 dX2_leaveAbove_90 rfl rfl ?_
        refine x_dup (pc := 91) dX2_leaveAbove_91 rfl ?_
        refine x_geti_l (pc := 92) dX2_leaveAbove_92 fX2_80 (zat_b rfl rfl) rfl rfl ?_
        rw [zup_i (by decide), zup_p (by decide)]
        refine x_iload_n (pc := 95) 3 dX2_leaveAbove_95 rfl rfl ?_
        refine x_iconst (pc := 96) (-1) dX2_leaveAbove_96 (by decide) ?_
        refine x_ixor (pc := 97) dX2_leaveAbove_97 ?_
        refine x_iand (pc := 98) dX2_leaveAbove_98 ?_
        refine x_puti_l (pc := 99) dX2_leaveAbove_99 pX2_80 (zat_b rfl rfl) rfl rfl ?_
        refine x_aload_n (pc := 102) 0 dX2_leaveAbove_102 rfl rfl ?_
        refine x_iload_n (pc := 103) 2 dX2_leaveAbove_103 rfl rfl ?_
        refine x_puti_l (pc := 104) dX2_leaveAbove_104 pX2_74 (zat_b rfl rfl) rfl rfl ?_
        exact fin _ (by unfold k_lv1 k_setPhase; rw [if_neg h2])
    · rw [if_neg h]
      have hj24 : zv (κ 70 n) < 31 := by omega
      refine x_iald_l (pc := 24) (zv (κ 70 n)) dX2_leaveAbove_24 (zar_b rfl rfl rfl) rfl (by first | rfl | simp only [pk_mul, nI_add] | simp only [zon, pk_mul, nI_add]) hj24 (Nat.lt_of_lt_of_le hj24 (by decide)) ?_
      refine x_iload_n (pc := 25) 1 dX2_leaveAbove_25 rfl rfl ?_
      refine x_icmp_le_t (pc := 26) 113 dX2_leaveAbove_26 (by decide) (Int32.not_lt.mp h) ?_
      refine x_aload_n (pc := 113) 0 dX2_leaveAbove_113 rfl rfl ?_
      refine x_iload_n (pc := 114) 1 dX2_leaveAbove_114 rfl rfl ?_
      refine x_iconst (pc := 115) (nI 0) dX2_leaveAbove_115 (by decide) ?_
      refine x_mmax (pc := 116) dX2_leaveAbove_116 lX2_156 (Nat.le_of_ble_eq_true rfl) ?_
      refine x_puti_l (pc := 119) dX2_leaveAbove_119 pX2_83 (zat_b rfl rfl) rfl rfl ?_
      refine x_vret (pc := 122) dX2_leaveAbove_122 rfl ?_
      exact ⟨rfl, rfl⟩
theorem s_leave (d : Nat) (b : Int32) {t : Nat} (hQ : kQ κ t) : zTr E (d + 2) mX2_leaveAbove [.ref 3, .int b] (κ, α, τ) none (k_leave κ b, α, τ) := by
  have hcl : (κ 3 2).toNatClampNeg = t := by rw [hQ.1]; exact nI_clamp (by have := hQ.2.1; omega)
  refine zM.tr (zM_of [some (.ref 3), some (.int b), none, none] (by decide) rfl (Nat.le_of_ble_eq_true rfl) ?_)
  unfold k_leave
  rw [hcl]
  refine x_aload_n (pc := 0) 0 dX2_leaveAbove_0 rfl rfl ?_
  refine x_geti_l (pc := 1) dX2_leaveAbove_1 fX2_74 (zat_b rfl rfl) rfl rfl ?_
  rw [hQ.1]
  refine x_iconst (pc := 4) (nI 1) dX2_leaveAbove_4 (by decide) ?_
  refine x_isub (pc := 5) dX2_leaveAbove_5 ?_
  refine x_istore_n (pc := 6) 2 dX2_leaveAbove_6 rfl (by decide) rfl ?_
  exact l_leave d b t κ hQ.2.1 hQ.2.2
theorem l_first (d : Nat) (hA : κ 19 1 = nI (kA κ)) (hA8 : kA κ ≤ 8) : ∀ m i, i + m = kA κ → zX E (d + 2) mX2_firstAssumptionNotTrue 10 [some (.ref 3), some (.ref 19), some (.int (nI i)), none] [] (κ, α, τ) (fun r ν => r = some (.int (zon (zfind (k_asB κ) i m))) ∧ ν = (κ, α, τ)) := by
  intro m
  induction m with
  | zero =>
    intro i hi
    refine x_iload_n (pc := 10) 2 dX2_firstAssumptionNotTrue_10 rfl rfl ?_
    refine x_aload_n (pc := 11) 1 dX2_firstAssumptionNotTrue_11 rfl rfl ?_
    refine x_geti_l (pc := 12) dX2_firstAssumptionNotTrue_12 fX2_165 (zat_b rfl rfl) rfl rfl ?_
    rw [hA]
    refine x_icmp_ge_t (pc := 15) 56 dX2_firstAssumptionNotTrue_15 (by decide) (nI_le (by omega) (by omega)) ?_
    refine x_iconst (pc := 56) (-1) dX2_firstAssumptionNotTrue_56 (by decide) ?_
    refine x_iret (pc := 57) dX2_firstAssumptionNotTrue_57 rfl ?_
    exact ⟨rfl, rfl⟩
  | succ m ih =>
    intro i hi
    have step : zfind (k_asB κ) i (m + 1) = bif k_asB κ i then some i else zfind (k_asB κ) (i + 1) m := rfl
    rw [step]
    refine x_iload_n (pc := 10) 2 dX2_firstAssumptionNotTrue_10 rfl rfl ?_
    refine x_aload_n (pc := 11) 1 dX2_firstAssumptionNotTrue_11 rfl rfl ?_
    refine x_geti_l (pc := 12) dX2_firstAssumptionNotTrue_12 fX2_165 (zat_b rfl rfl) rfl rfl ?_
    rw [hA]
    refine x_icmp_ge_f (pc := 15) 56 dX2_firstAssumptionNotTrue_15 (by decide) (nI_ge (by omega) (by omega)) ?_
    refine x_aload_n (pc := 18) 1 dX2_firstAssumptionNotTrue_18 rfl rfl ?_
    refine x_getr (pc := 19) (20) dX2_firstAssumptionNotTrue_19 fX2_168 (zat_b rfl rfl) rfl ?_
    refine x_iload_n (pc := 22) 2 dX2_firstAssumptionNotTrue_22 rfl rfl ?_
    have hj23 : i < 8 := by omega
    refine x_iald_l (pc := 23) (i) dX2_firstAssumptionNotTrue_23 (zar_b rfl rfl rfl) rfl (by first | rfl | simp only [pk_mul, nI_add] | simp only [zon, pk_mul, nI_add]) hj23 (Nat.lt_of_lt_of_le hj23 (by decide)) ?_
    refine x_istore_n (pc := 24) 3 dX2_firstAssumptionNotTrue_24 rfl (by decide) rfl ?_
    have fin : zX E (d + 2) mX2_firstAssumptionNotTrue 40 [some (.ref 3), some (.ref 19), some (.int (nI i)), some (.int (κ 20 i))] [.int (if 0 < κ 20 i then κ 3 6 else κ 3 7)] (κ, α, τ) (fun r ν => r = some (.int (zon (bif k_asB κ i then some i else zfind (k_asB κ) (i + 1) m))) ∧ ν = (κ, α, τ)) := by
      refine x_iload_n (pc := 40) 3 dX2_firstAssumptionNotTrue_40 rfl rfl ?_
      refine x_callN1i (pc := 41) dX2_firstAssumptionNotTrue_41 lX2_150 (s_bitOf d _) (Nat.le_of_ble_eq_true rfl) (Or.inl zgr) ?_
      refine x_iand (pc := 44) dX2_firstAssumptionNotTrue_44 ?_
      by_cases h : (if 0 < κ 20 i then κ 3 6 else κ 3 7) &&& kb (κ 20 i) = 0
      · rw [show k_asB κ i = true from decide_eq_true h]
        refine x_if_ne_f (pc := 45) 50 dX2_firstAssumptionNotTrue_45 (by decide) (h) ?_
        refine x_iload_n (pc := 48) 2 dX2_firstAssumptionNotTrue_48 rfl rfl ?_
        refine x_iret (pc := 49) dX2_firstAssumptionNotTrue_49 rfl ?_
        exact ⟨rfl, rfl⟩
      · rw [show k_asB κ i = false from decide_eq_false h]
        refine x_if_ne_t (pc := 45) 50 dX2_firstAssumptionNotTrue_45 (by decide) (h) ?_
        refine x_iinc (pc := 50) (nI (i + 1)) dX2_firstAssumptionNotTrue_50 rfl (zinc _) (by decide) rfl ?_
        refine x_goto (pc := 53) 10 dX2_firstAssumptionNotTrue_53 (by decide) ?_
        exact zX.sub (zs1 (zs1 (zs1 (zsn zse)))) (ih (i + 1) (by omega))
    by_cases h2 : 0 < κ 20 i
    · rw [if_pos h2] at fin
      refine x_iload_n (pc := 25) 3 dX2_firstAssumptionNotTrue_25 rfl rfl ?_
      refine x_if_le_f (pc := 26) 36 dX2_firstAssumptionNotTrue_26 (by decide) (Int32.not_le.mpr h2) ?_
      refine x_aload_n (pc := 29) 0 dX2_firstAssumptionNotTrue_29 rfl rfl ?_
      refine x_geti_l (pc := 30) dX2_firstAssumptionNotTrue_30 fX2_77 (zat_b rfl rfl) rfl rfl ?_
      refine x_goto (pc := 33) 40 dX2_firstAssumptionNotTrue_33 (by decide) ?_
      exact fin
    · rw [if_neg h2] at fin
      refine x_iload_n (pc := 25) 3 dX2_firstAssumptionNotTrue_25 rfl rfl ?_
      refine x_if_le_t (pc := 26) 36 dX2_firstAssumptionNotTrue_26 (by decide) (Int32.not_lt.mp h2) ?_
      refine x_aload_n (pc := 36) 0 dX2_firstAssumptionNotTrue_36 rfl rfl ?_
      refine x_geti_l (pc := 37) dX2_firstAssumptionNotTrue_37 fX2_80 (zat_b rfl rfl) rfl rfl ?_
      exact fin
theorem s_first (d : Nat) (hA : κ 19 1 = nI (kA κ)) (hA8 : kA κ ≤ 8) : zTr E (d + 2) mX2_firstAssumptionNotTrue [.ref 3] (κ, α, τ) (some (.int (zon (k_first κ)))) (κ, α, τ) := by
  refine zM.tr (zM_of [some (.ref 3), none, none, none] (by decide) rfl (Nat.le_of_ble_eq_true rfl) ?_)
  refine x_aload_n (pc := 0) 0 dX2_firstAssumptionNotTrue_0 rfl rfl ?_
  refine x_getr (pc := 1) (10) dX2_firstAssumptionNotTrue_1 fX2_30 (zat_b rfl rfl) rfl ?_
  refine x_getr (pc := 4) (19) dX2_firstAssumptionNotTrue_4 fX2_162 (zat_b rfl rfl) rfl ?_
  refine x_astore_n (pc := 7) 1 dX2_firstAssumptionNotTrue_7 rfl (by decide) rfl ?_
  refine x_iconst (pc := 8) (nI 0) dX2_firstAssumptionNotTrue_8 (by decide) ?_
  refine x_istore_n (pc := 9) 2 dX2_firstAssumptionNotTrue_9 rfl (by decide) rfl ?_
  exact l_first d hA hA8 (kA κ) 0 (by omega)
end C6
