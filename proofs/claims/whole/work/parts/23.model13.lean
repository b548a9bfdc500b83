/-! the reference: counts, clause, lines, the tape -/
def a_cnum (α : Nat → Nat → Int32) (k : Nat) : Int32 := match k with
  | 0 => α 101 0
  | 1 => α 101 1
  | 2 => α 101 2
  | 3 => nI (a_lmany α)
  | 4 => α 101 3
  | 5 => α 101 4
  | 6 => α 101 5
  | 7 => α 101 6
  | 8 => α 101 7
  | 9 => α 100 22
  | 10 => α 101 8
  | 11 => α 101 9
  | 12 => α 101 10
  | 13 => α 101 11
  | _ => α 101 12
def a_count (α : Nat → Nat → Int32) (w : Int32) : Int32 := if (decide (nI 0 ≤ w) && decide (w ≤ nI 14)) = true then a_cnum α w.toNatClampNeg else -1
theorem ztout {w : Int32} {n : Nat} (hn : n < 2 ^ 30) (h : ¬ (decide (nI 0 ≤ w) && decide (w ≤ nI n)) = true) : w.toInt < 0 ∨ (n : Int) < w.toInt := by
  simp only [Bool.and_eq_true, decide_eq_true_eq, Int32.le_iff_toInt_le, nI_toInt (show n < 2 ^ 31 by omega), nI_toInt (show 0 < 2 ^ 31 by decide)] at h
  omega
section M14
variable {E : zEnv} {κ α : Nat → Nat → Int32} {τ : (Nat → Nat → Int64) × (Nat → Nat)}
theorem t_count (d : Nat) (w : Int32) (hN : α 101 1 = nI (aN α)) (h4 : aN α ≤ 400) : zTr E (d + 2) mX9_count [.ref 100, .int w] (κ, α, τ) (some (.int (a_count α w))) (κ, a0 α, τ) := by
  have z : ∀ i, a0 α 101 i = α 101 i := fun i => zup_p (by decide)
  have hl : a_lmany (a0 α) = a_lmany α := by unfold a_lmany aN; simp only [z]
  refine zM.tr (zM_of [some (.ref 100), some (.int w)] (by decide) rfl (Nat.le_of_ble_eq_true rfl) ?_)
  unfold a_count
  by_cases h : (decide (nI 0 ≤ w) && decide (w ≤ nI 14)) = true
  · rw [if_pos h]
    obtain ⟨j, h1, rfl⟩ := (zidx (v := w) (N := 15) (by decide)).mp (by rw [show nI 15 - nI 1 = nI 14 by decide]; exact h)
    rw [nI_clamp (by omega)]
    have hj : j = 0 ∨ j = 1 ∨ j = 2 ∨ j = 3 ∨ j = 4 ∨ j = 5 ∨ j = 6 ∨ j = 7 ∨ j = 8 ∨ j = 9 ∨ j = 10 ∨ j = 11 ∨ j = 12 ∨ j = 13 ∨ j = 14 := by omega
    rcases hj with rfl | rfl | rfl | rfl | rfl | rfl | rfl | rfl | rfl | rfl | rfl | rfl | rfl | rfl | rfl
    ·
      refine x_aload_n (pc := 0) 0 dX9_count_0 rfl rfl ?_
      refine x_iconst (pc := 1) (nI 0) dX9_count_1 (by decide) ?_
      refine x_puti_h (pc := 2) dX9_count_2 pX9_63 (zat_b rfl rfl) rfl rfl ?_
      refine x_iload_n (pc := 5) 1 dX9_count_5 rfl rfl ?_
      refine x_tableIn (pc := 6) (off := 74) 80 dX9_count_6  (by decide) (by decide) (by decide) (by decide) ?_
      refine x_aload_n (pc := 80) 0 dX9_count_80 rfl rfl ?_
      refine x_getr (pc := 81) (101) dX9_count_81 fX9_7 (zat_b rfl rfl) rfl ?_
      refine x_iconst (pc := 84) (nI 0) dX9_count_84 (by decide) ?_
      have hj85 : 0 < 13326 := by omega
      refine x_iald_h (pc := 85) (0) dX9_count_85 (zar_b rfl rfl rfl) rfl (by first | rfl | simp only [pk_mul, nI_add] | simp only [zon, pk_mul, nI_add]) hj85 (Nat.lt_of_lt_of_le hj85 (by decide)) ?_
      refine x_iret (pc := 86) dX9_count_86 rfl ?_
      exact ⟨by rw [zup_p (by decide)]; rfl, rfl⟩
    ·
      refine x_aload_n (pc := 0) 0 dX9_count_0 rfl rfl ?_
      refine x_iconst (pc := 1) (nI 0) dX9_count_1 (by decide) ?_
      refine x_puti_h (pc := 2) dX9_count_2 pX9_63 (zat_b rfl rfl) rfl rfl ?_
      refine x_iload_n (pc := 5) 1 dX9_count_5 rfl rfl ?_
      refine x_tableIn (pc := 6) (off := 81) 87 dX9_count_6  (by decide) (by decide) (by decide) (by decide) ?_
      refine x_aload_n (pc := 87) 0 dX9_count_87 rfl rfl ?_
      refine x_getr (pc := 88) (101) dX9_count_88 fX9_7 (zat_b rfl rfl) rfl ?_
      refine x_iconst (pc := 91) (nI 1) dX9_count_91 (by decide) ?_
      have hj92 : 1 < 13326 := by omega
      refine x_iald_h (pc := 92) (1) dX9_count_92 (zar_b rfl rfl rfl) rfl (by first | rfl | simp only [pk_mul, nI_add] | simp only [zon, pk_mul, nI_add]) hj92 (Nat.lt_of_lt_of_le hj92 (by decide)) ?_
      refine x_iret (pc := 93) dX9_count_93 rfl ?_
      exact ⟨by rw [zup_p (by decide)]; rfl, rfl⟩
    ·
      refine x_aload_n (pc := 0) 0 dX9_count_0 rfl rfl ?_
      refine x_iconst (pc := 1) (nI 0) dX9_count_1 (by decide) ?_
      refine x_puti_h (pc := 2) dX9_count_2 pX9_63 (zat_b rfl rfl) rfl rfl ?_
      refine x_iload_n (pc := 5) 1 dX9_count_5 rfl rfl ?_
      refine x_tableIn (pc := 6) (off := 88) 94 dX9_count_6  (by decide) (by decide) (by decide) (by decide) ?_
      refine x_aload_n (pc := 94) 0 dX9_count_94 rfl rfl ?_
      refine x_getr (pc := 95) (101) dX9_count_95 fX9_7 (zat_b rfl rfl) rfl ?_
      refine x_iconst (pc := 98) (nI 2) dX9_count_98 (by decide) ?_
      have hj99 : 2 < 13326 := by omega
      refine x_iald_h (pc := 99) (2) dX9_count_99 (zar_b rfl rfl rfl) rfl (by first | rfl | simp only [pk_mul, nI_add] | simp only [zon, pk_mul, nI_add]) hj99 (Nat.lt_of_lt_of_le hj99 (by decide)) ?_
      refine x_iret (pc := 100) dX9_count_100 rfl ?_
      exact ⟨by rw [zup_p (by decide)]; rfl, rfl⟩
    ·
      refine x_aload_n (pc := 0) 0 dX9_count_0 rfl rfl ?_
      refine x_iconst (pc := 1) (nI 0) dX9_count_1 (by decide) ?_
      refine x_puti_h (pc := 2) dX9_count_2 pX9_63 (zat_b rfl rfl) rfl rfl ?_
      refine x_iload_n (pc := 5) 1 dX9_count_5 rfl rfl ?_
      refine x_tableIn (pc := 6) (off := 95) 101 dX9_count_6  (by decide) (by decide) (by decide) (by decide) ?_
      refine x_aload_n (pc := 101) 0 dX9_count_101 rfl rfl ?_
      show zX E (d + 2) mX9_count 102 _ [.ref 100] (κ, a0 α, τ) _
      refine x_callV0i (pc := 102) dX9_count_102 lX9_189 (zat_b rfl rfl) rfl (t_learntMany d (by rw [z]; unfold aN; rw [z]; exact hN) (by unfold aN; rw [z]; exact h4)) (Nat.le_of_ble_eq_true rfl) (Or.inl zgr) ?_
      rw [hl]
      refine x_iret (pc := 105) dX9_count_105 rfl ?_
      exact ⟨rfl, rfl⟩
    ·
      refine x_aload_n (pc := 0) 0 dX9_count_0 rfl rfl ?_
      refine x_iconst (pc := 1) (nI 0) dX9_count_1 (by decide) ?_
      refine x_puti_h (pc := 2) dX9_count_2 pX9_63 (zat_b rfl rfl) rfl rfl ?_
      refine x_iload_n (pc := 5) 1 dX9_count_5 rfl rfl ?_
      refine x_tableIn (pc := 6) (off := 100) 106 dX9_count_6  (by decide) (by decide) (by decide) (by decide) ?_
      refine x_aload_n (pc := 106) 0 dX9_count_106 rfl rfl ?_
      refine x_getr (pc := 107) (101) dX9_count_107 fX9_7 (zat_b rfl rfl) rfl ?_
      refine x_iconst (pc := 110) (nI 3) dX9_count_110 (by decide) ?_
      have hj111 : 3 < 13326 := by omega
      refine x_iald_h (pc := 111) (3) dX9_count_111 (zar_b rfl rfl rfl) rfl (by first | rfl | simp only [pk_mul, nI_add] | simp only [zon, pk_mul, nI_add]) hj111 (Nat.lt_of_lt_of_le hj111 (by decide)) ?_
      refine x_iret (pc := 112) dX9_count_112 rfl ?_
      exact ⟨by rw [zup_p (by decide)]; rfl, rfl⟩
    ·
      refine x_aload_n (pc := 0) 0 dX9_count_0 rfl rfl ?_
      refine x_iconst (pc := 1) (nI 0) dX9_count_1 (by decide) ?_
      refine x_puti_h (pc := 2) dX9_count_2 pX9_63 (zat_b rfl rfl) rfl rfl ?_
      refine x_iload_n (pc := 5) 1 dX9_count_5 rfl rfl ?_
      refine x_tableIn (pc := 6) (off := 107) 113 dX9_count_6  (by decide) (by decide) (by decide) (by decide) ?_
      refine x_aload_n (pc := 113) 0 dX9_count_113 rfl rfl ?_
      refine x_getr (pc := 114) (101) dX9_count_114 fX9_7 (zat_b rfl rfl) rfl ?_
      refine x_iconst (pc := 117) (nI 4) dX9_count_117 (by decide) ?_
      have hj118 : 4 < 13326 := by omega
      refine x_iald_h (pc := 118) (4) dX9_count_118 (zar_b rfl rfl rfl) rfl (by first | rfl | simp only [pk_mul, nI_add] | simp only [zon, pk_mul, nI_add]) hj118 (Nat.lt_of_lt_of_le hj118 (by decide)) ?_
      refine x_iret (pc := 119) dX9_count_119 rfl ?_
      exact ⟨by rw [zup_p (by decide)]; rfl, rfl⟩
    ·
      refine x_aload_n (pc := 0) 0 dX9_count_0 rfl rfl ?_
      refine x_iconst (pc := 1) (nI 0) dX9_count_1 (by decide) ?_
      refine x_puti_h (pc := 2) dX9_count_2 pX9_63 (zat_b rfl rfl) rfl rfl ?_
      refine x_iload_n (pc := 5) 1 dX9_count_5 rfl rfl ?_
      refine x_tableIn (pc := 6) (off := 114) 120 dX9_count_6  (by decide) (by decide) (by decide) (by decide) ?_
      refine x_aload_n (pc := 120) 0 dX9_count_120 rfl rfl ?_
      refine x_getr (pc := 121) (101) dX9_count_121 fX9_7 (zat_b rfl rfl) rfl ?_
      refine x_iconst (pc := 124) (nI 5) dX9_count_124 (by decide) ?_
      have hj125 : 5 < 13326 := by omega
      refine x_iald_h (pc := 125) (5) dX9_count_125 (zar_b rfl rfl rfl) rfl (by first | rfl | simp only [pk_mul, nI_add] | simp only [zon, pk_mul, nI_add]) hj125 (Nat.lt_of_lt_of_le hj125 (by decide)) ?_
      refine x_iret (pc := 126) dX9_count_126 rfl ?_
      exact ⟨by rw [zup_p (by decide)]; rfl, rfl⟩
    ·
      refine x_aload_n (pc := 0) 0 dX9_count_0 rfl rfl ?_
      refine x_iconst (pc := 1) (nI 0) dX9_count_1 (by decide) ?_
      refine x_puti_h (pc := 2) dX9_count_2 pX9_63 (zat_b rfl rfl) rfl rfl ?_
      refine x_iload_n (pc := 5) 1 dX9_count_5 rfl rfl ?_
      refine x_tableIn (pc := 6) (off := 121) 127 dX9_count_6  (by decide) (by decide) (by decide) (by decide) ?_
      refine x_aload_n (pc := 127) 0 dX9_count_127 rfl rfl ?_
      refine x_getr (pc := 128) (101) dX9_count_128 fX9_7 (zat_b rfl rfl) rfl ?_
      refine x_bipush (pc := 131) (nI 6) dX9_count_131 (by decide) ?_
      have hj133 : 6 < 13326 := by omega
      refine x_iald_h (pc := 133) (6) dX9_count_133 (zar_b rfl rfl rfl) rfl (by first | rfl | simp only [pk_mul, nI_add] | simp only [zon, pk_mul, nI_add]) hj133 (Nat.lt_of_lt_of_le hj133 (by decide)) ?_
      refine x_iret (pc := 134) dX9_count_134 rfl ?_
      exact ⟨by rw [zup_p (by decide)]; rfl, rfl⟩
    ·
      refine x_aload_n (pc := 0) 0 dX9_count_0 rfl rfl ?_
      refine x_iconst (pc := 1) (nI 0) dX9_count_1 (by decide) ?_
      refine x_puti_h (pc := 2) dX9_count_2 pX9_63 (zat_b rfl rfl) rfl rfl ?_
      refine x_iload_n (pc := 5) 1 dX9_count_5 rfl rfl ?_
      refine x_tableIn (pc := 6) (off := 129) 135 dX9_count_6  (by decide) (by decide) (by decide) (by decide) ?_
      refine x_aload_n (pc := 135) 0 dX9_count_135 rfl rfl ?_
      refine x_getr (pc := 136) (101) dX9_count_136 fX9_7 (zat_b rfl rfl) rfl ?_
      refine x_bipush (pc := 139) (nI 7) dX9_count_139 (by decide) ?_
      have hj141 : 7 < 13326 := by omega
      refine x_iald_h (pc := 141) (7) dX9_count_141 (zar_b rfl rfl rfl) rfl (by first | rfl | simp only [pk_mul, nI_add] | simp only [zon, pk_mul, nI_add]) hj141 (Nat.lt_of_lt_of_le hj141 (by decide)) ?_
      refine x_iret (pc := 142) dX9_count_142 rfl ?_
      exact ⟨by rw [zup_p (by decide)]; rfl, rfl⟩
    ·
      refine x_aload_n (pc := 0) 0 dX9_count_0 rfl rfl ?_
      refine x_iconst (pc := 1) (nI 0) dX9_count_1 (by decide) ?_
      refine x_puti_h (pc := 2) dX9_count_2 pX9_63 (zat_b rfl rfl) rfl rfl ?_
      refine x_iload_n (pc := 5) 1 dX9_count_5 rfl rfl ?_
      refine x_tableIn (pc := 6) (off := 137) 143 dX9_count_6  (by decide) (by decide) (by decide) (by decide) ?_
      refine x_aload_n (pc := 143) 0 dX9_count_143 rfl rfl ?_
      refine x_geti_h (pc := 144) dX9_count_144 fX9_192 (zat_b rfl rfl) rfl rfl ?_
      refine x_iret (pc := 147) dX9_count_147 rfl ?_
      exact ⟨by rw [zup_i (by decide)]; rfl, rfl⟩
    ·
      refine x_aload_n (pc := 0) 0 dX9_count_0 rfl rfl ?_
      refine x_iconst (pc := 1) (nI 0) dX9_count_1 (by decide) ?_
      refine x_puti_h (pc := 2) dX9_count_2 pX9_63 (zat_b rfl rfl) rfl rfl ?_
      refine x_iload_n (pc := 5) 1 dX9_count_5 rfl rfl ?_
      refine x_tableIn (pc := 6) (off := 142) 148 dX9_count_6  (by decide) (by decide) (by decide) (by decide) ?_
      refine x_aload_n (pc := 148) 0 dX9_count_148 rfl rfl ?_
      refine x_getr (pc := 149) (101) dX9_count_149 fX9_7 (zat_b rfl rfl) rfl ?_
      refine x_bipush (pc := 152) (nI 8) dX9_count_152 (by decide) ?_
      have hj154 : 8 < 13326 := by omega
      refine x_iald_h (pc := 154) (8) dX9_count_154 (zar_b rfl rfl rfl) rfl (by first | rfl | simp only [pk_mul, nI_add] | simp only [zon, pk_mul, nI_add]) hj154 (Nat.lt_of_lt_of_le hj154 (by decide)) ?_
      refine x_iret (pc := 155) dX9_count_155 rfl ?_
      exact ⟨by rw [zup_p (by decide)]; rfl, rfl⟩
    ·
      refine x_aload_n (pc := 0) 0 dX9_count_0 rfl rfl ?_
      refine x_iconst (pc := 1) (nI 0) dX9_count_1 (by decide) ?_
      refine x_puti_h (pc := 2) dX9_count_2 pX9_63 (zat_b rfl rfl) rfl rfl ?_
      refine x_iload_n (pc := 5) 1 dX9_count_5 rfl rfl ?_
      refine x_tableIn (pc := 6) (off := 150) 156 dX9_count_6  (by decide) (by decide) (by decide) (by decide) ?_
      refine x_aload_n (pc := 156) 0 dX9_count_156 rfl rfl ?_
      refine x_getr (pc := 157) (101) dX9_count_157 fX9_7 (zat_b rfl rfl) rfl ?_
      refine x_bipush (pc := 160) (nI 9) dX9_count_160 (by decide) ?_
      have hj162 : 9 < 13326 := by omega
      refine x_iald_h (pc := 162) (9) dX9_count_162 (zar_b rfl rfl rfl) rfl (by first | rfl | simp only [pk_mul, nI_add] | simp only [zon, pk_mul, nI_add]) hj162 (Nat.lt_of_lt_of_le hj162 (by decide)) ?_
      refine x_iret (pc := 163) dX9_count_163 rfl ?_
      exact ⟨by rw [zup_p (by decide)]; rfl, rfl⟩
    ·
      refine x_aload_n (pc := 0) 0 dX9_count_0 rfl rfl ?_
      refine x_iconst (pc := 1) (nI 0) dX9_count_1 (by decide) ?_
      refine x_puti_h (pc := 2) dX9_count_2 pX9_63 (zat_b rfl rfl) rfl rfl ?_
      refine x_iload_n (pc := 5) 1 dX9_count_5 rfl rfl ?_
      refine x_tableIn (pc := 6) (off := 158) 164 dX9_count_6  (by decide) (by decide) (by decide) (by decide) ?_
      refine x_aload_n (pc := 164) 0 dX9_count_164 rfl rfl ?_
      refine x_getr (pc := 165) (101) dX9_count_165 fX9_7 (zat_b rfl rfl) rfl ?_
      refine x_bipush (pc := 168) (nI 10) dX9_count_168 (by decide) ?_
      have hj170 : 10 < 13326 := by omega
      refine x_iald_h (pc := 170) (10) dX9_count_170 (zar_b rfl rfl rfl) rfl (by first | rfl | simp only [pk_mul, nI_add] | simp only [zon, pk_mul, nI_add]) hj170 (Nat.lt_of_lt_of_le hj170 (by decide)) ?_
      refine x_iret (pc := 171) dX9_count_171 rfl ?_
      exact ⟨by rw [zup_p (by decide)]; rfl, rfl⟩
    ·
      refine x_aload_n (pc := 0) 0 dX9_count_0 rfl rfl ?_
      refine x_iconst (pc := 1) (nI 0) dX9_count_1 (by decide) ?_
      refine x_puti_h (pc := 2) dX9_count_2 pX9_63 (zat_b rfl rfl) rfl rfl ?_
      refine x_iload_n (pc := 5) 1 dX9_count_5 rfl rfl ?_
      refine x_tableIn (pc := 6) (off := 166) 172 dX9_count_6  (by decide) (by decide) (by decide) (by decide) ?_
      refine x_aload_n (pc := 172) 0 dX9_count_172 rfl rfl ?_
      refine x_getr (pc := 173) (101) dX9_count_173 fX9_7 (zat_b rfl rfl) rfl ?_
      refine x_bipush (pc := 176) (nI 11) dX9_count_176 (by decide) ?_
      have hj178 : 11 < 13326 := by omega
      refine x_iald_h (pc := 178) (11) dX9_count_178 (zar_b rfl rfl rfl) rfl (by first | rfl | simp only [pk_mul, nI_add] | simp only [zon, pk_mul, nI_add]) hj178 (Nat.lt_of_lt_of_le hj178 (by decide)) ?_
      refine x_iret (pc := 179) dX9_count_179 rfl ?_
      exact ⟨by rw [zup_p (by decide)]; rfl, rfl⟩
    ·
      refine x_aload_n (pc := 0) 0 dX9_count_0 rfl rfl ?_
      refine x_iconst (pc := 1) (nI 0) dX9_count_1 (by decide) ?_
      refine x_puti_h (pc := 2) dX9_count_2 pX9_63 (zat_b rfl rfl) rfl rfl ?_
      refine x_iload_n (pc := 5) 1 dX9_count_5 rfl rfl ?_
      refine x_tableIn (pc := 6) (off := 174) 180 dX9_count_6  (by decide) (by decide) (by decide) (by decide) ?_
      refine x_aload_n (pc := 180) 0 dX9_count_180 rfl rfl ?_
      refine x_getr (pc := 181) (101) dX9_count_181 fX9_7 (zat_b rfl rfl) rfl ?_
      refine x_bipush (pc := 184) (nI 12) dX9_count_184 (by decide) ?_
      have hj186 : 12 < 13326 := by omega
      refine x_iald_h (pc := 186) (12) dX9_count_186 (zar_b rfl rfl rfl) rfl (by first | rfl | simp only [pk_mul, nI_add] | simp only [zon, pk_mul, nI_add]) hj186 (Nat.lt_of_lt_of_le hj186 (by decide)) ?_
      refine x_iret (pc := 187) dX9_count_187 rfl ?_
      exact ⟨by rw [zup_p (by decide)]; rfl, rfl⟩
  · rw [if_neg h]
    refine x_aload_n (pc := 0) 0 dX9_count_0 rfl rfl ?_
    refine x_iconst (pc := 1) (nI 0) dX9_count_1 (by decide) ?_
    refine x_puti_h (pc := 2) dX9_count_2 pX9_63 (zat_b rfl rfl) rfl rfl ?_
    refine x_iload_n (pc := 5) 1 dX9_count_5 rfl rfl ?_
    refine x_tableOut (pc := 6) 188 dX9_count_6 ( ztout (by decide) h) (by decide) ?_
    refine x_iconst (pc := 188) (-1) dX9_count_188 (by decide) ?_
    refine x_iret (pc := 189) dX9_count_189 rfl ?_
    exact ⟨rfl, rfl⟩
def a_assn (α : Nat → Nat → Int32) (i : Int32) : Int32 := if (decide (nI 0 ≤ i) && decide (i ≤ α 101 3 - nI 1)) = true then α 101 (16 + i.toNatClampNeg) else nI 0
theorem t_assumption (d : Nat) (i : Int32) {D : Nat} (hD : α 101 3 = nI D) (hD8 : D ≤ 8) : zTr E (d + 2) mX9_assumption [.ref 100, .int i] (κ, α, τ) (some (.int (a_assn α i))) (κ, a0 α, τ) := by
  refine zM.tr (zM_of [some (.ref 100), some (.int i)] (by decide) rfl (Nat.le_of_ble_eq_true rfl) ?_)
  unfold a_assn
  refine x_aload_n (pc := 0) 0 dX9_assumption_0 rfl rfl ?_
  refine x_iconst (pc := 1) (nI 0) dX9_assumption_1 (by decide) ?_
  refine x_puti_h (pc := 2) dX9_assumption_2 pX9_63 (zat_b rfl rfl) rfl rfl ?_
  refine x_iload_n (pc := 5) 1 dX9_assumption_5 rfl rfl ?_
  refine x_iconst (pc := 6) (nI 0) dX9_assumption_6 (by decide) ?_
  refine x_aload_n (pc := 7) 0 dX9_assumption_7 rfl rfl ?_
  refine x_getr (pc := 8) (101) dX9_assumption_8 fX9_7 (zat_b rfl rfl) rfl ?_
  refine x_iconst (pc := 11) (nI 3) dX9_assumption_11 (by decide) ?_
  have hj12 : 3 < 13326 := by omega
  refine x_iald_h (pc := 12) (3) dX9_assumption_12 (zar_b rfl rfl rfl) rfl (by first | rfl | simp only [pk_mul, nI_add] | simp only [zon, pk_mul, nI_add]) hj12 (Nat.lt_of_lt_of_le hj12 (by decide)) ?_
  rw [zup_p (by decide), hD]
  refine x_iconst (pc := 13) (nI 1) dX9_assumption_13 (by decide) ?_
  refine x_isub (pc := 14) dX9_assumption_14 ?_
  refine x_callS3i (pc := 15) dX9_assumption_15 lX9_67 (t_isIn d _ _ _) (Nat.le_of_ble_eq_true rfl) (Or.inl zgr) ?_
  by_cases h : (decide (nI 0 ≤ i) && decide (i ≤ nI D - nI 1)) = true
  · rw [if_pos h, h]
    obtain ⟨j, h1, rfl⟩ := (zidx (by omega)).mp h
    rw [nI_clamp (by omega)]
    refine x_if_eq_f (pc := 18) 33 dX9_assumption_18 (by decide) (by decide) ?_
    refine x_aload_n (pc := 21) 0 dX9_assumption_21 rfl rfl ?_
    refine x_getr (pc := 22) (101) dX9_assumption_22 fX9_7 (zat_b rfl rfl) rfl ?_
    refine x_bipush (pc := 25) (nI 16) dX9_assumption_25 (by decide) ?_
    refine x_iload_n (pc := 27) 1 dX9_assumption_27 rfl rfl ?_
    refine x_iadd (pc := 28) dX9_assumption_28 ?_
    have hj29 : 16 + j < 13326 := by omega
    refine x_iald_h (pc := 29) (16 + j) dX9_assumption_29 (zar_b rfl rfl rfl) rfl (by first | rfl | simp only [pk_mul, nI_add] | simp only [zon, pk_mul, nI_add]) hj29 (Nat.lt_of_lt_of_le hj29 (by decide)) ?_
    refine x_goto (pc := 30) 34 dX9_assumption_30 (by decide) ?_
    refine x_iret (pc := 34) dX9_assumption_34 rfl ?_
    exact ⟨by rw [zup_p (by decide)], rfl⟩
  · rw [if_neg h, zbf h]
    refine x_if_eq_t (pc := 18) 33 dX9_assumption_18 (by decide) (rfl) ?_
    refine x_iconst (pc := 33) (nI 0) dX9_assumption_33 (by decide) ?_
    refine x_iret (pc := 34) dX9_assumption_34 rfl ?_
    exact ⟨rfl, rfl⟩
def a_mod (α : Nat → Nat → Int32) (v : Int32) : Int32 := if (decide (nI 1 ≤ v) && decide (v ≤ α 101 14)) = true then α 101 (94 + v.toNatClampNeg) else -1
theorem t_model (d : Nat) (v : Int32) (hM : α 101 14 = -1 ∨ ∃ M, M ≤ 30 ∧ α 101 14 = nI M) : zTr E (d + 2) mX9_model [.ref 100, .int v] (κ, α, τ) (some (.int (a_mod α v))) (κ, a0 α, τ) := by
  refine zM.tr (zM_of [some (.ref 100), some (.int v)] (by decide) rfl (Nat.le_of_ble_eq_true rfl) ?_)
  unfold a_mod
  refine x_aload_n (pc := 0) 0 dX9_model_0 rfl rfl ?_
  refine x_iconst (pc := 1) (nI 0) dX9_model_1 (by decide) ?_
  refine x_puti_h (pc := 2) dX9_model_2 pX9_63 (zat_b rfl rfl) rfl rfl ?_
  refine x_iload_n (pc := 5) 1 dX9_model_5 rfl rfl ?_
  refine x_iconst (pc := 6) (nI 1) dX9_model_6 (by decide) ?_
  refine x_aload_n (pc := 7) 0 dX9_model_7 rfl rfl ?_
  refine x_getr (pc := 8) (101) dX9_model_8 fX9_7 (zat_b rfl rfl) rfl ?_
  refine x_bipush (pc := 11) (nI 14) dX9_model_11 (by decide) ?_
  have hj13 : 14 < 13326 := by omega
  refine x_iald_h (pc := 13) (14) dX9_model_13 (zar_b rfl rfl rfl) rfl (by first | rfl | simp only [pk_mul, nI_add] | simp only [zon, pk_mul, nI_add]) hj13 (Nat.lt_of_lt_of_le hj13 (by decide)) ?_
  rw [zup_p (by decide)]
  refine x_callS3i (pc := 14) dX9_model_14 lX9_67 (t_isIn d _ _ _) (Nat.le_of_ble_eq_true rfl) (Or.inl zgr) ?_
  by_cases h : (decide (nI 1 ≤ v) && decide (v ≤ α 101 14)) = true
  · rw [if_pos h, h]
    obtain ⟨j, h1, h2, rfl⟩ : ∃ j, 1 ≤ j ∧ j ≤ 30 ∧ v = nI j := by
      rcases hM with e | ⟨M, hM1, e⟩
      · rw [e] at h
        simp only [Bool.and_eq_true, decide_eq_true_eq] at h
        exact absurd (Int32.le_trans h.1 h.2) (by decide)
      · rw [e] at h
        obtain ⟨j, a, b, c⟩ := (zidx1 (by omega)).mp h
        exact ⟨j, a, by omega, c⟩
    rw [nI_clamp (by omega)]
    refine x_if_eq_f (pc := 17) 32 dX9_model_17 (by decide) (by decide) ?_
    refine x_aload_n (pc := 20) 0 dX9_model_20 rfl rfl ?_
    refine x_getr (pc := 21) (101) dX9_model_21 fX9_7 (zat_b rfl rfl) rfl ?_
    refine x_bipush (pc := 24) (nI 94) dX9_model_24 (by decide) ?_
    refine x_iload_n (pc := 26) 1 dX9_model_26 rfl rfl ?_
    refine x_iadd (pc := 27) dX9_model_27 ?_
    have hj28 : 94 + j < 13326 := by omega
    refine x_iald_h (pc := 28) (94 + j) dX9_model_28 (zar_b rfl rfl rfl) rfl (by first | rfl | simp only [pk_mul, nI_add] | simp only [zon, pk_mul, nI_add]) hj28 (Nat.lt_of_lt_of_le hj28 (by decide)) ?_
    refine x_goto (pc := 29) 33 dX9_model_29 (by decide) ?_
    refine x_iret (pc := 33) dX9_model_33 rfl ?_
    exact ⟨by rw [zup_p (by decide)], rfl⟩
  · rw [if_neg h, zbf h]
    refine x_if_eq_t (pc := 17) 32 dX9_model_17 (by decide) (rfl) ?_
    refine x_iconst (pc := 32) (-1) dX9_model_32 (by decide) ?_
    refine x_iret (pc := 33) dX9_model_33 rfl ?_
    exact ⟨rfl, rfl⟩
def a_amF (α : Nat → Nat → Int32) (v c n : Nat) : Nat := if a_gone α c = true then n else n + zcnt (fun k => Nat.beq (zv (aL α c k)) v) 0 (aS α c)
def a_among (α : Nat → Nat → Int32) (v : Nat) : Nat := zit (a_amF α v) 0 (aN α) 0
theorem l_amongI (d : Nat) {v c : Nat} (hv : v ≤ 30) (hW : aW α) (hc : c < aN α) (hg : a_gone α c = false) (P : Option Value → zMem → Prop) : ∀ m k n, k + m = aS α c → (∀ k', zX E (d + 2) mX9_among 63 [some (.ref 100), some (.int (nI v)), some (.int (nI (n + zcnt (fun k => Nat.beq (zv (aL α c k)) v) k m))), some (.int (nI c)), some k'] [] (κ, α, τ) P) → zX E (d + 2) mX9_among 17 [some (.ref 100), some (.int (nI v)), some (.int (nI n)), some (.int (nI c)), some (.int (nI k))] [] (κ, α, τ) P := by
  have hs := hW.s30 hc
  have hn4 := hW.n400
  intro m
  induction m with
  | zero =>
    intro k n hk K
    refine x_iload (pc := 17) dX9_among_17 rfl ?_
    refine x_aload_n (pc := 19) 0 dX9_among_19 rfl rfl ?_
    refine x_iload_n (pc := 20) 3 dX9_among_20 rfl rfl ?_
    refine x_callV1i (pc := 21) dX9_among_21 lX9_99 (zat_b rfl rfl) rfl (t_sizeOfW d hW hc) (Nat.le_of_ble_eq_true rfl) (Or.inl zgr) ?_
    refine x_icmp_ge_t (pc := 24) 63 dX9_among_24 (by decide) (nI_le (by omega) (by omega)) ?_
    exact K _
  | succ m ih =>
    intro k n hk K
    obtain ⟨g1, g2, g3, g4, g5⟩ := (hW.l hc (show k < aS α c by omega)).is (Nat.le_refl _)
    have step : zcnt (fun k => Nat.beq (zv (aL α c k)) v) k (m + 1) = (bif Nat.beq (zv (aL α c k)) v then 1 else 0) + zcnt (fun k => Nat.beq (zv (aL α c k)) v) (k + 1) m := rfl
    rw [step] at K
    refine x_iload (pc := 17) dX9_among_17 rfl ?_
    refine x_aload_n (pc := 19) 0 dX9_among_19 rfl rfl ?_
    refine x_iload_n (pc := 20) 3 dX9_among_20 rfl rfl ?_
    refine x_callV1i (pc := 21) dX9_among_21 lX9_99 (zat_b rfl rfl) rfl (t_sizeOfW d hW hc) (Nat.le_of_ble_eq_true rfl) (Or.inl zgr) ?_
    refine x_icmp_ge_f (pc := 24) 63 dX9_among_24 (by decide) (nI_ge (by omega) (by omega)) ?_
    refine x_aload_n (pc := 27) 0 dX9_among_27 rfl rfl ?_
    refine x_iload_n (pc := 28) 3 dX9_among_28 rfl rfl ?_
    refine x_callV1i (pc := 29) dX9_among_29 lX9_96 (zat_b rfl rfl) rfl (t_isGone d c (by omega)) (Nat.le_of_ble_eq_true rfl) (Or.inl zgr) ?_
    rw [hg]
    refine x_if_ne_f (pc := 32) 63 dX9_among_32 (by decide) (rfl) ?_
    refine x_iload_n (pc := 35) 2 dX9_among_35 rfl rfl ?_
    refine x_aload_n (pc := 36) 0 dX9_among_36 rfl rfl ?_
    refine x_iload_n (pc := 37) 3 dX9_among_37 rfl rfl ?_
    refine x_iload (pc := 38) dX9_among_38 rfl ?_
    refine x_callV2i (pc := 40) dX9_among_40 lX9_108 (zat_b rfl rfl) rfl (t_literalW d hW hc (by omega)) (Nat.le_of_ble_eq_true rfl) (Or.inl zgr) ?_
    refine x_callS1i (pc := 43) dX9_among_43 lX9_71 (t_size d _) (Nat.le_of_ble_eq_true rfl) (Or.inl zgr) ?_
    rw [g3]
    cases h : Nat.beq (zv (aL α c k)) v with
    | true =>
      rw [h, cond_true, ← Nat.add_assoc] at K
      refine x_iload_n (pc := 46) 1 dX9_among_46 rfl rfl ?_
      refine x_icmp_ne_f (pc := 47) 54 dX9_among_47 (by decide) (by rw [Nat.eq_of_beq_eq_true h]) ?_
      refine x_iconst (pc := 50) (nI 1) dX9_among_50 (by decide) ?_
      refine x_goto (pc := 51) 55 dX9_among_51 (by decide) ?_
      refine x_iadd (pc := 55) dX9_among_55 ?_
      refine x_istore_n (pc := 56) 2 dX9_among_56 rfl (by decide) rfl ?_
      refine x_iinc (pc := 57) (nI (k + 1)) dX9_among_57 rfl (zinc _) (by decide) rfl ?_
      refine x_goto (pc := 60) 17 dX9_among_60 (by decide) ?_
      rw [nI_add]
      exact ih (k + 1) (n + 1) (by omega) K
    | false =>
      rw [h, cond_false, Nat.zero_add] at K
      refine x_iload_n (pc := 46) 1 dX9_among_46 rfl rfl ?_
      refine x_icmp_ne_t (pc := 47) 54 dX9_among_47 (by decide) (fun q => by rw [(nI_eq (by omega) (by omega)).mp q, Nat.beq_refl] at h; cases h) ?_
      refine x_iconst (pc := 54) (nI 0) dX9_among_54 (by decide) ?_
      refine x_iadd (pc := 55) dX9_among_55 ?_
      refine x_istore_n (pc := 56) 2 dX9_among_56 rfl (by decide) rfl ?_
      refine x_iinc (pc := 57) (nI (k + 1)) dX9_among_57 rfl (zinc _) (by decide) rfl ?_
      refine x_goto (pc := 60) 17 dX9_among_60 (by decide) ?_
      rw [nI_add]
      exact ih (k + 1) n (by omega) K
theorem l_among (d : Nat) {v : Nat} (hv : v ≤ 30) (hW : aW α) : ∀ m c n, c + m = aN α → zX E (d + 2) mX9_among 4 [some (.ref 100), some (.int (nI v)), some (.int (nI n)), some (.int (nI c)), none] [] (κ, α, τ) (fun r ν => r = some (.int (nI (zit (a_amF α v) c m n))) ∧ ν = (κ, α, τ)) := by
  have hn4 := hW.n400
  intro m
  induction m with
  | zero =>
    intro c n hc
    refine x_iload_n (pc := 4) 3 dX9_among_4 rfl rfl ?_
    refine x_aload_n (pc := 5) 0 dX9_among_5 rfl rfl ?_
    refine x_getr (pc := 6) (101) dX9_among_6 fX9_7 (zat_b rfl rfl) rfl ?_
    refine x_iconst (pc := 9) (nI 1) dX9_among_9 (by decide) ?_
    have hj10 : 1 < 13326 := by omega
    refine x_iald_h (pc := 10) (1) dX9_among_10 (zar_b rfl rfl rfl) rfl (by first | rfl | simp only [pk_mul, nI_add] | simp only [zon, pk_mul, nI_add]) hj10 (Nat.lt_of_lt_of_le hj10 (by decide)) ?_
    rw [hW.n]
    refine x_icmp_ge_t (pc := 11) 69 dX9_among_11 (by decide) (nI_le (by omega) (by omega)) ?_
    refine x_iload_n (pc := 69) 2 dX9_among_69 rfl rfl ?_
    refine x_iret (pc := 70) dX9_among_70 rfl ?_
    exact ⟨rfl, rfl⟩
  | succ m ih =>
    intro c n hc
    have hcN : c < aN α := by omega
    have hs := hW.s30 hcN
    have step : zit (a_amF α v) c (m + 1) n = zit (a_amF α v) (c + 1) m (a_amF α v c n) := rfl
    rw [step]
    refine x_iload_n (pc := 4) 3 dX9_among_4 rfl rfl ?_
    refine x_aload_n (pc := 5) 0 dX9_among_5 rfl rfl ?_
    refine x_getr (pc := 6) (101) dX9_among_6 fX9_7 (zat_b rfl rfl) rfl ?_
    refine x_iconst (pc := 9) (nI 1) dX9_among_9 (by decide) ?_
    have hj10 : 1 < 13326 := by omega
    refine x_iald_h (pc := 10) (1) dX9_among_10 (zar_b rfl rfl rfl) rfl (by first | rfl | simp only [pk_mul, nI_add] | simp only [zon, pk_mul, nI_add]) hj10 (Nat.lt_of_lt_of_le hj10 (by decide)) ?_
    rw [hW.n]
    refine x_icmp_ge_f (pc := 11) 69 dX9_among_11 (by decide) (nI_ge (by omega) (by omega)) ?_
    refine x_iconst (pc := 14) (nI 0) dX9_among_14 (by decide) ?_
    refine x_istore (pc := 15) dX9_among_15 (by decide) rfl ?_
    have next : ∀ k', zX E (d + 2) mX9_among 63 [some (.ref 100), some (.int (nI v)), some (.int (nI (a_amF α v c n))), some (.int (nI c)), some k'] [] (κ, α, τ) (fun r ν => r = some (.int (nI (zit (a_amF α v) (c + 1) m (a_amF α v c n)))) ∧ ν = (κ, α, τ)) := by
      intro k'
      refine x_iinc (pc := 63) (nI (c + 1)) dX9_among_63 rfl (zinc _) (by decide) rfl ?_
      refine x_goto (pc := 66) 4 dX9_among_66 (by decide) ?_
      refine zX.sub (zs1 (zs1 (zs1 (zs1 (zsn zse))))) ?_
      exact ih (c + 1) _ (by omega)
    cases hg : a_gone α c with
    | true =>
      have e : a_amF α v c n = n := by unfold a_amF; rw [if_pos hg]
      rw [e] at next ⊢
      rcases Nat.eq_zero_or_pos (aS α c) with h0 | h0
      ·
        refine x_iload (pc := 17) dX9_among_17 rfl ?_
        refine x_aload_n (pc := 19) 0 dX9_among_19 rfl rfl ?_
        refine x_iload_n (pc := 20) 3 dX9_among_20 rfl rfl ?_
        refine x_callV1i (pc := 21) dX9_among_21 lX9_99 (zat_b rfl rfl) rfl (t_sizeOfW d hW hcN) (Nat.le_of_ble_eq_true rfl) (Or.inl zgr) ?_
        refine x_icmp_ge_t (pc := 24) 63 dX9_among_24 (by decide) (by rw [h0]; exact Int32.le_refl _) ?_
        exact next _
      ·
        refine x_iload (pc := 17) dX9_among_17 rfl ?_
        refine x_aload_n (pc := 19) 0 dX9_among_19 rfl rfl ?_
        refine x_iload_n (pc := 20) 3 dX9_among_20 rfl rfl ?_
        refine x_callV1i (pc := 21) dX9_among_21 lX9_99 (zat_b rfl rfl) rfl (t_sizeOfW d hW hcN) (Nat.le_of_ble_eq_true rfl) (Or.inl zgr) ?_
        refine x_icmp_ge_f (pc := 24) 63 dX9_among_24 (by decide) (nI_ge h0 (by omega)) ?_
        refine x_aload_n (pc := 27) 0 dX9_among_27 rfl rfl ?_
        refine x_iload_n (pc := 28) 3 dX9_among_28 rfl rfl ?_
        refine x_callV1i (pc := 29) dX9_among_29 lX9_96 (zat_b rfl rfl) rfl (t_isGone d c (by omega)) (Nat.le_of_ble_eq_true rfl) (Or.inl zgr) ?_
        rw [hg]
        refine x_if_ne_t (pc := 32) 63 dX9_among_32 (by decide) (by decide) ?_
        exact next _
    | false =>
      have e : a_amF α v c n = n + zcnt (fun k => Nat.beq (zv (aL α c k)) v) 0 (aS α c) := by unfold a_amF; rw [if_neg (by rw [hg]; decide)]
      rw [e] at next ⊢
      exact l_amongI d hv hW hcN hg _ (aS α c) 0 n (by omega) next
theorem t_among (d : Nat) {v : Nat} (hv : v ≤ 30) (hW : aW α) : zTr E (d + 2) mX9_among [.ref 100, .int (nI v)] (κ, α, τ) (some (.int (nI (a_among α v)))) (κ, α, τ) := by
  refine zM.tr (zM_of [some (.ref 100), some (.int (nI v)), none, none, none] (by decide) rfl (Nat.le_of_ble_eq_true rfl) ?_)
  refine x_iconst (pc := 0) (nI 0) dX9_among_0 (by decide) ?_
  refine x_istore_n (pc := 1) 2 dX9_among_1 rfl (by decide) rfl ?_
  refine x_iconst (pc := 2) (nI 0) dX9_among_2 (by decide) ?_
  refine x_istore_n (pc := 3) 3 dX9_among_3 rfl (by decide) rfl ?_
  exact l_among d hv hW (aN α) 0 0 (by omega)
def a_var (α : Nat → Nat → Int32) (v w : Int32) : Int32 :=
  if a_isVar α v = true then (if w = nI 0 then α 101 (32 + v.toNatClampNeg) else if w = nI 1 then α 101 (63 + v.toNatClampNeg) else if w = nI 2 then nI (a_among α v.toNatClampNeg) else -1) else -1
theorem t_variable (d : Nat) (v w : Int32) (hW : aW α) : zTr E (d + 3) mX9_variable [.ref 100, .int v, .int w] (κ, α, τ) (some (.int (a_var α v w))) (κ, a0 α, τ) := by
  have z : ∀ i, a0 α 101 i = α 101 i := fun i => zup_p (by decide)
  have ho : zoff [100] α (a0 α) := zoff.rf.up (by decide)
  have hW0 : aW (a0 α) := hW.off ho (by decide)
  have hV0 : a_isVar (a0 α) v = a_isVar α v := by unfold a_isVar; rw [z]
  have h30 := hW.v30
  refine zM.tr (zM_of [some (.ref 100), some (.int v), some (.int w)] (by decide) rfl (Nat.le_of_ble_eq_true rfl) ?_)
  unfold a_var
  refine x_aload_n (pc := 0) 0 dX9_variable_0 rfl rfl ?_
  refine x_iconst (pc := 1) (nI 0) dX9_variable_1 (by decide) ?_
  refine x_puti_h (pc := 2) dX9_variable_2 pX9_63 (zat_b rfl rfl) rfl rfl ?_
  refine x_aload_n (pc := 5) 0 dX9_variable_5 rfl rfl ?_
  refine x_iload_n (pc := 6) 1 dX9_variable_6 rfl rfl ?_
  refine x_callV1i (pc := 7) dX9_variable_7 lX9_75 (zat_b rfl rfl) rfl (t_isVariable (d) v) (Nat.le_of_ble_eq_true rfl) (Or.inl zgr) ?_
  show zX E (d + 3) mX9_variable 10 _ [.int (zbo (a_isVar (a0 α) v))] (κ, a0 α, τ) _
  rw [hV0]
  cases h : a_isVar α v with
  | false =>
    rw [if_neg (by decide)]
    refine x_if_ne_f (pc := 10) 15 dX9_variable_10 (by decide) (rfl) ?_
    refine x_iconst (pc := 13) (-1) dX9_variable_13 (by decide) ?_
    refine x_iret (pc := 14) dX9_variable_14 rfl ?_
    exact ⟨rfl, rfl⟩
  | true =>
    rw [if_pos rfl]
    obtain ⟨j, j1, j2, rfl⟩ := (zidx1 (v := v) (N := aV α) (by omega)).mp (by rw [← hW.v]; exact h)
    rw [nI_clamp (by omega)]
    by_cases hw : (decide (nI 0 ≤ w) && decide (w ≤ nI 2)) = true
    · obtain ⟨k, k1, rfl⟩ := (zidx (v := w) (N := 3) (by decide)).mp (by rw [show nI 3 - nI 1 = nI 2 by decide]; exact hw)
      have hk : k = 0 ∨ k = 1 ∨ k = 2 := by omega
      rcases hk with rfl | rfl | rfl
      ·
        refine x_if_ne_t (pc := 10) 15 dX9_variable_10 (by decide) (by decide) ?_
        refine x_iload_n (pc := 15) 2 dX9_variable_15 rfl rfl ?_
        refine x_tableIn (pc := 16) (off := 28) 44 dX9_variable_16  (by decide) (by decide) (by decide) (by decide) ?_
        refine x_aload_n (pc := 44) 0 dX9_variable_44 rfl rfl ?_
        refine x_getr (pc := 45) (101) dX9_variable_45 fX9_7 (zat_b rfl rfl) rfl ?_
        refine x_bipush (pc := 48) (nI 32) dX9_variable_48 (by decide) ?_
        refine x_iload_n (pc := 50) 1 dX9_variable_50 rfl rfl ?_
        refine x_iadd (pc := 51) dX9_variable_51 ?_
        have hj52 : 32 + j < 13326 := by omega
        refine x_iald_h (pc := 52) (32 + j) dX9_variable_52 (zar_b rfl rfl rfl) rfl (by first | rfl | simp only [pk_mul, nI_add] | simp only [zon, pk_mul, nI_add]) hj52 (Nat.lt_of_lt_of_le hj52 (by decide)) ?_
        refine x_iret (pc := 53) dX9_variable_53 rfl ?_
        exact ⟨by rw [z, if_pos rfl], rfl⟩
      ·
        refine x_if_ne_t (pc := 10) 15 dX9_variable_10 (by decide) (by decide) ?_
        refine x_iload_n (pc := 15) 2 dX9_variable_15 rfl rfl ?_
        refine x_tableIn (pc := 16) (off := 38) 54 dX9_variable_16  (by decide) (by decide) (by decide) (by decide) ?_
        refine x_aload_n (pc := 54) 0 dX9_variable_54 rfl rfl ?_
        refine x_getr (pc := 55) (101) dX9_variable_55 fX9_7 (zat_b rfl rfl) rfl ?_
        refine x_bipush (pc := 58) (nI 63) dX9_variable_58 (by decide) ?_
        refine x_iload_n (pc := 60) 1 dX9_variable_60 rfl rfl ?_
        refine x_iadd (pc := 61) dX9_variable_61 ?_
        have hj62 : 63 + j < 13326 := by omega
        refine x_iald_h (pc := 62) (63 + j) dX9_variable_62 (zar_b rfl rfl rfl) rfl (by first | rfl | simp only [pk_mul, nI_add] | simp only [zon, pk_mul, nI_add]) hj62 (Nat.lt_of_lt_of_le hj62 (by decide)) ?_
        refine x_iret (pc := 63) dX9_variable_63 rfl ?_
        exact ⟨by rw [z, if_neg (by decide), if_pos rfl], rfl⟩
      ·
        refine x_if_ne_t (pc := 10) 15 dX9_variable_10 (by decide) (by decide) ?_
        refine x_iload_n (pc := 15) 2 dX9_variable_15 rfl rfl ?_
        refine x_tableIn (pc := 16) (off := 48) 64 dX9_variable_16  (by decide) (by decide) (by decide) (by decide) ?_
        refine x_aload_n (pc := 64) 0 dX9_variable_64 rfl rfl ?_
        refine x_iload_n (pc := 65) 1 dX9_variable_65 rfl rfl ?_
        refine x_callV1i (pc := 66) dX9_variable_66 lX9_195 (zat_b rfl rfl) rfl (t_among d (by omega) hW0) (Nat.le_of_ble_eq_true rfl) (Or.inl zgr) ?_
        have e : a_among (a0 α) j = a_among α j := by
          unfold a_among a_amF a_gone
          simp only [z, zo_N ho (by decide), zo_S ho (by decide), zo_L ho (by decide)]
        rw [e]
        refine x_iret (pc := 69) dX9_variable_69 rfl ?_
        exact ⟨by rw [if_neg (by decide), if_neg (by decide), if_pos rfl], rfl⟩
    · have hk : ¬ w = nI 0 ∧ ¬ w = nI 1 ∧ ¬ w = nI 2 := ⟨fun q => hw (by rw [q]; decide), fun q => hw (by rw [q]; decide), fun q => hw (by rw [q]; decide)⟩
      refine x_if_ne_t (pc := 10) 15 dX9_variable_10 (by decide) (by decide) ?_
      refine x_iload_n (pc := 15) 2 dX9_variable_15 rfl rfl ?_
      refine x_tableOut (pc := 16) 70 dX9_variable_16 ( ztout (by decide) hw) (by decide) ?_
      refine x_iconst (pc := 70) (-1) dX9_variable_70 (by decide) ?_
      refine x_iret (pc := 71) dX9_variable_71 rfl ?_
      exact ⟨by rw [if_neg hk.1, if_neg hk.2.1, if_neg hk.2.2], rfl⟩
end M14
