/-! the class: its calls, second half -/
def k_logN (κ : Nat → Nat → Int32) : Int32 := κ 11 5 - κ 11 6 + (if κ 10 7 = 0 then nI 0 else nI 1)
def k_cnum (κ : Nat → Nat → Int32) (j : Nat) : Int32 := match j with
  | 0 => κ 10 4
  | 1 => κ 11 5
  | 2 => κ 11 6
  | 3 => nI (zcnt (fun i => decide (κ 14 i = nI 1)) 0 (kN κ))
  | 4 => κ 19 1
  | 5 => κ 17 1
  | 6 => κ 10 6
  | 7 => k_logN κ
  | 8 => if κ 10 7 = 0 then nI 0 else nI 1
  | 9 => κ 5 5
  | 10 => κ 10 8
  | 11 => κ 10 9
  | 12 => κ 10 10
  | 13 => κ 10 11
  | _ => κ 10 12
def k_count (κ : Nat → Nat → Int32) (w : Int32) : Int32 := if (decide (nI 0 ≤ w) && decide (w ≤ nI 14)) = true then k_cnum κ w.toNatClampNeg else -1
def k_assn (κ : Nat → Nat → Int32) (i : Int32) : Int32 := if (decide (nI 0 ≤ i) && decide (i ≤ κ 19 1 - nI 1)) = true then κ 20 i.toNatClampNeg else nI 0
def k_mod (κ : Nat → Nat → Int32) (v : Int32) : Int32 := if (decide (nI 1 ≤ v) && decide (v ≤ κ 10 15)) = true then (if κ 10 14 &&& kb v = 0 then nI 0 else nI 1) else -1
def k_coreA (κ : Nat → Nat → Int32) : Int32 := if κ 10 12 = 0 then κ 10 13 else -1
def k_var (κ : Nat → Nat → Int32) (v w : Int32) : Int32 := if (decide (nI 1 ≤ v) && decide (v ≤ κ 10 4)) = true then (if w = nI 0 then zbo (k_phaseOf κ v) else if w = nI 1 then κ 21 v.toNatClampNeg else if w = nI 2 then nI (zcnt (k_cwB κ v) 0 (kN κ)) else -1) else -1
def k_follows (κ : Nat → Nat → Int32) (i : Int32) : Int32 × (Nat → Nat → Int32) :=
  if i < -1 ∨ ¬ i < nI 30 then (nI 0, κ)
  else (if i = -1 then (if k_daL 30 (k_emt κ) 3 9 = -1 then k_daL 30 (k_emt κ) 3 2 else nI 100) else if i < k_daL 30 (k_emt κ) 3 2 then k_daL 30 (k_emt κ) 70 i.toNatClampNeg else nI 0, k_daL 30 (k_emt κ))
/-- the line's clause -/
def k_lat (κ : Nat → Nat → Int32) (k : Nat) : Option Nat := k_latL κ k 0 (kN κ) 0
def k_lsz (κ : Nat → Nat → Int32) (k : Nat) : Nat := match k_lat κ k with
  | none => 0
  | some c => kLn κ c
def k_lineA (κ : Nat → Nat → Int32) (k w : Int32) : Int32 :=
  if k < 0 ∨ ¬ k < k_logN κ ∨ w < -1 then -100
  else if w = -1 then nI (k_lsz κ k.toNatClampNeg)
  else if w < nI (k_lsz κ k.toNatClampNeg) then (match k_lat κ k.toNatClampNeg with
    | none => -100
    | some c => κ 16 (kS κ c + w.toNatClampNeg)) else -100
def k_refute (κ : Nat → Nat → Int32) : Int32 × (Nat → Nat → Int32) := ((k_log κ).1, if (k_log κ).1 = -1 then zup (k_log κ).2 5 5 (nI 0) else zup (zup (k_log κ).2 5 5 (nI 0)) 10 16 (if (k_log κ).2 4 5 = 0 then nI 0 else nI 1))
section O2
variable {E : zEnv} {κ α : Nat → Nat → Int32} {τ : (Nat → Nat → Int64) × (Nat → Nat)}
theorem s_logLength (d : Nat) : zTr E (d + 2) mX8_logLength [.ref 0] (κ, α, τ) (some (.int (k_logN κ))) (κ, α, τ) := by
  refine zM.tr (zM_of [some (.ref 0)] (by decide) rfl (Nat.le_of_ble_eq_true rfl) ?_)
  unfold k_logN
  by_cases h : κ 10 7 = 0
  · rw [if_pos h]
    refine x_aload_n (pc := 0) 0 dX8_logLength_0 rfl rfl ?_
    refine x_getr (pc := 1) (10) dX8_logLength_1 fX8_10 (zat_b rfl rfl) rfl ?_
    refine x_getr (pc := 4) (11) dX8_logLength_4 fX8_91 (zat_b rfl rfl) rfl ?_
    refine x_callV0i (pc := 7) dX8_logLength_7 lX8_249 (zat_b rfl rfl) rfl (s_learntEver d) (Nat.le_of_ble_eq_true rfl) (Or.inl zgr) ?_
    refine x_aload_n (pc := 10) 0 dX8_logLength_10 rfl rfl ?_
    refine x_getr (pc := 11) (10) dX8_logLength_11 fX8_10 (zat_b rfl rfl) rfl ?_
    refine x_geti_l (pc := 14) dX8_logLength_14 fX8_150 (zat_b rfl rfl) rfl rfl ?_
    refine x_if_eq_t (pc := 17) 24 dX8_logLength_17 (by decide) (h) ?_
    refine x_iconst (pc := 24) (nI 0) dX8_logLength_24 (by decide) ?_
    refine x_iadd (pc := 25) dX8_logLength_25 ?_
    refine x_iret (pc := 26) dX8_logLength_26 rfl ?_
    exact ⟨rfl, rfl⟩
  · rw [if_neg h]
    refine x_aload_n (pc := 0) 0 dX8_logLength_0 rfl rfl ?_
    refine x_getr (pc := 1) (10) dX8_logLength_1 fX8_10 (zat_b rfl rfl) rfl ?_
    refine x_getr (pc := 4) (11) dX8_logLength_4 fX8_91 (zat_b rfl rfl) rfl ?_
    refine x_callV0i (pc := 7) dX8_logLength_7 lX8_249 (zat_b rfl rfl) rfl (s_learntEver d) (Nat.le_of_ble_eq_true rfl) (Or.inl zgr) ?_
    refine x_aload_n (pc := 10) 0 dX8_logLength_10 rfl rfl ?_
    refine x_getr (pc := 11) (10) dX8_logLength_11 fX8_10 (zat_b rfl rfl) rfl ?_
    refine x_geti_l (pc := 14) dX8_logLength_14 fX8_150 (zat_b rfl rfl) rfl rfl ?_
    refine x_if_eq_f (pc := 17) 24 dX8_logLength_17 (by decide) (h) ?_
    refine x_iconst (pc := 20) (nI 1) dX8_logLength_20 (by decide) ?_
    refine x_goto (pc := 21) 25 dX8_logLength_21 (by decide) ?_
    refine x_iadd (pc := 25) dX8_logLength_25 ?_
    refine x_iret (pc := 26) dX8_logLength_26 rfl ?_
    exact ⟨rfl, rfl⟩
theorem s_count (d : Nat) (w : Int32) (hN : κ 11 5 = nI (kN κ)) (hN4 : kN κ ≤ 400) : zTr E (d + 3) mX8_count [.ref 0, .int w] (κ, α, τ) (some (.int (k_count κ w))) (κ, α, τ) := by
  refine zM.tr (zM_of [some (.ref 0), some (.int w)] (by decide) rfl (Nat.le_of_ble_eq_true rfl) ?_)
  unfold k_count
  by_cases h : (decide (nI 0 ≤ w) && decide (w ≤ nI 14)) = true
  · rw [if_pos h]
    obtain ⟨j, h1, rfl⟩ := (zidx (v := w) (N := 15) (by decide)).mp (by rw [show nI 15 - nI 1 = nI 14 by decide]; exact h)
    rw [nI_clamp (by omega)]
    have hj : j = 0 ∨ j = 1 ∨ j = 2 ∨ j = 3 ∨ j = 4 ∨ j = 5 ∨ j = 6 ∨ j = 7 ∨ j = 8 ∨ j = 9 ∨ j = 10 ∨ j = 11 ∨ j = 12 ∨ j = 13 ∨ j = 14 := by omega
    rcases hj with rfl | rfl | rfl | rfl | rfl | rfl | rfl | rfl | rfl | rfl | rfl | rfl | rfl | rfl | rfl
    ·
      refine x_iload_n (pc := 0) 1 dX8_count_0 rfl rfl ?_
      refine x_tableIn (pc := 1) (off := 75) 76 dX8_count_1  (by decide) (by decide) (by decide) (by decide) ?_
      refine x_aload_n (pc := 76) 0 dX8_count_76 rfl rfl ?_
      refine x_getr (pc := 77) (10) dX8_count_77 fX8_10 (zat_b rfl rfl) rfl ?_
      refine x_geti_l (pc := 80) dX8_count_80 fX8_77 (zat_b rfl rfl) rfl rfl ?_
      refine x_iret (pc := 83) dX8_count_83 rfl ?_
      exact ⟨rfl, rfl⟩
    ·
      refine x_iload_n (pc := 0) 1 dX8_count_0 rfl rfl ?_
      refine x_tableIn (pc := 1) (off := 83) 84 dX8_count_1  (by decide) (by decide) (by decide) (by decide) ?_
      refine x_aload_n (pc := 84) 0 dX8_count_84 rfl rfl ?_
      refine x_getr (pc := 85) (10) dX8_count_85 fX8_10 (zat_b rfl rfl) rfl ?_
      refine x_getr (pc := 88) (11) dX8_count_88 fX8_91 (zat_b rfl rfl) rfl ?_
      refine x_geti_l (pc := 91) dX8_count_91 fX8_137 (zat_b rfl rfl) rfl rfl ?_
      refine x_iret (pc := 94) dX8_count_94 rfl ?_
      exact ⟨rfl, rfl⟩
    ·
      refine x_iload_n (pc := 0) 1 dX8_count_0 rfl rfl ?_
      refine x_tableIn (pc := 1) (off := 94) 95 dX8_count_1  (by decide) (by decide) (by decide) (by decide) ?_
      refine x_aload_n (pc := 95) 0 dX8_count_95 rfl rfl ?_
      refine x_getr (pc := 96) (10) dX8_count_96 fX8_10 (zat_b rfl rfl) rfl ?_
      refine x_getr (pc := 99) (11) dX8_count_99 fX8_91 (zat_b rfl rfl) rfl ?_
      refine x_geti_l (pc := 102) dX8_count_102 fX8_140 (zat_b rfl rfl) rfl rfl ?_
      refine x_iret (pc := 105) dX8_count_105 rfl ?_
      exact ⟨rfl, rfl⟩
    ·
      refine x_iload_n (pc := 0) 1 dX8_count_0 rfl rfl ?_
      refine x_tableIn (pc := 1) (off := 105) 106 dX8_count_1  (by decide) (by decide) (by decide) (by decide) ?_
      refine x_aload_n (pc := 106) 0 dX8_count_106 rfl rfl ?_
      refine x_getr (pc := 107) (10) dX8_count_107 fX8_10 (zat_b rfl rfl) rfl ?_
      refine x_getr (pc := 110) (11) dX8_count_110 fX8_91 (zat_b rfl rfl) rfl ?_
      refine x_callV0i (pc := 113) dX8_count_113 lX8_143 (zat_b rfl rfl) rfl (s_learntLeft (d + 1) hN hN4) (Nat.le_of_ble_eq_true rfl) (Or.inl zgr) ?_
      refine x_iret (pc := 116) dX8_count_116 rfl ?_
      exact ⟨rfl, rfl⟩
    ·
      refine x_iload_n (pc := 0) 1 dX8_count_0 rfl rfl ?_
      refine x_tableIn (pc := 1) (off := 116) 117 dX8_count_1  (by decide) (by decide) (by decide) (by decide) ?_
      refine x_aload_n (pc := 117) 0 dX8_count_117 rfl rfl ?_
      refine x_getr (pc := 118) (10) dX8_count_118 fX8_10 (zat_b rfl rfl) rfl ?_
      refine x_getr (pc := 121) (19) dX8_count_121 fX8_108 (zat_b rfl rfl) rfl ?_
      refine x_geti_l (pc := 124) dX8_count_124 fX8_88 (zat_b rfl rfl) rfl rfl ?_
      refine x_iret (pc := 127) dX8_count_127 rfl ?_
      exact ⟨rfl, rfl⟩
    ·
      refine x_iload_n (pc := 0) 1 dX8_count_0 rfl rfl ?_
      refine x_tableIn (pc := 1) (off := 127) 128 dX8_count_1  (by decide) (by decide) (by decide) (by decide) ?_
      refine x_aload_n (pc := 128) 0 dX8_count_128 rfl rfl ?_
      refine x_getr (pc := 129) (10) dX8_count_129 fX8_10 (zat_b rfl rfl) rfl ?_
      refine x_getr (pc := 132) (17) dX8_count_132 fX8_80 (zat_b rfl rfl) rfl ?_
      refine x_geti_l (pc := 135) dX8_count_135 fX8_88 (zat_b rfl rfl) rfl rfl ?_
      refine x_iret (pc := 138) dX8_count_138 rfl ?_
      exact ⟨rfl, rfl⟩
    ·
      refine x_iload_n (pc := 0) 1 dX8_count_0 rfl rfl ?_
      refine x_tableIn (pc := 1) (off := 138) 139 dX8_count_1  (by decide) (by decide) (by decide) (by decide) ?_
      refine x_aload_n (pc := 139) 0 dX8_count_139 rfl rfl ?_
      refine x_getr (pc := 140) (10) dX8_count_140 fX8_10 (zat_b rfl rfl) rfl ?_
      refine x_geti_l (pc := 143) dX8_count_143 fX8_125 (zat_b rfl rfl) rfl rfl ?_
      refine x_iret (pc := 146) dX8_count_146 rfl ?_
      exact ⟨rfl, rfl⟩
    ·
      refine x_iload_n (pc := 0) 1 dX8_count_0 rfl rfl ?_
      refine x_tableIn (pc := 1) (off := 146) 147 dX8_count_1  (by decide) (by decide) (by decide) (by decide) ?_
      refine x_aload_n (pc := 147) 0 dX8_count_147 rfl rfl ?_
      refine x_callV0i (pc := 148) dX8_count_148 lX8_147 (zat_b rfl rfl) rfl (s_logLength d) (Nat.le_of_ble_eq_true rfl) (Or.inl zgr) ?_
      refine x_iret (pc := 151) dX8_count_151 rfl ?_
      exact ⟨rfl, rfl⟩
    · by_cases g : κ 10 7 = 0
      ·
        refine x_iload_n (pc := 0) 1 dX8_count_0 rfl rfl ?_
        refine x_tableIn (pc := 1) (off := 151) 152 dX8_count_1  (by decide) (by decide) (by decide) (by decide) ?_
        refine x_aload_n (pc := 152) 0 dX8_count_152 rfl rfl ?_
        refine x_getr (pc := 153) (10) dX8_count_153 fX8_10 (zat_b rfl rfl) rfl ?_
        refine x_geti_l (pc := 156) dX8_count_156 fX8_150 (zat_b rfl rfl) rfl rfl ?_
        refine x_if_eq_t (pc := 159) 166 dX8_count_159 (by decide) (g) ?_
        refine x_iconst (pc := 166) (nI 0) dX8_count_166 (by decide) ?_
        refine x_iret (pc := 167) dX8_count_167 rfl ?_
        exact ⟨by unfold k_cnum; rw [if_pos g]; rfl, rfl⟩
      ·
        refine x_iload_n (pc := 0) 1 dX8_count_0 rfl rfl ?_
        refine x_tableIn (pc := 1) (off := 151) 152 dX8_count_1  (by decide) (by decide) (by decide) (by decide) ?_
        refine x_aload_n (pc := 152) 0 dX8_count_152 rfl rfl ?_
        refine x_getr (pc := 153) (10) dX8_count_153 fX8_10 (zat_b rfl rfl) rfl ?_
        refine x_geti_l (pc := 156) dX8_count_156 fX8_150 (zat_b rfl rfl) rfl rfl ?_
        refine x_if_eq_f (pc := 159) 166 dX8_count_159 (by decide) (g) ?_
        refine x_iconst (pc := 162) (nI 1) dX8_count_162 (by decide) ?_
        refine x_goto (pc := 163) 167 dX8_count_163 (by decide) ?_
        refine x_iret (pc := 167) dX8_count_167 rfl ?_
        exact ⟨by unfold k_cnum; rw [if_neg g]; rfl, rfl⟩
    ·
      refine x_iload_n (pc := 0) 1 dX8_count_0 rfl rfl ?_
      refine x_tableIn (pc := 1) (off := 167) 168 dX8_count_1  (by decide) (by decide) (by decide) (by decide) ?_
      refine x_aload_n (pc := 168) 0 dX8_count_168 rfl rfl ?_
      refine x_getr (pc := 169) (5) dX8_count_169 fX8_39 (zat_b rfl rfl) rfl ?_
      refine x_geti_l (pc := 172) dX8_count_172 fX8_59 (zat_b rfl rfl) rfl rfl ?_
      refine x_iret (pc := 175) dX8_count_175 rfl ?_
      exact ⟨rfl, rfl⟩
    ·
      refine x_iload_n (pc := 0) 1 dX8_count_0 rfl rfl ?_
      refine x_tableIn (pc := 1) (off := 175) 176 dX8_count_1  (by decide) (by decide) (by decide) (by decide) ?_
      refine x_aload_n (pc := 176) 0 dX8_count_176 rfl rfl ?_
      refine x_getr (pc := 177) (10) dX8_count_177 fX8_10 (zat_b rfl rfl) rfl ?_
      refine x_geti_l (pc := 180) dX8_count_180 fX8_154 (zat_b rfl rfl) rfl rfl ?_
      refine x_iret (pc := 183) dX8_count_183 rfl ?_
      exact ⟨rfl, rfl⟩
    ·
      refine x_iload_n (pc := 0) 1 dX8_count_0 rfl rfl ?_
      refine x_tableIn (pc := 1) (off := 183) 184 dX8_count_1  (by decide) (by decide) (by decide) (by decide) ?_
      refine x_aload_n (pc := 184) 0 dX8_count_184 rfl rfl ?_
      refine x_getr (pc := 185) (10) dX8_count_185 fX8_10 (zat_b rfl rfl) rfl ?_
      refine x_geti_l (pc := 188) dX8_count_188 fX8_157 (zat_b rfl rfl) rfl rfl ?_
      refine x_iret (pc := 191) dX8_count_191 rfl ?_
      exact ⟨rfl, rfl⟩
    ·
      refine x_iload_n (pc := 0) 1 dX8_count_0 rfl rfl ?_
      refine x_tableIn (pc := 1) (off := 191) 192 dX8_count_1  (by decide) (by decide) (by decide) (by decide) ?_
      refine x_aload_n (pc := 192) 0 dX8_count_192 rfl rfl ?_
      refine x_getr (pc := 193) (10) dX8_count_193 fX8_10 (zat_b rfl rfl) rfl ?_
      refine x_geti_l (pc := 196) dX8_count_196 fX8_160 (zat_b rfl rfl) rfl rfl ?_
      refine x_iret (pc := 199) dX8_count_199 rfl ?_
      exact ⟨rfl, rfl⟩
    ·
      refine x_iload_n (pc := 0) 1 dX8_count_0 rfl rfl ?_
      refine x_tableIn (pc := 1) (off := 199) 200 dX8_count_1  (by decide) (by decide) (by decide) (by decide) ?_
      refine x_aload_n (pc := 200) 0 dX8_count_200 rfl rfl ?_
      refine x_getr (pc := 201) (10) dX8_count_201 fX8_10 (zat_b rfl rfl) rfl ?_
      refine x_geti_l (pc := 204) dX8_count_204 fX8_163 (zat_b rfl rfl) rfl rfl ?_
      refine x_iret (pc := 207) dX8_count_207 rfl ?_
      exact ⟨rfl, rfl⟩
    ·
      refine x_iload_n (pc := 0) 1 dX8_count_0 rfl rfl ?_
      refine x_tableIn (pc := 1) (off := 207) 208 dX8_count_1  (by decide) (by decide) (by decide) (by decide) ?_
      refine x_aload_n (pc := 208) 0 dX8_count_208 rfl rfl ?_
      refine x_getr (pc := 209) (10) dX8_count_209 fX8_10 (zat_b rfl rfl) rfl ?_
      refine x_geti_l (pc := 212) dX8_count_212 fX8_166 (zat_b rfl rfl) rfl rfl ?_
      refine x_iret (pc := 215) dX8_count_215 rfl ?_
      exact ⟨rfl, rfl⟩
  · rw [if_neg h]
    refine x_iload_n (pc := 0) 1 dX8_count_0 rfl rfl ?_
    refine x_tableOut (pc := 1) 216 dX8_count_1 ( ztout (by decide) h) (by decide) ?_
    refine x_iconst (pc := 216) (-1) dX8_count_216 (by decide) ?_
    refine x_iret (pc := 217) dX8_count_217 rfl ?_
    exact ⟨rfl, rfl⟩
theorem s_assumption (d : Nat) (i : Int32) {D : Nat} (hD : κ 19 1 = nI D) (hD8 : D ≤ 8) : zTr E (d + 1) mX8_assumption [.ref 0, .int i] (κ, α, τ) (some (.int (k_assn κ i))) (κ, α, τ) := by
  refine zM.tr (zM_of [some (.ref 0), some (.int i)] (by decide) rfl (Nat.le_of_ble_eq_true rfl) ?_)
  unfold k_assn
  rw [hD]
  by_cases h : (decide (nI 0 ≤ i) && decide (i ≤ nI D - nI 1)) = true
  · rw [if_pos h]
    obtain ⟨j, h1, rfl⟩ := (zidx (v := i) (N := D) (by omega)).mp h
    rw [nI_clamp (by omega)]
    refine x_iload_n (pc := 0) 1 dX8_assumption_0 rfl rfl ?_
    refine x_if_lt_f (pc := 1) 18 dX8_assumption_1 (by decide) (nI_pos (by omega)) ?_
    refine x_iload_n (pc := 4) 1 dX8_assumption_4 rfl rfl ?_
    refine x_aload_n (pc := 5) 0 dX8_assumption_5 rfl rfl ?_
    refine x_getr (pc := 6) (10) dX8_assumption_6 fX8_10 (zat_b rfl rfl) rfl ?_
    refine x_getr (pc := 9) (19) dX8_assumption_9 fX8_108 (zat_b rfl rfl) rfl ?_
    refine x_geti_l (pc := 12) dX8_assumption_12 fX8_88 (zat_b rfl rfl) rfl rfl ?_
    rw [hD]
    refine x_icmp_lt_t (pc := 15) 22 dX8_assumption_15 (by decide) (nI_lt h1 (by omega)) ?_
    refine x_aload_n (pc := 22) 0 dX8_assumption_22 rfl rfl ?_
    refine x_getr (pc := 23) (10) dX8_assumption_23 fX8_10 (zat_b rfl rfl) rfl ?_
    refine x_getr (pc := 26) (19) dX8_assumption_26 fX8_108 (zat_b rfl rfl) rfl ?_
    refine x_getr (pc := 29) (20) dX8_assumption_29 fX8_185 (zat_b rfl rfl) rfl ?_
    refine x_iload_n (pc := 32) 1 dX8_assumption_32 rfl rfl ?_
    have hj33 : j < 8 := by omega
    refine x_iald_l (pc := 33) (j) dX8_assumption_33 (zar_b rfl rfl rfl) rfl (by first | rfl | simp only [pk_mul, nI_add] | simp only [zon, pk_mul, nI_add]) hj33 (Nat.lt_of_lt_of_le hj33 (by decide)) ?_
    refine x_iret (pc := 34) dX8_assumption_34 rfl ?_
    exact ⟨rfl, rfl⟩
  · rw [if_neg h]
    by_cases h1 : i < 0
    ·
      refine x_iload_n (pc := 0) 1 dX8_assumption_0 rfl rfl ?_
      refine x_if_lt_t (pc := 1) 18 dX8_assumption_1 (by decide) (h1) ?_
      refine x_iconst (pc := 18) (nI 0) dX8_assumption_18 (by decide) ?_
      refine x_goto (pc := 19) 34 dX8_assumption_19 (by decide) ?_
      refine x_iret (pc := 34) dX8_assumption_34 rfl ?_
      exact ⟨rfl, rfl⟩
    · obtain ⟨j, hj, rfl⟩ := nI_of h1
      have h2 : ¬ j < D := fun q => h ((zidx (v := nI j) (N := D) (by omega)).mpr ⟨j, q, rfl⟩)
      refine x_iload_n (pc := 0) 1 dX8_assumption_0 rfl rfl ?_
      refine x_if_lt_f (pc := 1) 18 dX8_assumption_1 (by decide) (h1) ?_
      refine x_iload_n (pc := 4) 1 dX8_assumption_4 rfl rfl ?_
      refine x_aload_n (pc := 5) 0 dX8_assumption_5 rfl rfl ?_
      refine x_getr (pc := 6) (10) dX8_assumption_6 fX8_10 (zat_b rfl rfl) rfl ?_
      refine x_getr (pc := 9) (19) dX8_assumption_9 fX8_108 (zat_b rfl rfl) rfl ?_
      refine x_geti_l (pc := 12) dX8_assumption_12 fX8_88 (zat_b rfl rfl) rfl rfl ?_
      rw [hD]
      refine x_icmp_lt_f (pc := 15) 22 dX8_assumption_15 (by decide) (nI_nlt (by omega) hj) ?_
      refine x_iconst (pc := 18) (nI 0) dX8_assumption_18 (by decide) ?_
      refine x_goto (pc := 19) 34 dX8_assumption_19 (by decide) ?_
      refine x_iret (pc := 34) dX8_assumption_34 rfl ?_
      exact ⟨rfl, rfl⟩
theorem s_model (d : Nat) (v : Int32) : zTr E (d + 2) mX8_model [.ref 0, .int v] (κ, α, τ) (some (.int (k_mod κ v))) (κ, α, τ) := by
  refine zM.tr (zM_of [some (.ref 0), some (.int v)] (by decide) rfl (Nat.le_of_ble_eq_true rfl) ?_)
  unfold k_mod
  by_cases h1 : v < nI 1
  · rw [if_neg (fun q => by rw [Bool.and_eq_true] at q; exact Int32.not_lt.mpr (of_decide_eq_true q.1) h1)]
    refine x_iload_n (pc := 0) 1 dX8_model_0 rfl rfl ?_
    refine x_iconst (pc := 1) (nI 1) dX8_model_1 (by decide) ?_
    refine x_icmp_lt_t (pc := 2) 16 dX8_model_2 (by decide) (h1) ?_
    refine x_iconst (pc := 16) (-1) dX8_model_16 (by decide) ?_
    refine x_iret (pc := 17) dX8_model_17 rfl ?_
    exact ⟨rfl, rfl⟩
  · by_cases h2 : v ≤ κ 10 15
    · rw [if_pos (by rw [decide_eq_true (Int32.not_lt.mp h1), decide_eq_true h2]; rfl)]
      by_cases h3 : κ 10 14 &&& kb v = 0
      · rw [if_pos h3]
        refine x_iload_n (pc := 0) 1 dX8_model_0 rfl rfl ?_
        refine x_iconst (pc := 1) (nI 1) dX8_model_1 (by decide) ?_
        refine x_icmp_lt_f (pc := 2) 16 dX8_model_2 (by decide) (h1) ?_
        refine x_iload_n (pc := 5) 1 dX8_model_5 rfl rfl ?_
        refine x_aload_n (pc := 6) 0 dX8_model_6 rfl rfl ?_
        refine x_getr (pc := 7) (10) dX8_model_7 fX8_10 (zat_b rfl rfl) rfl ?_
        refine x_geti_l (pc := 10) dX8_model_10 fX8_189 (zat_b rfl rfl) rfl rfl ?_
        refine x_icmp_le_t (pc := 13) 18 dX8_model_13 (by decide) (h2) ?_
        refine x_aload_n (pc := 18) 0 dX8_model_18 rfl rfl ?_
        refine x_getr (pc := 19) (10) dX8_model_19 fX8_10 (zat_b rfl rfl) rfl ?_
        refine x_geti_l (pc := 22) dX8_model_22 fX8_192 (zat_b rfl rfl) rfl rfl ?_
        refine x_iload_n (pc := 25) 1 dX8_model_25 rfl rfl ?_
        refine x_callS1i (pc := 26) dX8_model_26 lX8_195 (s_bitOf d v) (Nat.le_of_ble_eq_true rfl) (Or.inl zgr) ?_
        refine x_iand (pc := 29) dX8_model_29 ?_
        refine x_if_eq_t (pc := 30) 37 dX8_model_30 (by decide) (h3) ?_
        refine x_iconst (pc := 37) (nI 0) dX8_model_37 (by decide) ?_
        refine x_iret (pc := 38) dX8_model_38 rfl ?_
        exact ⟨rfl, rfl⟩
      · rw [if_neg h3]
        refine x_iload_n (pc := 0) 1 dX8_model_0 rfl rfl ?_
        refine x_iconst (pc := 1) (nI 1) dX8_model_1 (by decide) ?_
        refine x_icmp_lt_f (pc := 2) 16 dX8_model_2 (by decide) (h1) ?_
        refine x_iload_n (pc := 5) 1 dX8_model_5 rfl rfl ?_
        refine x_aload_n (pc := 6) 0 dX8_model_6 rfl rfl ?_
        refine x_getr (pc := 7) (10) dX8_model_7 fX8_10 (zat_b rfl rfl) rfl ?_
        refine x_geti_l (pc := 10) dX8_model_10 fX8_189 (zat_b rfl rfl) rfl rfl ?_
        refine x_icmp_le_t (pc := 13) 18 dX8_model_13 (by decide) (h2) ?_
        refine x_aload_n (pc := 18) 0 dX8_model_18 rfl rfl ?_
        refine x_getr (pc := 19) (10) dX8_model_19 fX8_10 (zat_b rfl rfl) rfl ?_
        refine x_geti_l (pc := 22) dX8_model_22 fX8_192 (zat_b rfl rfl) rfl rfl ?_
        refine x_iload_n (pc := 25) 1 dX8_model_25 rfl rfl ?_
        refine x_callS1i (pc := 26) dX8_model_26 lX8_195 (s_bitOf d v) (Nat.le_of_ble_eq_true rfl) (Or.inl zgr) ?_
        refine x_iand (pc := 29) dX8_model_29 ?_
        refine x_if_eq_f (pc := 30) 37 dX8_model_30 (by decide) (h3) ?_
        refine x_iconst (pc := 33) (nI 1) dX8_model_33 (by decide) ?_
        refine x_goto (pc := 34) 38 dX8_model_34 (by decide) ?_
        refine x_iret (pc := 38) dX8_model_38 rfl ?_
        exact ⟨rfl, rfl⟩
    · rw [if_neg (fun q => by rw [Bool.and_eq_true] at q; exact h2 (of_decide_eq_true q.2))]
      refine x_iload_n (pc := 0) 1 dX8_model_0 rfl rfl ?_
      refine x_iconst (pc := 1) (nI 1) dX8_model_1 (by decide) ?_
      refine x_icmp_lt_f (pc := 2) 16 dX8_model_2 (by decide) (h1) ?_
      refine x_iload_n (pc := 5) 1 dX8_model_5 rfl rfl ?_
      refine x_aload_n (pc := 6) 0 dX8_model_6 rfl rfl ?_
      refine x_getr (pc := 7) (10) dX8_model_7 fX8_10 (zat_b rfl rfl) rfl ?_
      refine x_geti_l (pc := 10) dX8_model_10 fX8_189 (zat_b rfl rfl) rfl rfl ?_
      refine x_icmp_le_f (pc := 13) 18 dX8_model_13 (by decide) (h2) ?_
      refine x_iconst (pc := 16) (-1) dX8_model_16 (by decide) ?_
      refine x_iret (pc := 17) dX8_model_17 rfl ?_
      exact ⟨rfl, rfl⟩
theorem s_coreA (d : Nat) : zTr E (d + 1) mX8_core [.ref 0] (κ, α, τ) (some (.int (k_coreA κ))) (κ, α, τ) := by
  refine zM.tr (zM_of [some (.ref 0)] (by decide) rfl (Nat.le_of_ble_eq_true rfl) ?_)
  unfold k_coreA
  by_cases h : κ 10 12 = 0
  · rw [if_pos h]
    refine x_aload_n (pc := 0) 0 dX8_core_0 rfl rfl ?_
    refine x_getr (pc := 1) (10) dX8_core_1 fX8_10 (zat_b rfl rfl) rfl ?_
    refine x_geti_l (pc := 4) dX8_core_4 fX8_166 (zat_b rfl rfl) rfl rfl ?_
    refine x_if_ne_f (pc := 7) 20 dX8_core_7 (by decide) (h) ?_
    refine x_aload_n (pc := 10) 0 dX8_core_10 rfl rfl ?_
    refine x_getr (pc := 11) (10) dX8_core_11 fX8_10 (zat_b rfl rfl) rfl ?_
    refine x_geti_l (pc := 14) dX8_core_14 fX8_198 (zat_b rfl rfl) rfl rfl ?_
    refine x_goto (pc := 17) 21 dX8_core_17 (by decide) ?_
    refine x_iret (pc := 21) dX8_core_21 rfl ?_
    exact ⟨rfl, rfl⟩
  · rw [if_neg h]
    refine x_aload_n (pc := 0) 0 dX8_core_0 rfl rfl ?_
    refine x_getr (pc := 1) (10) dX8_core_1 fX8_10 (zat_b rfl rfl) rfl ?_
    refine x_geti_l (pc := 4) dX8_core_4 fX8_166 (zat_b rfl rfl) rfl rfl ?_
    refine x_if_ne_t (pc := 7) 20 dX8_core_7 (by decide) (h) ?_
    refine x_iconst (pc := 20) (-1) dX8_core_20 (by decide) ?_
    refine x_iret (pc := 21) dX8_core_21 rfl ?_
    exact ⟨rfl, rfl⟩
theorem s_variable (d : Nat) (v w : Int32) (hV : κ 10 4 = nI (kV κ)) (hV30 : kV κ ≤ 30) (hN : κ 11 5 = nI (kN κ)) (hN4 : kN κ ≤ 400) : zTr E (d + 3) mX8_variable [.ref 0, .int v, .int w] (κ, α, τ) (some (.int (k_var κ v w))) (κ, α, τ) := by
  refine zM.tr (zM_of [some (.ref 0), some (.int v), some (.int w)] (by decide) rfl (Nat.le_of_ble_eq_true rfl) ?_)
  unfold k_var
  by_cases h1 : v < nI 1
  · rw [if_neg (fun q => by rw [Bool.and_eq_true] at q; exact Int32.not_lt.mpr (of_decide_eq_true q.1) h1)]
    refine x_iload_n (pc := 0) 1 dX8_variable_0 rfl rfl ?_
    refine x_iconst (pc := 1) (nI 1) dX8_variable_1 (by decide) ?_
    refine x_icmp_lt_t (pc := 2) 16 dX8_variable_2 (by decide) (h1) ?_
    refine x_iconst (pc := 16) (-1) dX8_variable_16 (by decide) ?_
    refine x_iret (pc := 17) dX8_variable_17 rfl ?_
    exact ⟨rfl, rfl⟩
  · by_cases h2 : v ≤ κ 10 4
    · have hb : (decide (nI 1 ≤ v) && decide (v ≤ κ 10 4)) = true := by rw [decide_eq_true (Int32.not_lt.mp h1), decide_eq_true h2]; rfl
      rw [if_pos hb]
      obtain ⟨j, j1, j2, rfl⟩ := (zidx1 (v := v) (N := kV κ) (by omega)).mp (by rw [← hV]; exact hb)
      rw [nI_clamp (by omega)]
      by_cases hw : (decide (nI 0 ≤ w) && decide (w ≤ nI 2)) = true
      · obtain ⟨k, k1, rfl⟩ := (zidx (v := w) (N := 3) (by decide)).mp (by rw [show nI 3 - nI 1 = nI 2 by decide]; exact hw)
        have hk : k = 0 ∨ k = 1 ∨ k = 2 := by omega
        rcases hk with rfl | rfl | rfl
        · rw [if_pos rfl]
          refine x_iload_n (pc := 0) 1 dX8_variable_0 rfl rfl ?_
          refine x_iconst (pc := 1) (nI 1) dX8_variable_1 (by decide) ?_
          refine x_icmp_lt_f (pc := 2) 16 dX8_variable_2 (by decide) (h1) ?_
          refine x_iload_n (pc := 5) 1 dX8_variable_5 rfl rfl ?_
          refine x_aload_n (pc := 6) 0 dX8_variable_6 rfl rfl ?_
          refine x_getr (pc := 7) (10) dX8_variable_7 fX8_10 (zat_b rfl rfl) rfl ?_
          refine x_geti_l (pc := 10) dX8_variable_10 fX8_77 (zat_b rfl rfl) rfl rfl ?_
          refine x_icmp_le_t (pc := 13) 18 dX8_variable_13 (by decide) (h2) ?_
          refine x_iload_n (pc := 18) 2 dX8_variable_18 rfl rfl ?_
          refine x_tableIn (pc := 19) (off := 25) 44 dX8_variable_19  (by decide) (by decide) (by decide) (by decide) ?_
          refine x_aload_n (pc := 44) 0 dX8_variable_44 rfl rfl ?_
          refine x_getr (pc := 45) (10) dX8_variable_45 fX8_10 (zat_b rfl rfl) rfl ?_
          refine x_iload_n (pc := 48) 1 dX8_variable_48 rfl rfl ?_
          refine x_callV1i (pc := 49) dX8_variable_49 lX8_119 (zat_b rfl rfl) rfl (s_phaseOf (d + 0) _) (Nat.le_of_ble_eq_true rfl) (Or.inl zgr) ?_
          cases hp : k_phaseOf κ (nI j) with
          | true =>
            refine x_if_eq_f (pc := 52) 59 dX8_variable_52 (by decide) (by decide) ?_
            refine x_iconst (pc := 55) (nI 1) dX8_variable_55 (by decide) ?_
            refine x_goto (pc := 56) 60 dX8_variable_56 (by decide) ?_
            refine x_iret (pc := 60) dX8_variable_60 rfl ?_
            exact ⟨rfl, rfl⟩
          | false =>
            refine x_if_eq_t (pc := 52) 59 dX8_variable_52 (by decide) (rfl) ?_
            refine x_iconst (pc := 59) (nI 0) dX8_variable_59 (by decide) ?_
            refine x_iret (pc := 60) dX8_variable_60 rfl ?_
            exact ⟨rfl, rfl⟩
        · rw [if_neg (by decide), if_pos rfl]
          refine x_iload_n (pc := 0) 1 dX8_variable_0 rfl rfl ?_
          refine x_iconst (pc := 1) (nI 1) dX8_variable_1 (by decide) ?_
          refine x_icmp_lt_f (pc := 2) 16 dX8_variable_2 (by decide) (h1) ?_
          refine x_iload_n (pc := 5) 1 dX8_variable_5 rfl rfl ?_
          refine x_aload_n (pc := 6) 0 dX8_variable_6 rfl rfl ?_
          refine x_getr (pc := 7) (10) dX8_variable_7 fX8_10 (zat_b rfl rfl) rfl ?_
          refine x_geti_l (pc := 10) dX8_variable_10 fX8_77 (zat_b rfl rfl) rfl rfl ?_
          refine x_icmp_le_t (pc := 13) 18 dX8_variable_13 (by decide) (h2) ?_
          refine x_iload_n (pc := 18) 2 dX8_variable_18 rfl rfl ?_
          refine x_tableIn (pc := 19) (off := 42) 61 dX8_variable_19  (by decide) (by decide) (by decide) (by decide) ?_
          refine x_aload_n (pc := 61) 0 dX8_variable_61 rfl rfl ?_
          refine x_getr (pc := 62) (10) dX8_variable_62 fX8_10 (zat_b rfl rfl) rfl ?_
          refine x_getr (pc := 65) (21) dX8_variable_65 fX8_201 (zat_b rfl rfl) rfl ?_
          refine x_iload_n (pc := 68) 1 dX8_variable_68 rfl rfl ?_
          have hj69 : j < 31 := by omega
          refine x_iald_l (pc := 69) (j) dX8_variable_69 (zar_b rfl rfl rfl) rfl (by first | rfl | simp only [pk_mul, nI_add] | simp only [zon, pk_mul, nI_add]) hj69 (Nat.lt_of_lt_of_le hj69 (by decide)) ?_
          refine x_iret (pc := 70) dX8_variable_70 rfl ?_
          exact ⟨rfl, rfl⟩
        · rw [if_neg (by decide), if_neg (by decide), if_pos rfl]
          refine x_iload_n (pc := 0) 1 dX8_variable_0 rfl rfl ?_
          refine x_iconst (pc := 1) (nI 1) dX8_variable_1 (by decide) ?_
          refine x_icmp_lt_f (pc := 2) 16 dX8_variable_2 (by decide) (h1) ?_
          refine x_iload_n (pc := 5) 1 dX8_variable_5 rfl rfl ?_
          refine x_aload_n (pc := 6) 0 dX8_variable_6 rfl rfl ?_
          refine x_getr (pc := 7) (10) dX8_variable_7 fX8_10 (zat_b rfl rfl) rfl ?_
          refine x_geti_l (pc := 10) dX8_variable_10 fX8_77 (zat_b rfl rfl) rfl rfl ?_
          refine x_icmp_le_t (pc := 13) 18 dX8_variable_13 (by decide) (h2) ?_
          refine x_iload_n (pc := 18) 2 dX8_variable_18 rfl rfl ?_
          refine x_tableIn (pc := 19) (off := 52) 71 dX8_variable_19  (by decide) (by decide) (by decide) (by decide) ?_
          refine x_aload_n (pc := 71) 0 dX8_variable_71 rfl rfl ?_
          refine x_getr (pc := 72) (10) dX8_variable_72 fX8_10 (zat_b rfl rfl) rfl ?_
          refine x_getr (pc := 75) (11) dX8_variable_75 fX8_91 (zat_b rfl rfl) rfl ?_
          refine x_iload_n (pc := 78) 1 dX8_variable_78 rfl rfl ?_
          refine x_callV1i (pc := 79) dX8_variable_79 lX8_204 (zat_b rfl rfl) rfl (s_clausesWith (d + 0) hN hN4 _) (Nat.le_of_ble_eq_true rfl) (Or.inl zgr) ?_
          refine x_iret (pc := 82) dX8_variable_82 rfl ?_
          exact ⟨rfl, rfl⟩
      · rw [if_neg (fun q => hw (by rw [q]; decide)), if_neg (fun q => hw (by rw [q]; decide)), if_neg (fun q => hw (by rw [q]; decide))]
        refine x_iload_n (pc := 0) 1 dX8_variable_0 rfl rfl ?_
        refine x_iconst (pc := 1) (nI 1) dX8_variable_1 (by decide) ?_
        refine x_icmp_lt_f (pc := 2) 16 dX8_variable_2 (by decide) (h1) ?_
        refine x_iload_n (pc := 5) 1 dX8_variable_5 rfl rfl ?_
        refine x_aload_n (pc := 6) 0 dX8_variable_6 rfl rfl ?_
        refine x_getr (pc := 7) (10) dX8_variable_7 fX8_10 (zat_b rfl rfl) rfl ?_
        refine x_geti_l (pc := 10) dX8_variable_10 fX8_77 (zat_b rfl rfl) rfl rfl ?_
        refine x_icmp_le_t (pc := 13) 18 dX8_variable_13 (by decide) (h2) ?_
        refine x_iload_n (pc := 18) 2 dX8_variable_18 rfl rfl ?_
        refine x_tableOut (pc := 19) 83 dX8_variable_19 ( ztout (by decide) hw) (by decide) ?_
        refine x_iconst (pc := 83) (-1) dX8_variable_83 (by decide) ?_
        refine x_iret (pc := 84) dX8_variable_84 rfl ?_
        exact ⟨rfl, rfl⟩
    · rw [if_neg (fun q => by rw [Bool.and_eq_true] at q; exact h2 (of_decide_eq_true q.2))]
      refine x_iload_n (pc := 0) 1 dX8_variable_0 rfl rfl ?_
      refine x_iconst (pc := 1) (nI 1) dX8_variable_1 (by decide) ?_
      refine x_icmp_lt_f (pc := 2) 16 dX8_variable_2 (by decide) (h1) ?_
      refine x_iload_n (pc := 5) 1 dX8_variable_5 rfl rfl ?_
      refine x_aload_n (pc := 6) 0 dX8_variable_6 rfl rfl ?_
      refine x_getr (pc := 7) (10) dX8_variable_7 fX8_10 (zat_b rfl rfl) rfl ?_
      refine x_geti_l (pc := 10) dX8_variable_10 fX8_77 (zat_b rfl rfl) rfl rfl ?_
      refine x_icmp_le_f (pc := 13) 18 dX8_variable_13 (by decide) (h2) ?_
      refine x_iconst (pc := 16) (-1) dX8_variable_16 (by decide) ?_
      refine x_iret (pc := 17) dX8_variable_17 rfl ?_
      exact ⟨rfl, rfl⟩
theorem s_follows (d : Nat) (i : Int32) (h : kdOK 30 (k_emt κ)) : zTr E (d + 4) mX8_follows [.ref 0, .int i] (κ, α, τ) (some (.int (k_follows κ i).1)) ((k_follows κ i).2, α, τ) := by
  refine zM.tr (zM_of [some (.ref 0), some (.int i), none] (by decide) rfl (Nat.le_of_ble_eq_true rfl) ?_)
  unfold k_follows
  by_cases h1 : i < -1
  · rw [if_pos (Or.inl h1)]
    refine x_iload_n (pc := 0) 1 dX8_follows_0 rfl rfl ?_
    refine x_iconst (pc := 1) (-1) dX8_follows_1 (by decide) ?_
    refine x_icmp_lt_t (pc := 2) 11 dX8_follows_2 (by decide) (h1) ?_
    refine x_iconst (pc := 11) (nI 0) dX8_follows_11 (by decide) ?_
    refine x_iret (pc := 12) dX8_follows_12 rfl ?_
    exact ⟨rfl, rfl⟩
  · by_cases h2 : i < nI 30
    · rw [if_neg (fun q => q.elim h1 (fun q => q h2))]
      refine x_iload_n (pc := 0) 1 dX8_follows_0 rfl rfl ?_
      refine x_iconst (pc := 1) (-1) dX8_follows_1 (by decide) ?_
      refine x_icmp_lt_f (pc := 2) 11 dX8_follows_2 (by decide) (h1) ?_
      refine x_iload_n (pc := 5) 1 dX8_follows_5 rfl rfl ?_
      refine x_bipush (pc := 6) (nI 30) dX8_follows_6 (by decide) ?_
      refine x_icmp_lt_t (pc := 8) 13 dX8_follows_8 (by decide) (h2) ?_
      refine x_aload_n (pc := 13) 0 dX8_follows_13 rfl rfl ?_
      refine x_getr (pc := 14) (3) dX8_follows_14 fX8_25 (zat_b rfl rfl) rfl ?_
      refine x_callV0i (pc := 17) dX8_follows_17 lX8_207 (zat_b rfl rfl) rfl (s_drawAll d h) (Nat.le_of_ble_eq_true rfl) (Or.inl zgr) ?_
      generalize k_daL 30 (k_emt κ) = K
      by_cases h3 : i = -1
      · rw [if_pos h3]
        by_cases h4 : K 3 9 = -1
        · rw [if_pos h4, decide_eq_false (p := ¬ K 3 9 = -1) (by simpa using h4)]
          refine x_istore_n (pc := 20) 2 dX8_follows_20 rfl (by decide) rfl ?_
          refine x_iload_n (pc := 21) 1 dX8_follows_21 rfl rfl ?_
          refine x_iconst (pc := 22) (-1) dX8_follows_22 (by decide) ?_
          refine x_icmp_ne_f (pc := 23) 43 dX8_follows_23 (by decide) (h3) ?_
          refine x_iload_n (pc := 26) 2 dX8_follows_26 rfl rfl ?_
          refine x_if_eq_t (pc := 27) 35 dX8_follows_27 (by decide) (rfl) ?_
          refine x_aload_n (pc := 35) 0 dX8_follows_35 rfl rfl ?_
          refine x_getr (pc := 36) (3) dX8_follows_36 fX8_25 (zat_b rfl rfl) rfl ?_
          refine x_geti_l (pc := 39) dX8_follows_39 fX8_210 (zat_b rfl rfl) rfl rfl ?_
          refine x_iret (pc := 42) dX8_follows_42 rfl ?_
          exact ⟨rfl, rfl⟩
        · rw [if_neg h4, decide_eq_true h4]
          refine x_istore_n (pc := 20) 2 dX8_follows_20 rfl (by decide) rfl ?_
          refine x_iload_n (pc := 21) 1 dX8_follows_21 rfl rfl ?_
          refine x_iconst (pc := 22) (-1) dX8_follows_22 (by decide) ?_
          refine x_icmp_ne_f (pc := 23) 43 dX8_follows_23 (by decide) (h3) ?_
          refine x_iload_n (pc := 26) 2 dX8_follows_26 rfl rfl ?_
          refine x_if_eq_f (pc := 27) 35 dX8_follows_27 (by decide) (by decide) ?_
          refine x_bipush (pc := 30) (nI 100) dX8_follows_30 (by decide) ?_
          refine x_goto (pc := 32) 42 dX8_follows_32 (by decide) ?_
          refine x_iret (pc := 42) dX8_follows_42 rfl ?_
          exact ⟨rfl, rfl⟩
      · rw [if_neg h3]
        by_cases h4 : i < K 3 2
        · rw [if_pos h4]
          have h0 : ¬ i < 0 := by
            intro q
            have a1 : ¬ i.toInt < -1 := fun z => h1 (Int32.lt_iff_toInt_lt.mpr z)
            have a2 : i.toInt < 0 := Int32.lt_iff_toInt_lt.mp q
            exact h3 (Int32.toInt_inj.mp (show i.toInt = (-1 : Int32).toInt by rw [show (-1 : Int32).toInt = -1 by decide]; omega))
          obtain ⟨j, hj, rfl⟩ := nI_of h0
          have hj30 : j < 30 := by
            rcases Nat.lt_or_ge j 30 with q | q
            · exact q
            · exact absurd h2 (nI_nlt q (by omega))
          rw [nI_clamp (by omega)]
          refine x_istore_n (pc := 20) 2 dX8_follows_20 rfl (by decide) rfl ?_
          refine x_iload_n (pc := 21) 1 dX8_follows_21 rfl rfl ?_
          refine x_iconst (pc := 22) (-1) dX8_follows_22 (by decide) ?_
          refine x_icmp_ne_t (pc := 23) 43 dX8_follows_23 (by decide) (h3) ?_
          refine x_iload_n (pc := 43) 1 dX8_follows_43 rfl rfl ?_
          refine x_aload_n (pc := 44) 0 dX8_follows_44 rfl rfl ?_
          refine x_getr (pc := 45) (3) dX8_follows_45 fX8_25 (zat_b rfl rfl) rfl ?_
          refine x_geti_l (pc := 48) dX8_follows_48 fX8_210 (zat_b rfl rfl) rfl rfl ?_
          refine x_icmp_ge_f (pc := 51) 66 dX8_follows_51 (by decide) (Int32.not_le.mpr h4) ?_
          refine x_aload_n (pc := 54) 0 dX8_follows_54 rfl rfl ?_
          refine x_getr (pc := 55) (3) dX8_follows_55 fX8_25 (zat_b rfl rfl) rfl ?_
          refine x_getr (pc := 58) (70) dX8_follows_58 fX8_213 (zat_b rfl rfl) rfl ?_
          refine x_iload_n (pc := 61) 1 dX8_follows_61 rfl rfl ?_
          have hj62 : j < 30 := by omega
          refine x_iald_l (pc := 62) (j) dX8_follows_62 (zar_b rfl rfl rfl) rfl (by first | rfl | simp only [pk_mul, nI_add] | simp only [zon, pk_mul, nI_add]) hj62 (Nat.lt_of_lt_of_le hj62 (by decide)) ?_
          refine x_goto (pc := 63) 67 dX8_follows_63 (by decide) ?_
          refine x_iret (pc := 67) dX8_follows_67 rfl ?_
          exact ⟨rfl, rfl⟩
        · rw [if_neg h4]
          refine x_istore_n (pc := 20) 2 dX8_follows_20 rfl (by decide) rfl ?_
          refine x_iload_n (pc := 21) 1 dX8_follows_21 rfl rfl ?_
          refine x_iconst (pc := 22) (-1) dX8_follows_22 (by decide) ?_
          refine x_icmp_ne_t (pc := 23) 43 dX8_follows_23 (by decide) (h3) ?_
          refine x_iload_n (pc := 43) 1 dX8_follows_43 rfl rfl ?_
          refine x_aload_n (pc := 44) 0 dX8_follows_44 rfl rfl ?_
          refine x_getr (pc := 45) (3) dX8_follows_45 fX8_25 (zat_b rfl rfl) rfl ?_
          refine x_geti_l (pc := 48) dX8_follows_48 fX8_210 (zat_b rfl rfl) rfl rfl ?_
          refine x_icmp_ge_t (pc := 51) 66 dX8_follows_51 (by decide) (Int32.not_lt.mp h4) ?_
          refine x_iconst (pc := 66) (nI 0) dX8_follows_66 (by decide) ?_
          refine x_iret (pc := 67) dX8_follows_67 rfl ?_
          exact ⟨rfl, rfl⟩
    · rw [if_pos (Or.inr h2)]
      refine x_iload_n (pc := 0) 1 dX8_follows_0 rfl rfl ?_
      refine x_iconst (pc := 1) (-1) dX8_follows_1 (by decide) ?_
      refine x_icmp_lt_f (pc := 2) 11 dX8_follows_2 (by decide) (h1) ?_
      refine x_iload_n (pc := 5) 1 dX8_follows_5 rfl rfl ?_
      refine x_bipush (pc := 6) (nI 30) dX8_follows_6 (by decide) ?_
      refine x_icmp_lt_f (pc := 8) 13 dX8_follows_8 (by decide) (h2) ?_
      refine x_iconst (pc := 11) (nI 0) dX8_follows_11 (by decide) ?_
      refine x_iret (pc := 12) dX8_follows_12 rfl ?_
      exact ⟨rfl, rfl⟩
theorem k_latL_lt {n : Nat} : ∀ m i b c, k_latL κ n i m b = some c → i ≤ c ∧ c < i + m
  | 0, i, b, c, h => by cases h
  | m + 1, i, b, c, h => by
    unfold k_latL at h
    split at h
    · have := k_latL_lt m (i + 1) b c h; omega
    · split at h
      · cases h; omega
      · have := k_latL_lt m (i + 1) (b + 1) c h; omega
theorem s_lineA (d : Nat) (k w : Int32) {L : Nat} (hW : kW κ τ) (hL : k_logN κ = nI L) (hL4 : L ≤ 401) : zTr E (d + 3) mX8_line [.ref 0, .int k, .int w] (κ, α, τ) (some (.int (k_lineA κ k w))) (κ, α, τ) := by
  have h4 := hW.n400
  refine zM.tr (zM_of [some (.ref 0), some (.int k), some (.int w), none, none] (by decide) rfl (Nat.le_of_ble_eq_true rfl) ?_)
  unfold k_lineA
  by_cases h1 : k < 0
  · rw [if_pos (Or.inl h1)]
    refine x_iload_n (pc := 0) 1 dX8_line_0 rfl rfl ?_
    refine x_if_lt_t (pc := 1) 17 dX8_line_1 (by decide) (h1) ?_
    refine x_bipush (pc := 17) (-100) dX8_line_17 (by decide) ?_
    refine x_iret (pc := 19) dX8_line_19 rfl ?_
    exact ⟨rfl, rfl⟩
  · by_cases h2 : k < k_logN κ
    · by_cases h3 : w < -1
      · rw [if_pos (Or.inr (Or.inr h3))]
        refine x_iload_n (pc := 0) 1 dX8_line_0 rfl rfl ?_
        refine x_if_lt_f (pc := 1) 17 dX8_line_1 (by decide) (h1) ?_
        refine x_iload_n (pc := 4) 1 dX8_line_4 rfl rfl ?_
        refine x_aload_n (pc := 5) 0 dX8_line_5 rfl rfl ?_
        refine x_callV0i (pc := 6) dX8_line_6 lX8_147 (zat_b rfl rfl) rfl (s_logLength (d + 0)) (Nat.le_of_ble_eq_true rfl) (Or.inl zgr) ?_
        refine x_icmp_ge_f (pc := 9) 17 dX8_line_9 (by decide) (Int32.not_le.mpr h2) ?_
        refine x_iload_n (pc := 12) 2 dX8_line_12 rfl rfl ?_
        refine x_iconst (pc := 13) (-1) dX8_line_13 (by decide) ?_
        refine x_icmp_ge_f (pc := 14) 20 dX8_line_14 (by decide) (Int32.not_le.mpr h3) ?_
        refine x_bipush (pc := 17) (-100) dX8_line_17 (by decide) ?_
        refine x_iret (pc := 19) dX8_line_19 rfl ?_
        exact ⟨rfl, rfl⟩
      · rw [if_neg (fun q => q.elim h1 (fun q => q.elim (fun q => q h2) h3))]
        obtain ⟨j, hj, rfl⟩ := nI_of h1
        have hj4 : j < L := by
          rw [hL] at h2
          rcases Nat.lt_or_ge j L with q | q
          · exact q
          · exact absurd h2 (nI_nlt q (by omega))
        rw [nI_clamp (by omega)]
        refine x_iload_n (pc := 0) 1 dX8_line_0 rfl rfl ?_
        refine x_if_lt_f (pc := 1) 17 dX8_line_1 (by decide) (h1) ?_
        refine x_iload_n (pc := 4) 1 dX8_line_4 rfl rfl ?_
        refine x_aload_n (pc := 5) 0 dX8_line_5 rfl rfl ?_
        refine x_callV0i (pc := 6) dX8_line_6 lX8_147 (zat_b rfl rfl) rfl (s_logLength (d + 0)) (Nat.le_of_ble_eq_true rfl) (Or.inl zgr) ?_
        refine x_icmp_ge_f (pc := 9) 17 dX8_line_9 (by decide) (Int32.not_le.mpr h2) ?_
        refine x_iload_n (pc := 12) 2 dX8_line_12 rfl rfl ?_
        refine x_iconst (pc := 13) (-1) dX8_line_13 (by decide) ?_
        refine x_icmp_ge_t (pc := 14) 20 dX8_line_14 (by decide) (Int32.not_lt.mp h3) ?_
        refine x_aload_n (pc := 20) 0 dX8_line_20 rfl rfl ?_
        refine x_getr (pc := 21) (10) dX8_line_21 fX8_10 (zat_b rfl rfl) rfl ?_
        refine x_getr (pc := 24) (11) dX8_line_24 fX8_91 (zat_b rfl rfl) rfl ?_
        refine x_iload_n (pc := 27) 1 dX8_line_27 rfl rfl ?_
        refine x_callV1i (pc := 28) dX8_line_28 lX8_216 (zat_b rfl rfl) rfl (s_learntAt (d + 0) hW.n h4 (by omega)) (Nat.le_of_ble_eq_true rfl) (Or.inl zgr) ?_
        have hz : k_latL κ j 0 (kN κ) 0 = k_lat κ j := rfl
        rw [hz]
        have hlen : ∀ n, k_lsz κ j = n → n ≤ 30 → (∀ i, ¬ w = -1 → w = nI i → i < n → ∃ c, k_lat κ j = some c ∧ c < kN κ ∧ i < kLn κ c) → zX E (d + 3) mX8_line 52 [some (.ref 0), some (.int (nI j)), some (.int w), some (.int (zon (k_lat κ j))), none] [.int (nI n)] (κ, α, τ) (fun r ν => r = some (.int (if w = -1 then nI (k_lsz κ j) else if w < nI (k_lsz κ j) then (match k_lat κ j with | none => -100 | some c => κ 16 (kS κ c + w.toNatClampNeg)) else -100)) ∧ ν = (κ, α, τ)) := by
          intro n hn hn30 hc
          rw [hn]
          by_cases h5 : w = -1
          · rw [if_pos h5]
            refine x_istore (pc := 52) dX8_line_52 (by decide) rfl ?_
            refine x_iload_n (pc := 54) 2 dX8_line_54 rfl rfl ?_
            refine x_iconst (pc := 55) (-1) dX8_line_55 (by decide) ?_
            refine x_icmp_ne_f (pc := 56) 62 dX8_line_56 (by decide) (h5) ?_
            refine x_iload (pc := 59) dX8_line_59 rfl ?_
            refine x_iret (pc := 61) dX8_line_61 rfl ?_
            exact ⟨rfl, rfl⟩
          · rw [if_neg h5]
            by_cases h6 : w < nI n
            · rw [if_pos h6]
              have h0 : ¬ w < 0 := by
                intro q
                have a1 : ¬ w.toInt < -1 := fun z => h3 (Int32.lt_iff_toInt_lt.mpr z)
                have a2 : w.toInt < 0 := Int32.lt_iff_toInt_lt.mp q
                exact h5 (Int32.toInt_inj.mp (show w.toInt = (-1 : Int32).toInt by rw [show (-1 : Int32).toInt = -1 by decide]; omega))
              obtain ⟨i, hi, rfl⟩ := nI_of h0
              have hin : i < n := by
                rcases Nat.lt_or_ge i n with q | q
                · exact q
                · exact absurd h6 (nI_nlt q (by omega))
              obtain ⟨c, c1, c2, c3⟩ := hc i h5 rfl hin
              rw [c1]
              show zX E (d + 3) mX8_line 52 [some (.ref 0), some (.int (nI j)), some (.int (nI i)), some (.int (nI c)), none] [.int (nI n)] (κ, α, τ) (fun r ν => r = some (.int (κ 16 (kS κ c + (nI i).toNatClampNeg))) ∧ ν = (κ, α, τ))
              rw [nI_clamp (by omega)]
              refine x_istore (pc := 52) dX8_line_52 (by decide) rfl ?_
              refine x_iload_n (pc := 54) 2 dX8_line_54 rfl rfl ?_
              refine x_iconst (pc := 55) (-1) dX8_line_55 (by decide) ?_
              refine x_icmp_ne_t (pc := 56) 62 dX8_line_56 (by decide) (h5) ?_
              refine x_iload_n (pc := 62) 2 dX8_line_62 rfl rfl ?_
              refine x_iload (pc := 63) dX8_line_63 rfl ?_
              refine x_icmp_ge_f (pc := 65) 83 dX8_line_65 (by decide) (Int32.not_le.mpr h6) ?_
              refine x_aload_n (pc := 68) 0 dX8_line_68 rfl rfl ?_
              refine x_getr (pc := 69) (10) dX8_line_69 fX8_10 (zat_b rfl rfl) rfl ?_
              refine x_getr (pc := 72) (11) dX8_line_72 fX8_91 (zat_b rfl rfl) rfl ?_
              refine x_iload_n (pc := 75) 3 dX8_line_75 rfl rfl ?_
              refine x_iload_n (pc := 76) 2 dX8_line_76 rfl rfl ?_
              refine x_callV2i (pc := 77) dX8_line_77 lX8_181 (zat_b rfl rfl) rfl (s_literalOf (d + 1) hW c2 c3) (Nat.le_of_ble_eq_true rfl) (Or.inl zgr) ?_
              refine x_goto (pc := 80) 85 dX8_line_80 (by decide) ?_
              refine x_iret (pc := 85) dX8_line_85 rfl ?_
              exact ⟨rfl, rfl⟩
            · rw [if_neg h6]
              refine x_istore (pc := 52) dX8_line_52 (by decide) rfl ?_
              refine x_iload_n (pc := 54) 2 dX8_line_54 rfl rfl ?_
              refine x_iconst (pc := 55) (-1) dX8_line_55 (by decide) ?_
              refine x_icmp_ne_t (pc := 56) 62 dX8_line_56 (by decide) (h5) ?_
              refine x_iload_n (pc := 62) 2 dX8_line_62 rfl rfl ?_
              refine x_iload (pc := 63) dX8_line_63 rfl ?_
              refine x_icmp_ge_t (pc := 65) 83 dX8_line_65 (by decide) (Int32.not_lt.mp h6) ?_
              refine x_bipush (pc := 83) (-100) dX8_line_83 (by decide) ?_
              refine x_iret (pc := 85) dX8_line_85 rfl ?_
              exact ⟨rfl, rfl⟩
        cases hc : k_lat κ j with
        | none =>
          rw [hc] at hlen
          refine x_istore_n (pc := 31) 3 dX8_line_31 rfl (by decide) rfl ?_
          refine x_iload_n (pc := 32) 3 dX8_line_32 rfl rfl ?_
          refine x_iconst (pc := 33) (-1) dX8_line_33 (by decide) ?_
          refine x_icmp_ne_f (pc := 34) 41 dX8_line_34 (by decide) (rfl) ?_
          refine x_iconst (pc := 37) (nI 0) dX8_line_37 (by decide) ?_
          refine x_goto (pc := 38) 52 dX8_line_38 (by decide) ?_
          exact hlen 0 (by unfold k_lsz; rw [hc]) (by omega) (fun i _ _ q => by omega)
        | some c =>
          rw [hc] at hlen
          have c2 : c < kN κ := by have := (k_latL_lt (κ := κ) (n := j) _ _ _ _ hc).2; omega
          have c30 := hW.l30 c2
          have hne : ¬ nI c = -1 := fun q => nI_pos (n := c) (by omega) (by rw [q]; decide)
          show zX E (d + 3) mX8_line 31 _ [.int (nI c)] _ _
          refine x_istore_n (pc := 31) 3 dX8_line_31 rfl (by decide) rfl ?_
          refine x_iload_n (pc := 32) 3 dX8_line_32 rfl rfl ?_
          refine x_iconst (pc := 33) (-1) dX8_line_33 (by decide) ?_
          refine x_icmp_ne_t (pc := 34) 41 dX8_line_34 (by decide) (hne) ?_
          refine x_aload_n (pc := 41) 0 dX8_line_41 rfl rfl ?_
          refine x_getr (pc := 42) (10) dX8_line_42 fX8_10 (zat_b rfl rfl) rfl ?_
          refine x_getr (pc := 45) (11) dX8_line_45 fX8_91 (zat_b rfl rfl) rfl ?_
          refine x_iload_n (pc := 48) 3 dX8_line_48 rfl rfl ?_
          refine x_callV1i (pc := 49) dX8_line_49 lX8_169 (zat_b rfl rfl) rfl (s_lengthOf (d + 1) hW c2) (Nat.le_of_ble_eq_true rfl) (Or.inl zgr) ?_
          exact hlen (kLn κ c) (by unfold k_lsz; rw [hc]) c30 (fun i _ _ q => ⟨c, rfl, c2, q⟩)
    · rw [if_pos (Or.inr (Or.inl h2))]
      refine x_iload_n (pc := 0) 1 dX8_line_0 rfl rfl ?_
      refine x_if_lt_f (pc := 1) 17 dX8_line_1 (by decide) (h1) ?_
      refine x_iload_n (pc := 4) 1 dX8_line_4 rfl rfl ?_
      refine x_aload_n (pc := 5) 0 dX8_line_5 rfl rfl ?_
      refine x_callV0i (pc := 6) dX8_line_6 lX8_147 (zat_b rfl rfl) rfl (s_logLength (d + 0)) (Nat.le_of_ble_eq_true rfl) (Or.inl zgr) ?_
      refine x_icmp_ge_t (pc := 9) 17 dX8_line_9 (by decide) (Int32.not_lt.mp h2) ?_
      refine x_bipush (pc := 17) (-100) dX8_line_17 (by decide) ?_
      refine x_iret (pc := 19) dX8_line_19 rfl ?_
      exact ⟨rfl, rfl⟩
theorem s_proof (d : Nat) (b : Bool) (hb : κ 10 7 = zbo b) (hN : κ 11 5 = nI (kN κ)) (hN4 : kN κ ≤ 400) : zTr E (d + 4) mX8_proof [.ref 0] (κ, α, τ) (some (.int (k_first_ref κ).1)) ((k_first_ref κ).2, α, τ) := by
  refine zM.tr (zM_of [some (.ref 0)] (by decide) rfl (Nat.le_of_ble_eq_true rfl) ?_)
  refine x_aload_n (pc := 0) 0 dX8_proof_0 rfl rfl ?_
  refine x_getr (pc := 1) (4) dX8_proof_1 fX8_32 (zat_b rfl rfl) rfl ?_
  refine x_aload_n (pc := 4) 0 dX8_proof_4 rfl rfl ?_
  refine x_getr (pc := 5) (10) dX8_proof_5 fX8_10 (zat_b rfl rfl) rfl ?_
  refine x_callV1i (pc := 8) dX8_proof_8 lX8_219 (zat_b rfl rfl) rfl (s_firstRefused d b hb hN hN4) (Nat.le_of_ble_eq_true rfl) (Or.inl zgr) ?_
  refine x_iret (pc := 11) dX8_proof_11 rfl ?_
  exact ⟨rfl, rfl⟩
theorem s_refuteA (d : Nat) {L : Nat} (hN : κ 11 5 = nI (kN κ)) (hN4 : kN κ ≤ 400) (hL : κ 5 5 = nI L) (hL4 : L ≤ 400) : zTr E (d + 9) mX8_refute [.ref 0] (κ, α, τ) (some (.int (k_refute κ).1)) ((k_refute κ).2, α, τ) := by
  refine zM.tr (zM_of [some (.ref 0), none] (by decide) rfl (Nat.le_of_ble_eq_true rfl) ?_)
  unfold k_refute
  refine x_aload_n (pc := 0) 0 dX8_refute_0 rfl rfl ?_
  refine x_getr (pc := 1) (4) dX8_refute_1 fX8_32 (zat_b rfl rfl) rfl ?_
  refine x_aload_n (pc := 4) 0 dX8_refute_4 rfl rfl ?_
  refine x_getr (pc := 5) (5) dX8_refute_5 fX8_39 (zat_b rfl rfl) rfl ?_
  refine x_aload_n (pc := 8) 0 dX8_refute_8 rfl rfl ?_
  refine x_getr (pc := 9) (10) dX8_refute_9 fX8_10 (zat_b rfl rfl) rfl ?_
  refine x_callV2i (pc := 12) dX8_refute_12 lX8_223 (zat_b rfl rfl) rfl (s_log d hN hN4 hL hL4) (Nat.le_of_ble_eq_true rfl) (Or.inl zgr) ?_
  refine x_istore_n (pc := 15) 1 dX8_refute_15 rfl (by decide) rfl ?_
  refine x_aload_n (pc := 16) 0 dX8_refute_16 rfl rfl ?_
  refine x_getr (pc := 17) (5) dX8_refute_17 fX8_39 (zat_b rfl rfl) rfl ?_
  refine x_iconst (pc := 20) (nI 0) dX8_refute_20 (by decide) ?_
  refine x_puti_l (pc := 21) dX8_refute_21 pX8_59 (zat_b rfl rfl) rfl rfl ?_
  generalize k_log κ = X
  by_cases h : X.1 = -1
  · rw [if_pos h]
    refine x_iload_n (pc := 24) 1 dX8_refute_24 rfl rfl ?_
    refine x_iconst (pc := 25) (-1) dX8_refute_25 (by decide) ?_
    refine x_icmp_eq_t (pc := 26) 51 dX8_refute_26 (by decide) (h) ?_
    refine x_iload_n (pc := 51) 1 dX8_refute_51 rfl rfl ?_
    refine x_iret (pc := 52) dX8_refute_52 rfl ?_
    exact ⟨rfl, rfl⟩
  · rw [if_neg h]
    refine x_iload_n (pc := 24) 1 dX8_refute_24 rfl rfl ?_
    refine x_iconst (pc := 25) (-1) dX8_refute_25 (by decide) ?_
    refine x_icmp_eq_f (pc := 26) 51 dX8_refute_26 (by decide) (h) ?_
    refine x_aload_n (pc := 29) 0 dX8_refute_29 rfl rfl ?_
    refine x_getr (pc := 30) (10) dX8_refute_30 fX8_10 (zat_b rfl rfl) rfl ?_
    refine x_aload_n (pc := 33) 0 dX8_refute_33 rfl rfl ?_
    refine x_getr (pc := 34) (4) dX8_refute_34 fX8_32 (zat_b rfl rfl) rfl ?_
    refine x_geti_l (pc := 37) dX8_refute_37 fX8_227 (zat_b rfl rfl) rfl rfl ?_
    rw [zup_p (by decide)]
    by_cases h2 : X.2 4 5 = 0
    · rw [if_pos h2]
      refine x_if_eq_t (pc := 40) 47 dX8_refute_40 (by decide) (h2) ?_
      refine x_iconst (pc := 47) (nI 0) dX8_refute_47 (by decide) ?_
      refine x_puti_l (pc := 48) dX8_refute_48 pX8_230 (zat_b rfl rfl) rfl rfl ?_
      refine x_iload_n (pc := 51) 1 dX8_refute_51 rfl rfl ?_
      refine x_iret (pc := 52) dX8_refute_52 rfl ?_
      exact ⟨rfl, rfl⟩
    · rw [if_neg h2]
      refine x_if_eq_f (pc := 40) 47 dX8_refute_40 (by decide) (h2) ?_
      refine x_iconst (pc := 43) (nI 1) dX8_refute_43 (by decide) ?_
      refine x_goto (pc := 44) 48 dX8_refute_44 (by decide) ?_
      refine x_puti_l (pc := 48) dX8_refute_48 pX8_230 (zat_b rfl rfl) rfl rfl ?_
      refine x_iload_n (pc := 51) 1 dX8_refute_51 rfl rfl ?_
      refine x_iret (pc := 52) dX8_refute_52 rfl ?_
      exact ⟨rfl, rfl⟩
theorem s_closed (d : Nat) : zTr E (d + 1) mX8_closed [.ref 0] (κ, α, τ) (some (.int (κ 10 16))) (κ, α, τ) := by
  refine zM.tr (zM_of [some (.ref 0)] (by decide) rfl (Nat.le_of_ble_eq_true rfl) ?_)
  refine x_aload_n (pc := 0) 0 dX8_closed_0 rfl rfl ?_
  refine x_getr (pc := 1) (10) dX8_closed_1 fX8_10 (zat_b rfl rfl) rfl ?_
  refine x_geti_l (pc := 4) dX8_closed_4 fX8_230 (zat_b rfl rfl) rfl rfl ?_
  refine x_iret (pc := 7) dX8_closed_7 rfl ?_
  exact ⟨rfl, rfl⟩
/-- models, fixed: the worlds behind the call -/
def k_wK (κ : Nat → Nat → Int32) : Nat → Nat → Int32 := if kV κ ≤ 12 then zup κ 7 1 (nI (k_use (kV κ))) else κ
def k_wT (κ : Nat → Nat → Int32) (τ : (Nat → Nat → Int64) × (Nat → Nat)) : (Nat → Nat → Int64) × (Nat → Nat) := if kV κ ≤ 12 then k_sift κ τ else τ
def k_models (κ : Nat → Nat → Int32) (τ : (Nat → Nat → Int64) × (Nat → Nat)) : Int32 := if kV κ ≤ 12 then k_many (k_sift κ τ) (k_use (kV κ)) else -1
def k_fixed (κ : Nat → Nat → Int32) (τ : (Nat → Nat → Int64) × (Nat → Nat)) (so : Bool) : Int32 := if kV κ ≤ 12 then (if k_many (k_sift κ τ) (k_use (kV κ)) = 0 then -1 else k_allA (k_sift κ τ) (k_use (kV κ)) (kV κ) so) else -1
theorem k_wgr {κ' : Nat → Nat → Int32} : zg (κ', α, k_sift κ τ) 5 = zg (κ, α, τ) 5 := congrArg (fun f => f 5) (k_sift_2 (κ := κ) (τ := τ))
theorem s_models (d : Nat) (hV : κ 10 4 = nI (kV κ)) (hV30 : kV κ ≤ 30) (hN : κ 11 5 = nI (kN κ)) (hN4 : kN κ ≤ 400) : zTr E (d + 5) mX8_models [.ref 0] (κ, α, τ) (some (.int (k_models κ τ))) (k_wK κ, α, k_wT κ τ) := by
  refine zM.tr (zM_of [some (.ref 0)] (by decide) rfl (Nat.le_of_ble_eq_true rfl) ?_)
  unfold k_models k_wK k_wT
  refine x_aload_n (pc := 0) 0 dX8_models_0 rfl rfl ?_
  refine x_getr (pc := 1) (10) dX8_models_1 fX8_10 (zat_b rfl rfl) rfl ?_
  refine x_geti_l (pc := 4) dX8_models_4 fX8_77 (zat_b rfl rfl) rfl rfl ?_
  rw [hV]
  by_cases h : kV κ ≤ 12
  · rw [if_pos h, if_pos h, if_pos h]
    refine x_bipush (pc := 7) (nI 12) dX8_models_7 (by decide) ?_
    refine x_icmp_le_t (pc := 9) 14 dX8_models_9 (by decide) (nI_le (b := 12) h (by omega)) ?_
    refine x_aload_n (pc := 14) 0 dX8_models_14 rfl rfl ?_
    refine x_getr (pc := 15) (7) dX8_models_15 fX8_55 (zat_b rfl rfl) rfl ?_
    refine x_aload_n (pc := 18) 0 dX8_models_18 rfl rfl ?_
    refine x_getr (pc := 19) (10) dX8_models_19 fX8_10 (zat_b rfl rfl) rfl ?_
    refine x_callV1v (pc := 22) dX8_models_22 lX8_233 (zat_b rfl rfl) rfl (s_sift d hV h hN hN4) (Nat.le_of_ble_eq_true rfl) (Or.inl k_wgr) ?_
    refine x_aload_n (pc := 25) 0 dX8_models_25 rfl rfl ?_
    refine x_getr (pc := 26) (7) dX8_models_26 fX8_55 (zat_b rfl rfl) rfl ?_
    refine x_callV0i (pc := 29) dX8_models_29 lX8_236 (zat_b rfl rfl) rfl (s_many (d + 2) (U := k_use (kV κ)) (zup_same _ _ _ _) (k_use_tab (kV κ) (by omega)).2) (Nat.le_of_ble_eq_true rfl) (Or.inl zgr) ?_
    refine x_iret (pc := 32) dX8_models_32 rfl ?_
    exact ⟨rfl, rfl⟩
  · rw [if_neg h, if_neg h, if_neg h]
    refine x_bipush (pc := 7) (nI 12) dX8_models_7 (by decide) ?_
    refine x_icmp_le_f (pc := 9) 14 dX8_models_9 (by decide) (nI_ge (a := 12) (by omega) (by omega)) ?_
    refine x_iconst (pc := 12) (-1) dX8_models_12 (by decide) ?_
    refine x_iret (pc := 13) dX8_models_13 rfl ?_
    exact ⟨rfl, rfl⟩
theorem s_fixed (d : Nat) (so : Bool) (hV : κ 10 4 = nI (kV κ)) (hV30 : kV κ ≤ 30) (hN : κ 11 5 = nI (kN κ)) (hN4 : kN κ ≤ 400) : zTr E (d + 5) mX8_fixed [.ref 0, .int (zbo so)] (κ, α, τ) (some (.int (k_fixed κ τ so))) (k_wK κ, α, k_wT κ τ) := by
  refine zM.tr (zM_of [some (.ref 0), some (.int (zbo so))] (by decide) rfl (Nat.le_of_ble_eq_true rfl) ?_)
  unfold k_fixed k_wK k_wT
  refine x_aload_n (pc := 0) 0 dX8_fixed_0 rfl rfl ?_
  refine x_getr (pc := 1) (10) dX8_fixed_1 fX8_10 (zat_b rfl rfl) rfl ?_
  refine x_geti_l (pc := 4) dX8_fixed_4 fX8_77 (zat_b rfl rfl) rfl rfl ?_
  rw [hV]
  by_cases h : kV κ ≤ 12
  · rw [if_pos h, if_pos h, if_pos h]
    refine x_bipush (pc := 7) (nI 12) dX8_fixed_7 (by decide) ?_
    refine x_icmp_le_t (pc := 9) 14 dX8_fixed_9 (by decide) (nI_le (b := 12) h (by omega)) ?_
    refine x_aload_n (pc := 14) 0 dX8_fixed_14 rfl rfl ?_
    refine x_getr (pc := 15) (7) dX8_fixed_15 fX8_55 (zat_b rfl rfl) rfl ?_
    refine x_aload_n (pc := 18) 0 dX8_fixed_18 rfl rfl ?_
    refine x_getr (pc := 19) (10) dX8_fixed_19 fX8_10 (zat_b rfl rfl) rfl ?_
    refine x_callV1v (pc := 22) dX8_fixed_22 lX8_233 (zat_b rfl rfl) rfl (s_sift d hV h hN hN4) (Nat.le_of_ble_eq_true rfl) (Or.inl k_wgr) ?_
    refine x_aload_n (pc := 25) 0 dX8_fixed_25 rfl rfl ?_
    refine x_getr (pc := 26) (7) dX8_fixed_26 fX8_55 (zat_b rfl rfl) rfl ?_
    refine x_callV0i (pc := 29) dX8_fixed_29 lX8_236 (zat_b rfl rfl) rfl (s_many (d + 2) (U := k_use (kV κ)) (zup_same _ _ _ _) (k_use_tab (kV κ) (by omega)).2) (Nat.le_of_ble_eq_true rfl) (Or.inl zgr) ?_
    by_cases h2 : k_many (k_sift κ τ) (k_use (kV κ)) = 0
    · rw [if_pos h2]
      refine x_if_ne_f (pc := 32) 39 dX8_fixed_32 (by decide) (h2) ?_
      refine x_iconst (pc := 35) (-1) dX8_fixed_35 (by decide) ?_
      refine x_goto (pc := 36) 54 dX8_fixed_36 (by decide) ?_
      refine x_iret (pc := 54) dX8_fixed_54 rfl ?_
      exact ⟨rfl, rfl⟩
    · rw [if_neg h2]
      refine x_if_ne_t (pc := 32) 39 dX8_fixed_32 (by decide) (h2) ?_
      refine x_aload_n (pc := 39) 0 dX8_fixed_39 rfl rfl ?_
      refine x_getr (pc := 40) (7) dX8_fixed_40 fX8_55 (zat_b rfl rfl) rfl ?_
      refine x_aload_n (pc := 43) 0 dX8_fixed_43 rfl rfl ?_
      refine x_getr (pc := 44) (10) dX8_fixed_44 fX8_10 (zat_b rfl rfl) rfl ?_
      refine x_geti_l (pc := 47) dX8_fixed_47 fX8_77 (zat_b rfl rfl) rfl rfl ?_
      rw [zup_p (by decide), hV]
      refine x_iload_n (pc := 50) 1 dX8_fixed_50 rfl rfl ?_
      refine x_callV2i (pc := 51) dX8_fixed_51 lX8_239 (zat_b rfl rfl) rfl (s_allA (d + 1) (U := k_use (kV κ)) so h (zup_same _ _ _ _) (k_use_tab (kV κ) (by omega)).2) (Nat.le_of_ble_eq_true rfl) (Or.inl zgr) ?_
      refine x_iret (pc := 54) dX8_fixed_54 rfl ?_
      exact ⟨rfl, rfl⟩
  · rw [if_neg h, if_neg h, if_neg h]
    refine x_bipush (pc := 7) (nI 12) dX8_fixed_7 (by decide) ?_
    refine x_icmp_le_f (pc := 9) 14 dX8_fixed_9 (by decide) (nI_ge (a := 12) (by omega) (by omega)) ?_
    refine x_iconst (pc := 12) (-1) dX8_fixed_12 (by decide) ?_
    refine x_iret (pc := 13) dX8_fixed_13 rfl ?_
    exact ⟨rfl, rfl⟩
end O2
