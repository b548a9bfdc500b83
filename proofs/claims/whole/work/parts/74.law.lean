/-! the law's loop, over an invariant -/
abbrev mL_law : zY := (yL_law, cL_law, 7, some .boolean)
abbrev zInv : Type := Nat → (Nat → Nat → Int32) → (Nat → Nat → Int32) → ((Nat → Nat → Int64) × (Nat → Nat)) → Prop
/-- one call of both answers alike, and the invariant goes on -/
def zCall (E : zEnv) (zI : zInv) (k : Nat) (κ α : Nat → Nat → Int32) (τ : (Nat → Nat → Int64) × (Nat → Nat)) (yc yr : zY) (as : List Value) : Prop := ∃ (r : Int32) (κ' α' : Nat → Nat → Int32) (τ' : (Nat → Nat → Int64) × (Nat → Nat)), (∀ D, 300 ≤ D → zTr E D yc (.ref 0 :: as) (κ, α, τ) (some (.int r)) (κ', α, τ')) ∧ (∀ D, 300 ≤ D → zTr E D yr (.ref 100 :: as) (κ', α, τ') (some (.int r)) (κ', α', τ')) ∧ zI (k + 1) κ' α' τ'
/-- clause: it answers, or throws -/
def zClau (E : zEnv) (zI : zInv) (k : Nat) (κ α : Nat → Nat → Int32) (τ : (Nat → Nat → Int64) × (Nat → Nat)) (a b : Int32) : Prop :=
  (∃ (v : Int32) (α' : Nat → Nat → Int32), (∀ D, 300 ≤ D → zTrW E D mL_clause zhh [.ref 0, .int a, .int b, .ref 130] (κ, α, τ) (some (.int (nI 0))) (zwl (κ, α, τ) 130 0 v.toInt64)) ∧ (∀ D, 300 ≤ D → zTr E D mX9_clause [.ref 100, .int a, .int b] (zwl (κ, α, τ) 130 0 v.toInt64) (some (.int v)) (κ, α', (zwl (κ, α, τ) 130 0 v.toInt64).2.2)) ∧ α' 100 0 = nI 0 ∧ zI (k + 1) κ α' (zwl (κ, α, τ) 130 0 v.toInt64).2.2) ∨
  (∃ (v : Int32) (α' : Nat → Nat → Int32), (∀ D, 300 ≤ D → zTrW E D mL_clause zhh [.ref 0, .int a, .int b, .ref 130] (κ, α, τ) (some (.int (nI 1))) (κ, α, k_thT τ)) ∧ (∀ D, 300 ≤ D → zTr E D mX9_clause [.ref 100, .int a, .int b] (κ, α, k_thT τ) (some (.int v)) (κ, α', k_thT τ)) ∧ α' 100 0 = nI 1 ∧ zI (k + 1) κ α' (k_thT τ))
def zStep (E : zEnv) (zI : zInv) (k : Nat) (κ α : Nat → Nat → Int32) (τ : (Nat → Nat → Int64) × (Nat → Nat)) : Prop :=
  (∀ a b c e f : Int32, zCall E zI k κ α τ mX8_feed mX9_feed [.int a, .int b, .int c, .int e, .int f]) ∧
  (∀ a : Int32, zCall E zI k κ α τ mX8_end mX9_end [.int a]) ∧
  (zCall E zI k κ α τ mX8_tell mX9_tell []) ∧
  (zCall E zI k κ α τ mX8_fault mX9_fault []) ∧
  (∀ a : Int32, zCall E zI k κ α τ mX8_grow mX9_grow [.int a]) ∧
  (∀ a : Int32, zCall E zI k κ α τ mX8_add mX9_add [.int a]) ∧
  (zCall E zI k κ α τ mX8_close mX9_close []) ∧
  (∀ a : Int32, zCall E zI k κ α τ mX8_assume mX9_assume [.int a]) ∧
  (zCall E zI k κ α τ mX8_free mX9_free []) ∧
  (∀ a : Int32, zCall E zI k κ α τ mX8_phase mX9_phase [.int a]) ∧
  (∀ a : Int32, zCall E zI k κ α τ mX8_unit mX9_unit [.int a]) ∧
  (∀ a : Int32, zCall E zI k κ α τ mX8_forget mX9_forget [.int a]) ∧
  (∀ a : Int32, zCall E zI k κ α τ mX8_keep mX9_keep [.int a]) ∧
  (∀ a : Int32, zCall E zI k κ α τ mX8_back mX9_back [.int a]) ∧
  (∀ a : Int32, zCall E zI k κ α τ mX8_solve mX9_solve [.int a]) ∧
  (∀ a : Int32, zCall E zI k κ α τ mX8_count mX9_count [.int a]) ∧
  (∀ a b : Int32, zClau E zI k κ α τ a b) ∧
  (∀ a : Int32, zCall E zI k κ α τ mX8_assumption mX9_assumption [.int a]) ∧
  (∀ a : Int32, zCall E zI k κ α τ mX8_model mX9_model [.int a]) ∧
  (zCall E zI k κ α τ mX8_core mX9_core []) ∧
  (∀ a b : Int32, zCall E zI k κ α τ mX8_variable mX9_variable [.int a, .int b]) ∧
  (∀ a : Int32, zCall E zI k κ α τ mX8_follows mX9_follows [.int a]) ∧
  (∀ a b : Int32, zCall E zI k κ α τ mX8_line mX9_line [.int a, .int b]) ∧
  (zCall E zI k κ α τ mX8_proof mX9_proof []) ∧
  (zCall E zI k κ α τ mX8_refute mX9_refute []) ∧
  (zCall E zI k κ α τ mX8_closed mX9_closed []) ∧
  (zCall E zI k κ α τ mX8_models mX9_models []) ∧
  (∀ so : Bool, zCall E zI k κ α τ mX8_fixed mX9_fixed [.int (zbo so)])
section LL
variable {E : zEnv} {κ α : Nat → Nat → Int32} {τ : (Nat → Nat → Int64) × (Nat → Nat)} {L : Nat} {xs : Nat → Int32} {zI : zInv}
def zLs (i : Int32) (a b : Option Value) : List (Option Value) := [some (.ref 144), some (.ref 0), some (.ref 100), some (.ref 130), some (.int i), a, b]
theorem zl_ok {μ : zMem} {i : Nat} {a b : Option Value} {rest : List Value} (h : (zlB a && zlB b && (rest.map some).all zlB) = true) : ∀ p, (some (Value.ref p) ∈ zLs (nI i) a b ∨ Value.ref p ∈ rest) → (p ∈ zpl μ ∧ zstab p = true) ∨ p = 144 := zlB_ok (by
  rw [Bool.and_eq_true, Bool.and_eq_true] at h
  show (([some (.ref 144), some (.ref 0), some (.ref 100), some (.ref 130), some (.int (nI i)), a, b] : List (Option Value)).all zlB && (rest.map some).all zlB) = true
  simp only [List.all_cons, List.all_nil, h.1.1, h.1.2, h.2]
  rfl)
/-- the end of a call: i is 6 more -/
theorem l_next {k : Nat} {a b : Option Value} {P : Option Value → zMem → Prop} (hk : 6 * k < 2 ^ 30) (kk : zX E 1001 mL_law 23 (zLs (nI (6 * (k + 1))) a b) [] (κ, α, τ) P) : zX E 1001 mL_law 891 (zLs (nI (6 * k)) a b) [] (κ, α, τ) P := by
  refine x_iinc (pc := 891) (nI (6 * (k + 1))) dL_law_891 rfl (show nI (6 * k) + Int32.ofInt 6 = _ from by rw [show Int32.ofInt 6 = nI 6 from rfl, nI_add, show 6 * k + 6 = 6 * (k + 1) by omega]) (by decide) rfl ?_
  exact x_goto (pc := 894) 23 dL_law_894 (by decide) kk
theorem lw_c0 {k : Nat} {a b : Option Value} {P : Option Value → zMem → Prop} (hX : zXs E L xs) (hk : 6 * k + 6 ≤ L) (hab : (zlB a && zlB b) = true) (h : zCall E zI k κ α τ mX8_feed mX9_feed [.int (xs (6 * k + 1)), .int (xs (6 * k + 2)), .int (xs (6 * k + 3)), .int (xs (6 * k + 4)), .int (xs (6 * k + 5))]) (kk : ∀ κ' α' τ', zI (k + 1) κ' α' τ' → zX E 1001 mL_law 23 (zLs (nI (6 * (k + 1))) a b) [] (κ', α', τ') P) : zX E 1001 mL_law 168 (zLs (nI (6 * k)) a b) [] (κ, α, τ) P := by
  obtain ⟨r, κ', α', τ', t1, t2, hI⟩ := h
  have hL := hX.2
  refine x_aload_n (pc := 168) 1 dL_law_168 rfl rfl ?_
  refine x_aload_n (pc := 169) 0 dL_law_169 rfl rfl ?_
  refine x_iload (pc := 170) dL_law_170 rfl ?_
  refine x_iconst (pc := 172) (nI 1) dL_law_172 (by decide) ?_
  refine x_iadd (pc := 173) dL_law_173 ?_
  refine x_sld (pc := 174) (6 * k + 1) hX (nI_add _ _) (by omega) dL_law_174 ?_
  refine x_aload_n (pc := 175) 0 dL_law_175 rfl rfl ?_
  refine x_iload (pc := 176) dL_law_176 rfl ?_
  refine x_iconst (pc := 178) (nI 2) dL_law_178 (by decide) ?_
  refine x_iadd (pc := 179) dL_law_179 ?_
  refine x_sld (pc := 180) (6 * k + 2) hX (nI_add _ _) (by omega) dL_law_180 ?_
  refine x_aload_n (pc := 181) 0 dL_law_181 rfl rfl ?_
  refine x_iload (pc := 182) dL_law_182 rfl ?_
  refine x_iconst (pc := 184) (nI 3) dL_law_184 (by decide) ?_
  refine x_iadd (pc := 185) dL_law_185 ?_
  refine x_sld (pc := 186) (6 * k + 3) hX (nI_add _ _) (by omega) dL_law_186 ?_
  refine x_aload_n (pc := 187) 0 dL_law_187 rfl rfl ?_
  refine x_iload (pc := 188) dL_law_188 rfl ?_
  refine x_iconst (pc := 190) (nI 4) dL_law_190 (by decide) ?_
  refine x_iadd (pc := 191) dL_law_191 ?_
  refine x_sld (pc := 192) (6 * k + 4) hX (nI_add _ _) (by omega) dL_law_192 ?_
  refine x_aload_n (pc := 193) 0 dL_law_193 rfl rfl ?_
  refine x_iload (pc := 194) dL_law_194 rfl ?_
  refine x_iconst (pc := 196) (nI 5) dL_law_196 (by decide) ?_
  refine x_iadd (pc := 197) dL_law_197 ?_
  refine x_sld (pc := 198) (6 * k + 5) hX (nI_add _ _) (by omega) dL_law_198 ?_
  refine x_lawV (pc := 199) [.int (xs (6 * k + 1)), .int (xs (6 * k + 2)), .int (xs (6 * k + 3)), .int (xs (6 * k + 4)), .int (xs (6 * k + 5))] (rest := []) dL_law_199 lL_19 rfl (zat_b rfl rfl) rfl (t1 1000 (by decide)) (Nat.le_of_ble_eq_true rfl) (zl_ok (by rw [hab]; rfl)) ?_
  refine x_aload_n (pc := 202) 2 dL_law_202 rfl rfl ?_
  refine x_aload_n (pc := 203) 0 dL_law_203 rfl rfl ?_
  refine x_iload (pc := 204) dL_law_204 rfl ?_
  refine x_iconst (pc := 206) (nI 1) dL_law_206 (by decide) ?_
  refine x_iadd (pc := 207) dL_law_207 ?_
  refine x_sld (pc := 208) (6 * k + 1) hX (nI_add _ _) (by omega) dL_law_208 ?_
  refine x_aload_n (pc := 209) 0 dL_law_209 rfl rfl ?_
  refine x_iload (pc := 210) dL_law_210 rfl ?_
  refine x_iconst (pc := 212) (nI 2) dL_law_212 (by decide) ?_
  refine x_iadd (pc := 213) dL_law_213 ?_
  refine x_sld (pc := 214) (6 * k + 2) hX (nI_add _ _) (by omega) dL_law_214 ?_
  refine x_aload_n (pc := 215) 0 dL_law_215 rfl rfl ?_
  refine x_iload (pc := 216) dL_law_216 rfl ?_
  refine x_iconst (pc := 218) (nI 3) dL_law_218 (by decide) ?_
  refine x_iadd (pc := 219) dL_law_219 ?_
  refine x_sld (pc := 220) (6 * k + 3) hX (nI_add _ _) (by omega) dL_law_220 ?_
  refine x_aload_n (pc := 221) 0 dL_law_221 rfl rfl ?_
  refine x_iload (pc := 222) dL_law_222 rfl ?_
  refine x_iconst (pc := 224) (nI 4) dL_law_224 (by decide) ?_
  refine x_iadd (pc := 225) dL_law_225 ?_
  refine x_sld (pc := 226) (6 * k + 4) hX (nI_add _ _) (by omega) dL_law_226 ?_
  refine x_aload_n (pc := 227) 0 dL_law_227 rfl rfl ?_
  refine x_iload (pc := 228) dL_law_228 rfl ?_
  refine x_iconst (pc := 230) (nI 5) dL_law_230 (by decide) ?_
  refine x_iadd (pc := 231) dL_law_231 ?_
  refine x_sld (pc := 232) (6 * k + 5) hX (nI_add _ _) (by omega) dL_law_232 ?_
  refine x_lawV (pc := 233) [.int (xs (6 * k + 1)), .int (xs (6 * k + 2)), .int (xs (6 * k + 3)), .int (xs (6 * k + 4)), .int (xs (6 * k + 5))] (rest := [.int r]) dL_law_233 lL_23 rfl (zat_b rfl rfl) rfl (t2 1000 (by decide)) (Nat.le_of_ble_eq_true rfl) (zl_ok (by rw [hab]; rfl)) ?_
  refine x_icmp_eq_t (pc := 236) 891 dL_law_236 (by decide) rfl ?_
  exact l_next (by omega) (kk κ' α' τ' hI)
theorem lw_c1 {k : Nat} {a b : Option Value} {P : Option Value → zMem → Prop} (hX : zXs E L xs) (hk : 6 * k + 6 ≤ L) (hab : (zlB a && zlB b) = true) (h : zCall E zI k κ α τ mX8_end mX9_end [.int (xs (6 * k + 1))]) (kk : ∀ κ' α' τ', zI (k + 1) κ' α' τ' → zX E 1001 mL_law 23 (zLs (nI (6 * (k + 1))) a b) [] (κ', α', τ') P) : zX E 1001 mL_law 241 (zLs (nI (6 * k)) a b) [] (κ, α, τ) P := by
  obtain ⟨r, κ', α', τ', t1, t2, hI⟩ := h
  have hL := hX.2
  refine x_aload_n (pc := 241) 1 dL_law_241 rfl rfl ?_
  refine x_aload_n (pc := 242) 0 dL_law_242 rfl rfl ?_
  refine x_iload (pc := 243) dL_law_243 rfl ?_
  refine x_iconst (pc := 245) (nI 1) dL_law_245 (by decide) ?_
  refine x_iadd (pc := 246) dL_law_246 ?_
  refine x_sld (pc := 247) (6 * k + 1) hX (nI_add _ _) (by omega) dL_law_247 ?_
  refine x_lawV (pc := 248) [.int (xs (6 * k + 1))] (rest := []) dL_law_248 lL_24 rfl (zat_b rfl rfl) rfl (t1 1000 (by decide)) (Nat.le_of_ble_eq_true rfl) (zl_ok (by rw [hab]; rfl)) ?_
  refine x_aload_n (pc := 251) 2 dL_law_251 rfl rfl ?_
  refine x_aload_n (pc := 252) 0 dL_law_252 rfl rfl ?_
  refine x_iload (pc := 253) dL_law_253 rfl ?_
  refine x_iconst (pc := 255) (nI 1) dL_law_255 (by decide) ?_
  refine x_iadd (pc := 256) dL_law_256 ?_
  refine x_sld (pc := 257) (6 * k + 1) hX (nI_add _ _) (by omega) dL_law_257 ?_
  refine x_lawV (pc := 258) [.int (xs (6 * k + 1))] (rest := [.int r]) dL_law_258 lL_28 rfl (zat_b rfl rfl) rfl (t2 1000 (by decide)) (Nat.le_of_ble_eq_true rfl) (zl_ok (by rw [hab]; rfl)) ?_
  refine x_icmp_eq_t (pc := 261) 891 dL_law_261 (by decide) rfl ?_
  exact l_next (by omega) (kk κ' α' τ' hI)
theorem lw_c2 {k : Nat} {a b : Option Value} {P : Option Value → zMem → Prop} (hX : zXs E L xs) (hk : 6 * k + 6 ≤ L) (hab : (zlB a && zlB b) = true) (h : zCall E zI k κ α τ mX8_tell mX9_tell []) (kk : ∀ κ' α' τ', zI (k + 1) κ' α' τ' → zX E 1001 mL_law 23 (zLs (nI (6 * (k + 1))) a b) [] (κ', α', τ') P) : zX E 1001 mL_law 266 (zLs (nI (6 * k)) a b) [] (κ, α, τ) P := by
  obtain ⟨r, κ', α', τ', t1, t2, hI⟩ := h
  have hL := hX.2
  refine x_aload_n (pc := 266) 1 dL_law_266 rfl rfl ?_
  refine x_lawV (pc := 267) [] (rest := []) dL_law_267 lL_29 rfl (zat_b rfl rfl) rfl (t1 1000 (by decide)) (Nat.le_of_ble_eq_true rfl) (zl_ok (by rw [hab]; rfl)) ?_
  refine x_aload_n (pc := 270) 2 dL_law_270 rfl rfl ?_
  refine x_lawV (pc := 271) [] (rest := [.int r]) dL_law_271 lL_33 rfl (zat_b rfl rfl) rfl (t2 1000 (by decide)) (Nat.le_of_ble_eq_true rfl) (zl_ok (by rw [hab]; rfl)) ?_
  refine x_icmp_eq_t (pc := 274) 891 dL_law_274 (by decide) rfl ?_
  exact l_next (by omega) (kk κ' α' τ' hI)
theorem lw_c3 {k : Nat} {a b : Option Value} {P : Option Value → zMem → Prop} (hX : zXs E L xs) (hk : 6 * k + 6 ≤ L) (hab : (zlB a && zlB b) = true) (h : zCall E zI k κ α τ mX8_fault mX9_fault []) (kk : ∀ κ' α' τ', zI (k + 1) κ' α' τ' → zX E 1001 mL_law 23 (zLs (nI (6 * (k + 1))) a b) [] (κ', α', τ') P) : zX E 1001 mL_law 279 (zLs (nI (6 * k)) a b) [] (κ, α, τ) P := by
  obtain ⟨r, κ', α', τ', t1, t2, hI⟩ := h
  have hL := hX.2
  refine x_aload_n (pc := 279) 1 dL_law_279 rfl rfl ?_
  refine x_lawV (pc := 280) [] (rest := []) dL_law_280 lL_34 rfl (zat_b rfl rfl) rfl (t1 1000 (by decide)) (Nat.le_of_ble_eq_true rfl) (zl_ok (by rw [hab]; rfl)) ?_
  refine x_aload_n (pc := 283) 2 dL_law_283 rfl rfl ?_
  refine x_lawV (pc := 284) [] (rest := [.int r]) dL_law_284 lL_37 rfl (zat_b rfl rfl) rfl (t2 1000 (by decide)) (Nat.le_of_ble_eq_true rfl) (zl_ok (by rw [hab]; rfl)) ?_
  refine x_icmp_eq_t (pc := 287) 891 dL_law_287 (by decide) rfl ?_
  exact l_next (by omega) (kk κ' α' τ' hI)
theorem lw_c4 {k : Nat} {a b : Option Value} {P : Option Value → zMem → Prop} (hX : zXs E L xs) (hk : 6 * k + 6 ≤ L) (hab : (zlB a && zlB b) = true) (h : zCall E zI k κ α τ mX8_grow mX9_grow [.int (xs (6 * k + 1))]) (kk : ∀ κ' α' τ', zI (k + 1) κ' α' τ' → zX E 1001 mL_law 23 (zLs (nI (6 * (k + 1))) a b) [] (κ', α', τ') P) : zX E 1001 mL_law 292 (zLs (nI (6 * k)) a b) [] (κ, α, τ) P := by
  obtain ⟨r, κ', α', τ', t1, t2, hI⟩ := h
  have hL := hX.2
  refine x_aload_n (pc := 292) 1 dL_law_292 rfl rfl ?_
  refine x_aload_n (pc := 293) 0 dL_law_293 rfl rfl ?_
  refine x_iload (pc := 294) dL_law_294 rfl ?_
  refine x_iconst (pc := 296) (nI 1) dL_law_296 (by decide) ?_
  refine x_iadd (pc := 297) dL_law_297 ?_
  refine x_sld (pc := 298) (6 * k + 1) hX (nI_add _ _) (by omega) dL_law_298 ?_
  refine x_lawV (pc := 299) [.int (xs (6 * k + 1))] (rest := []) dL_law_299 lL_38 rfl (zat_b rfl rfl) rfl (t1 1000 (by decide)) (Nat.le_of_ble_eq_true rfl) (zl_ok (by rw [hab]; rfl)) ?_
  refine x_aload_n (pc := 302) 2 dL_law_302 rfl rfl ?_
  refine x_aload_n (pc := 303) 0 dL_law_303 rfl rfl ?_
  refine x_iload (pc := 304) dL_law_304 rfl ?_
  refine x_iconst (pc := 306) (nI 1) dL_law_306 (by decide) ?_
  refine x_iadd (pc := 307) dL_law_307 ?_
  refine x_sld (pc := 308) (6 * k + 1) hX (nI_add _ _) (by omega) dL_law_308 ?_
  refine x_lawV (pc := 309) [.int (xs (6 * k + 1))] (rest := [.int r]) dL_law_309 lL_42 rfl (zat_b rfl rfl) rfl (t2 1000 (by decide)) (Nat.le_of_ble_eq_true rfl) (zl_ok (by rw [hab]; rfl)) ?_
  refine x_icmp_eq_t (pc := 312) 891 dL_law_312 (by decide) rfl ?_
  exact l_next (by omega) (kk κ' α' τ' hI)
theorem lw_c5 {k : Nat} {a b : Option Value} {P : Option Value → zMem → Prop} (hX : zXs E L xs) (hk : 6 * k + 6 ≤ L) (hab : (zlB a && zlB b) = true) (h : zCall E zI k κ α τ mX8_add mX9_add [.int (xs (6 * k + 1))]) (kk : ∀ κ' α' τ', zI (k + 1) κ' α' τ' → zX E 1001 mL_law 23 (zLs (nI (6 * (k + 1))) a b) [] (κ', α', τ') P) : zX E 1001 mL_law 317 (zLs (nI (6 * k)) a b) [] (κ, α, τ) P := by
  obtain ⟨r, κ', α', τ', t1, t2, hI⟩ := h
  have hL := hX.2
  refine x_aload_n (pc := 317) 1 dL_law_317 rfl rfl ?_
  refine x_aload_n (pc := 318) 0 dL_law_318 rfl rfl ?_
  refine x_iload (pc := 319) dL_law_319 rfl ?_
  refine x_iconst (pc := 321) (nI 1) dL_law_321 (by decide) ?_
  refine x_iadd (pc := 322) dL_law_322 ?_
  refine x_sld (pc := 323) (6 * k + 1) hX (nI_add _ _) (by omega) dL_law_323 ?_
  refine x_lawV (pc := 324) [.int (xs (6 * k + 1))] (rest := []) dL_law_324 lL_43 rfl (zat_b rfl rfl) rfl (t1 1000 (by decide)) (Nat.le_of_ble_eq_true rfl) (zl_ok (by rw [hab]; rfl)) ?_
  refine x_aload_n (pc := 327) 2 dL_law_327 rfl rfl ?_
  refine x_aload_n (pc := 328) 0 dL_law_328 rfl rfl ?_
  refine x_iload (pc := 329) dL_law_329 rfl ?_
  refine x_iconst (pc := 331) (nI 1) dL_law_331 (by decide) ?_
  refine x_iadd (pc := 332) dL_law_332 ?_
  refine x_sld (pc := 333) (6 * k + 1) hX (nI_add _ _) (by omega) dL_law_333 ?_
  refine x_lawV (pc := 334) [.int (xs (6 * k + 1))] (rest := [.int r]) dL_law_334 lL_46 rfl (zat_b rfl rfl) rfl (t2 1000 (by decide)) (Nat.le_of_ble_eq_true rfl) (zl_ok (by rw [hab]; rfl)) ?_
  refine x_icmp_eq_t (pc := 337) 891 dL_law_337 (by decide) rfl ?_
  exact l_next (by omega) (kk κ' α' τ' hI)
theorem lw_c6 {k : Nat} {a b : Option Value} {P : Option Value → zMem → Prop} (hX : zXs E L xs) (hk : 6 * k + 6 ≤ L) (hab : (zlB a && zlB b) = true) (h : zCall E zI k κ α τ mX8_close mX9_close []) (kk : ∀ κ' α' τ', zI (k + 1) κ' α' τ' → zX E 1001 mL_law 23 (zLs (nI (6 * (k + 1))) a b) [] (κ', α', τ') P) : zX E 1001 mL_law 342 (zLs (nI (6 * k)) a b) [] (κ, α, τ) P := by
  obtain ⟨r, κ', α', τ', t1, t2, hI⟩ := h
  have hL := hX.2
  refine x_aload_n (pc := 342) 1 dL_law_342 rfl rfl ?_
  refine x_lawV (pc := 343) [] (rest := []) dL_law_343 lL_47 rfl (zat_b rfl rfl) rfl (t1 1000 (by decide)) (Nat.le_of_ble_eq_true rfl) (zl_ok (by rw [hab]; rfl)) ?_
  refine x_aload_n (pc := 346) 2 dL_law_346 rfl rfl ?_
  refine x_lawV (pc := 347) [] (rest := [.int r]) dL_law_347 lL_50 rfl (zat_b rfl rfl) rfl (t2 1000 (by decide)) (Nat.le_of_ble_eq_true rfl) (zl_ok (by rw [hab]; rfl)) ?_
  refine x_icmp_eq_t (pc := 350) 891 dL_law_350 (by decide) rfl ?_
  exact l_next (by omega) (kk κ' α' τ' hI)
theorem lw_c7 {k : Nat} {a b : Option Value} {P : Option Value → zMem → Prop} (hX : zXs E L xs) (hk : 6 * k + 6 ≤ L) (hab : (zlB a && zlB b) = true) (h : zCall E zI k κ α τ mX8_assume mX9_assume [.int (xs (6 * k + 1))]) (kk : ∀ κ' α' τ', zI (k + 1) κ' α' τ' → zX E 1001 mL_law 23 (zLs (nI (6 * (k + 1))) a b) [] (κ', α', τ') P) : zX E 1001 mL_law 355 (zLs (nI (6 * k)) a b) [] (κ, α, τ) P := by
  obtain ⟨r, κ', α', τ', t1, t2, hI⟩ := h
  have hL := hX.2
  refine x_aload_n (pc := 355) 1 dL_law_355 rfl rfl ?_
  refine x_aload_n (pc := 356) 0 dL_law_356 rfl rfl ?_
  refine x_iload (pc := 357) dL_law_357 rfl ?_
  refine x_iconst (pc := 359) (nI 1) dL_law_359 (by decide) ?_
  refine x_iadd (pc := 360) dL_law_360 ?_
  refine x_sld (pc := 361) (6 * k + 1) hX (nI_add _ _) (by omega) dL_law_361 ?_
  refine x_lawV (pc := 362) [.int (xs (6 * k + 1))] (rest := []) dL_law_362 lL_51 rfl (zat_b rfl rfl) rfl (t1 1000 (by decide)) (Nat.le_of_ble_eq_true rfl) (zl_ok (by rw [hab]; rfl)) ?_
  refine x_aload_n (pc := 365) 2 dL_law_365 rfl rfl ?_
  refine x_aload_n (pc := 366) 0 dL_law_366 rfl rfl ?_
  refine x_iload (pc := 367) dL_law_367 rfl ?_
  refine x_iconst (pc := 369) (nI 1) dL_law_369 (by decide) ?_
  refine x_iadd (pc := 370) dL_law_370 ?_
  refine x_sld (pc := 371) (6 * k + 1) hX (nI_add _ _) (by omega) dL_law_371 ?_
  refine x_lawV (pc := 372) [.int (xs (6 * k + 1))] (rest := [.int r]) dL_law_372 lL_54 rfl (zat_b rfl rfl) rfl (t2 1000 (by decide)) (Nat.le_of_ble_eq_true rfl) (zl_ok (by rw [hab]; rfl)) ?_
  refine x_icmp_eq_t (pc := 375) 891 dL_law_375 (by decide) rfl ?_
  exact l_next (by omega) (kk κ' α' τ' hI)
theorem lw_c8 {k : Nat} {a b : Option Value} {P : Option Value → zMem → Prop} (hX : zXs E L xs) (hk : 6 * k + 6 ≤ L) (hab : (zlB a && zlB b) = true) (h : zCall E zI k κ α τ mX8_free mX9_free []) (kk : ∀ κ' α' τ', zI (k + 1) κ' α' τ' → zX E 1001 mL_law 23 (zLs (nI (6 * (k + 1))) a b) [] (κ', α', τ') P) : zX E 1001 mL_law 380 (zLs (nI (6 * k)) a b) [] (κ, α, τ) P := by
  obtain ⟨r, κ', α', τ', t1, t2, hI⟩ := h
  have hL := hX.2
  refine x_aload_n (pc := 380) 1 dL_law_380 rfl rfl ?_
  refine x_lawV (pc := 381) [] (rest := []) dL_law_381 lL_55 rfl (zat_b rfl rfl) rfl (t1 1000 (by decide)) (Nat.le_of_ble_eq_true rfl) (zl_ok (by rw [hab]; rfl)) ?_
  refine x_aload_n (pc := 384) 2 dL_law_384 rfl rfl ?_
  refine x_lawV (pc := 385) [] (rest := [.int r]) dL_law_385 lL_58 rfl (zat_b rfl rfl) rfl (t2 1000 (by decide)) (Nat.le_of_ble_eq_true rfl) (zl_ok (by rw [hab]; rfl)) ?_
  refine x_icmp_eq_t (pc := 388) 891 dL_law_388 (by decide) rfl ?_
  exact l_next (by omega) (kk κ' α' τ' hI)
theorem lw_c9 {k : Nat} {a b : Option Value} {P : Option Value → zMem → Prop} (hX : zXs E L xs) (hk : 6 * k + 6 ≤ L) (hab : (zlB a && zlB b) = true) (h : zCall E zI k κ α τ mX8_phase mX9_phase [.int (xs (6 * k + 1))]) (kk : ∀ κ' α' τ', zI (k + 1) κ' α' τ' → zX E 1001 mL_law 23 (zLs (nI (6 * (k + 1))) a b) [] (κ', α', τ') P) : zX E 1001 mL_law 393 (zLs (nI (6 * k)) a b) [] (κ, α, τ) P := by
  obtain ⟨r, κ', α', τ', t1, t2, hI⟩ := h
  have hL := hX.2
  refine x_aload_n (pc := 393) 1 dL_law_393 rfl rfl ?_
  refine x_aload_n (pc := 394) 0 dL_law_394 rfl rfl ?_
  refine x_iload (pc := 395) dL_law_395 rfl ?_
  refine x_iconst (pc := 397) (nI 1) dL_law_397 (by decide) ?_
  refine x_iadd (pc := 398) dL_law_398 ?_
  refine x_sld (pc := 399) (6 * k + 1) hX (nI_add _ _) (by omega) dL_law_399 ?_
  refine x_lawV (pc := 400) [.int (xs (6 * k + 1))] (rest := []) dL_law_400 lL_59 rfl (zat_b rfl rfl) rfl (t1 1000 (by decide)) (Nat.le_of_ble_eq_true rfl) (zl_ok (by rw [hab]; rfl)) ?_
  refine x_aload_n (pc := 403) 2 dL_law_403 rfl rfl ?_
  refine x_aload_n (pc := 404) 0 dL_law_404 rfl rfl ?_
  refine x_iload (pc := 405) dL_law_405 rfl ?_
  refine x_iconst (pc := 407) (nI 1) dL_law_407 (by decide) ?_
  refine x_iadd (pc := 408) dL_law_408 ?_
  refine x_sld (pc := 409) (6 * k + 1) hX (nI_add _ _) (by omega) dL_law_409 ?_
  refine x_lawV (pc := 410) [.int (xs (6 * k + 1))] (rest := [.int r]) dL_law_410 lL_62 rfl (zat_b rfl rfl) rfl (t2 1000 (by decide)) (Nat.le_of_ble_eq_true rfl) (zl_ok (by rw [hab]; rfl)) ?_
  refine x_icmp_eq_t (pc := 413) 891 dL_law_413 (by decide) rfl ?_
  exact l_next (by omega) (kk κ' α' τ' hI)
theorem lw_c10 {k : Nat} {a b : Option Value} {P : Option Value → zMem → Prop} (hX : zXs E L xs) (hk : 6 * k + 6 ≤ L) (hab : (zlB a && zlB b) = true) (h : zCall E zI k κ α τ mX8_unit mX9_unit [.int (xs (6 * k + 1))]) (kk : ∀ κ' α' τ', zI (k + 1) κ' α' τ' → zX E 1001 mL_law 23 (zLs (nI (6 * (k + 1))) a b) [] (κ', α', τ') P) : zX E 1001 mL_law 418 (zLs (nI (6 * k)) a b) [] (κ, α, τ) P := by
  obtain ⟨r, κ', α', τ', t1, t2, hI⟩ := h
  have hL := hX.2
  refine x_aload_n (pc := 418) 1 dL_law_418 rfl rfl ?_
  refine x_aload_n (pc := 419) 0 dL_law_419 rfl rfl ?_
  refine x_iload (pc := 420) dL_law_420 rfl ?_
  refine x_iconst (pc := 422) (nI 1) dL_law_422 (by decide) ?_
  refine x_iadd (pc := 423) dL_law_423 ?_
  refine x_sld (pc := 424) (6 * k + 1) hX (nI_add _ _) (by omega) dL_law_424 ?_
  refine x_lawV (pc := 425) [.int (xs (6 * k + 1))] (rest := []) dL_law_425 lL_63 rfl (zat_b rfl rfl) rfl (t1 1000 (by decide)) (Nat.le_of_ble_eq_true rfl) (zl_ok (by rw [hab]; rfl)) ?_
  refine x_aload_n (pc := 428) 2 dL_law_428 rfl rfl ?_
  refine x_aload_n (pc := 429) 0 dL_law_429 rfl rfl ?_
  refine x_iload (pc := 430) dL_law_430 rfl ?_
  refine x_iconst (pc := 432) (nI 1) dL_law_432 (by decide) ?_
  refine x_iadd (pc := 433) dL_law_433 ?_
  refine x_sld (pc := 434) (6 * k + 1) hX (nI_add _ _) (by omega) dL_law_434 ?_
  refine x_lawV (pc := 435) [.int (xs (6 * k + 1))] (rest := [.int r]) dL_law_435 lL_66 rfl (zat_b rfl rfl) rfl (t2 1000 (by decide)) (Nat.le_of_ble_eq_true rfl) (zl_ok (by rw [hab]; rfl)) ?_
  refine x_icmp_eq_t (pc := 438) 891 dL_law_438 (by decide) rfl ?_
  exact l_next (by omega) (kk κ' α' τ' hI)
theorem lw_c11 {k : Nat} {a b : Option Value} {P : Option Value → zMem → Prop} (hX : zXs E L xs) (hk : 6 * k + 6 ≤ L) (hab : (zlB a && zlB b) = true) (h : zCall E zI k κ α τ mX8_forget mX9_forget [.int (xs (6 * k + 1))]) (kk : ∀ κ' α' τ', zI (k + 1) κ' α' τ' → zX E 1001 mL_law 23 (zLs (nI (6 * (k + 1))) a b) [] (κ', α', τ') P) : zX E 1001 mL_law 443 (zLs (nI (6 * k)) a b) [] (κ, α, τ) P := by
  obtain ⟨r, κ', α', τ', t1, t2, hI⟩ := h
  have hL := hX.2
  refine x_aload_n (pc := 443) 1 dL_law_443 rfl rfl ?_
  refine x_aload_n (pc := 444) 0 dL_law_444 rfl rfl ?_
  refine x_iload (pc := 445) dL_law_445 rfl ?_
  refine x_iconst (pc := 447) (nI 1) dL_law_447 (by decide) ?_
  refine x_iadd (pc := 448) dL_law_448 ?_
  refine x_sld (pc := 449) (6 * k + 1) hX (nI_add _ _) (by omega) dL_law_449 ?_
  refine x_lawV (pc := 450) [.int (xs (6 * k + 1))] (rest := []) dL_law_450 lL_67 rfl (zat_b rfl rfl) rfl (t1 1000 (by decide)) (Nat.le_of_ble_eq_true rfl) (zl_ok (by rw [hab]; rfl)) ?_
  refine x_aload_n (pc := 453) 2 dL_law_453 rfl rfl ?_
  refine x_aload_n (pc := 454) 0 dL_law_454 rfl rfl ?_
  refine x_iload (pc := 455) dL_law_455 rfl ?_
  refine x_iconst (pc := 457) (nI 1) dL_law_457 (by decide) ?_
  refine x_iadd (pc := 458) dL_law_458 ?_
  refine x_sld (pc := 459) (6 * k + 1) hX (nI_add _ _) (by omega) dL_law_459 ?_
  refine x_lawV (pc := 460) [.int (xs (6 * k + 1))] (rest := [.int r]) dL_law_460 lL_70 rfl (zat_b rfl rfl) rfl (t2 1000 (by decide)) (Nat.le_of_ble_eq_true rfl) (zl_ok (by rw [hab]; rfl)) ?_
  refine x_icmp_eq_t (pc := 463) 891 dL_law_463 (by decide) rfl ?_
  exact l_next (by omega) (kk κ' α' τ' hI)
theorem lw_c12 {k : Nat} {a b : Option Value} {P : Option Value → zMem → Prop} (hX : zXs E L xs) (hk : 6 * k + 6 ≤ L) (hab : (zlB a && zlB b) = true) (h : zCall E zI k κ α τ mX8_keep mX9_keep [.int (xs (6 * k + 1))]) (kk : ∀ κ' α' τ', zI (k + 1) κ' α' τ' → zX E 1001 mL_law 23 (zLs (nI (6 * (k + 1))) a b) [] (κ', α', τ') P) : zX E 1001 mL_law 468 (zLs (nI (6 * k)) a b) [] (κ, α, τ) P := by
  obtain ⟨r, κ', α', τ', t1, t2, hI⟩ := h
  have hL := hX.2
  refine x_aload_n (pc := 468) 1 dL_law_468 rfl rfl ?_
  refine x_aload_n (pc := 469) 0 dL_law_469 rfl rfl ?_
  refine x_iload (pc := 470) dL_law_470 rfl ?_
  refine x_iconst (pc := 472) (nI 1) dL_law_472 (by decide) ?_
  refine x_iadd (pc := 473) dL_law_473 ?_
  refine x_sld (pc := 474) (6 * k + 1) hX (nI_add _ _) (by omega) dL_law_474 ?_
  refine x_lawV (pc := 475) [.int (xs (6 * k + 1))] (rest := []) dL_law_475 lL_71 rfl (zat_b rfl rfl) rfl (t1 1000 (by decide)) (Nat.le_of_ble_eq_true rfl) (zl_ok (by rw [hab]; rfl)) ?_
  refine x_aload_n (pc := 478) 2 dL_law_478 rfl rfl ?_
  refine x_aload_n (pc := 479) 0 dL_law_479 rfl rfl ?_
  refine x_iload (pc := 480) dL_law_480 rfl ?_
  refine x_iconst (pc := 482) (nI 1) dL_law_482 (by decide) ?_
  refine x_iadd (pc := 483) dL_law_483 ?_
  refine x_sld (pc := 484) (6 * k + 1) hX (nI_add _ _) (by omega) dL_law_484 ?_
  refine x_lawV (pc := 485) [.int (xs (6 * k + 1))] (rest := [.int r]) dL_law_485 lL_74 rfl (zat_b rfl rfl) rfl (t2 1000 (by decide)) (Nat.le_of_ble_eq_true rfl) (zl_ok (by rw [hab]; rfl)) ?_
  refine x_icmp_eq_t (pc := 488) 891 dL_law_488 (by decide) rfl ?_
  exact l_next (by omega) (kk κ' α' τ' hI)
theorem lw_c13 {k : Nat} {a b : Option Value} {P : Option Value → zMem → Prop} (hX : zXs E L xs) (hk : 6 * k + 6 ≤ L) (hab : (zlB a && zlB b) = true) (h : zCall E zI k κ α τ mX8_back mX9_back [.int (xs (6 * k + 1))]) (kk : ∀ κ' α' τ', zI (k + 1) κ' α' τ' → zX E 1001 mL_law 23 (zLs (nI (6 * (k + 1))) a b) [] (κ', α', τ') P) : zX E 1001 mL_law 493 (zLs (nI (6 * k)) a b) [] (κ, α, τ) P := by
  obtain ⟨r, κ', α', τ', t1, t2, hI⟩ := h
  have hL := hX.2
  refine x_aload_n (pc := 493) 1 dL_law_493 rfl rfl ?_
  refine x_aload_n (pc := 494) 0 dL_law_494 rfl rfl ?_
  refine x_iload (pc := 495) dL_law_495 rfl ?_
  refine x_iconst (pc := 497) (nI 1) dL_law_497 (by decide) ?_
  refine x_iadd (pc := 498) dL_law_498 ?_
  refine x_sld (pc := 499) (6 * k + 1) hX (nI_add _ _) (by omega) dL_law_499 ?_
  refine x_lawV (pc := 500) [.int (xs (6 * k + 1))] (rest := []) dL_law_500 lL_75 rfl (zat_b rfl rfl) rfl (t1 1000 (by decide)) (Nat.le_of_ble_eq_true rfl) (zl_ok (by rw [hab]; rfl)) ?_
  refine x_aload_n (pc := 503) 2 dL_law_503 rfl rfl ?_
  refine x_aload_n (pc := 504) 0 dL_law_504 rfl rfl ?_
  refine x_iload (pc := 505) dL_law_505 rfl ?_
  refine x_iconst (pc := 507) (nI 1) dL_law_507 (by decide) ?_
  refine x_iadd (pc := 508) dL_law_508 ?_
  refine x_sld (pc := 509) (6 * k + 1) hX (nI_add _ _) (by omega) dL_law_509 ?_
  refine x_lawV (pc := 510) [.int (xs (6 * k + 1))] (rest := [.int r]) dL_law_510 lL_78 rfl (zat_b rfl rfl) rfl (t2 1000 (by decide)) (Nat.le_of_ble_eq_true rfl) (zl_ok (by rw [hab]; rfl)) ?_
  refine x_icmp_eq_t (pc := 513) 891 dL_law_513 (by decide) rfl ?_
  exact l_next (by omega) (kk κ' α' τ' hI)
theorem lw_c14 {k : Nat} {a b : Option Value} {P : Option Value → zMem → Prop} (hX : zXs E L xs) (hk : 6 * k + 6 ≤ L) (hab : (zlB a && zlB b) = true) (h : zCall E zI k κ α τ mX8_solve mX9_solve [.int (xs (6 * k + 1))]) (kk : ∀ κ' α' τ', zI (k + 1) κ' α' τ' → zX E 1001 mL_law 23 (zLs (nI (6 * (k + 1))) a b) [] (κ', α', τ') P) : zX E 1001 mL_law 518 (zLs (nI (6 * k)) a b) [] (κ, α, τ) P := by
  obtain ⟨r, κ', α', τ', t1, t2, hI⟩ := h
  have hL := hX.2
  refine x_aload_n (pc := 518) 1 dL_law_518 rfl rfl ?_
  refine x_aload_n (pc := 519) 0 dL_law_519 rfl rfl ?_
  refine x_iload (pc := 520) dL_law_520 rfl ?_
  refine x_iconst (pc := 522) (nI 1) dL_law_522 (by decide) ?_
  refine x_iadd (pc := 523) dL_law_523 ?_
  refine x_sld (pc := 524) (6 * k + 1) hX (nI_add _ _) (by omega) dL_law_524 ?_
  refine x_lawV (pc := 525) [.int (xs (6 * k + 1))] (rest := []) dL_law_525 lL_79 rfl (zat_b rfl rfl) rfl (t1 1000 (by decide)) (Nat.le_of_ble_eq_true rfl) (zl_ok (by rw [hab]; rfl)) ?_
  refine x_aload_n (pc := 528) 2 dL_law_528 rfl rfl ?_
  refine x_aload_n (pc := 529) 0 dL_law_529 rfl rfl ?_
  refine x_iload (pc := 530) dL_law_530 rfl ?_
  refine x_iconst (pc := 532) (nI 1) dL_law_532 (by decide) ?_
  refine x_iadd (pc := 533) dL_law_533 ?_
  refine x_sld (pc := 534) (6 * k + 1) hX (nI_add _ _) (by omega) dL_law_534 ?_
  refine x_lawV (pc := 535) [.int (xs (6 * k + 1))] (rest := [.int r]) dL_law_535 lL_82 rfl (zat_b rfl rfl) rfl (t2 1000 (by decide)) (Nat.le_of_ble_eq_true rfl) (zl_ok (by rw [hab]; rfl)) ?_
  refine x_icmp_eq_t (pc := 538) 891 dL_law_538 (by decide) rfl ?_
  exact l_next (by omega) (kk κ' α' τ' hI)
theorem lw_c15 {k : Nat} {a b : Option Value} {P : Option Value → zMem → Prop} (hX : zXs E L xs) (hk : 6 * k + 6 ≤ L) (hab : (zlB a && zlB b) = true) (h : zCall E zI k κ α τ mX8_count mX9_count [.int (xs (6 * k + 1))]) (kk : ∀ κ' α' τ', zI (k + 1) κ' α' τ' → zX E 1001 mL_law 23 (zLs (nI (6 * (k + 1))) a b) [] (κ', α', τ') P) : zX E 1001 mL_law 543 (zLs (nI (6 * k)) a b) [] (κ, α, τ) P := by
  obtain ⟨r, κ', α', τ', t1, t2, hI⟩ := h
  have hL := hX.2
  refine x_aload_n (pc := 543) 1 dL_law_543 rfl rfl ?_
  refine x_aload_n (pc := 544) 0 dL_law_544 rfl rfl ?_
  refine x_iload (pc := 545) dL_law_545 rfl ?_
  refine x_iconst (pc := 547) (nI 1) dL_law_547 (by decide) ?_
  refine x_iadd (pc := 548) dL_law_548 ?_
  refine x_sld (pc := 549) (6 * k + 1) hX (nI_add _ _) (by omega) dL_law_549 ?_
  refine x_lawV (pc := 550) [.int (xs (6 * k + 1))] (rest := []) dL_law_550 lL_83 rfl (zat_b rfl rfl) rfl (t1 1000 (by decide)) (Nat.le_of_ble_eq_true rfl) (zl_ok (by rw [hab]; rfl)) ?_
  refine x_aload_n (pc := 553) 2 dL_law_553 rfl rfl ?_
  refine x_aload_n (pc := 554) 0 dL_law_554 rfl rfl ?_
  refine x_iload (pc := 555) dL_law_555 rfl ?_
  refine x_iconst (pc := 557) (nI 1) dL_law_557 (by decide) ?_
  refine x_iadd (pc := 558) dL_law_558 ?_
  refine x_sld (pc := 559) (6 * k + 1) hX (nI_add _ _) (by omega) dL_law_559 ?_
  refine x_lawV (pc := 560) [.int (xs (6 * k + 1))] (rest := [.int r]) dL_law_560 lL_86 rfl (zat_b rfl rfl) rfl (t2 1000 (by decide)) (Nat.le_of_ble_eq_true rfl) (zl_ok (by rw [hab]; rfl)) ?_
  refine x_icmp_eq_t (pc := 563) 891 dL_law_563 (by decide) rfl ?_
  exact l_next (by omega) (kk κ' α' τ' hI)
theorem lw_c17 {k : Nat} {a b : Option Value} {P : Option Value → zMem → Prop} (hX : zXs E L xs) (hk : 6 * k + 6 ≤ L) (hab : (zlB a && zlB b) = true) (h : zCall E zI k κ α τ mX8_assumption mX9_assumption [.int (xs (6 * k + 1))]) (kk : ∀ κ' α' τ', zI (k + 1) κ' α' τ' → zX E 1001 mL_law 23 (zLs (nI (6 * (k + 1))) a b) [] (κ', α', τ') P) : zX E 1001 mL_law 636 (zLs (nI (6 * k)) a b) [] (κ, α, τ) P := by
  obtain ⟨r, κ', α', τ', t1, t2, hI⟩ := h
  have hL := hX.2
  refine x_aload_n (pc := 636) 1 dL_law_636 rfl rfl ?_
  refine x_aload_n (pc := 637) 0 dL_law_637 rfl rfl ?_
  refine x_iload (pc := 638) dL_law_638 rfl ?_
  refine x_iconst (pc := 640) (nI 1) dL_law_640 (by decide) ?_
  refine x_iadd (pc := 641) dL_law_641 ?_
  refine x_sld (pc := 642) (6 * k + 1) hX (nI_add _ _) (by omega) dL_law_642 ?_
  refine x_lawV (pc := 643) [.int (xs (6 * k + 1))] (rest := []) dL_law_643 lL_96 rfl (zat_b rfl rfl) rfl (t1 1000 (by decide)) (Nat.le_of_ble_eq_true rfl) (zl_ok (by rw [hab]; rfl)) ?_
  refine x_aload_n (pc := 646) 2 dL_law_646 rfl rfl ?_
  refine x_aload_n (pc := 647) 0 dL_law_647 rfl rfl ?_
  refine x_iload (pc := 648) dL_law_648 rfl ?_
  refine x_iconst (pc := 650) (nI 1) dL_law_650 (by decide) ?_
  refine x_iadd (pc := 651) dL_law_651 ?_
  refine x_sld (pc := 652) (6 * k + 1) hX (nI_add _ _) (by omega) dL_law_652 ?_
  refine x_lawV (pc := 653) [.int (xs (6 * k + 1))] (rest := [.int r]) dL_law_653 lL_99 rfl (zat_b rfl rfl) rfl (t2 1000 (by decide)) (Nat.le_of_ble_eq_true rfl) (zl_ok (by rw [hab]; rfl)) ?_
  refine x_icmp_eq_t (pc := 656) 891 dL_law_656 (by decide) rfl ?_
  exact l_next (by omega) (kk κ' α' τ' hI)
theorem lw_c18 {k : Nat} {a b : Option Value} {P : Option Value → zMem → Prop} (hX : zXs E L xs) (hk : 6 * k + 6 ≤ L) (hab : (zlB a && zlB b) = true) (h : zCall E zI k κ α τ mX8_model mX9_model [.int (xs (6 * k + 1))]) (kk : ∀ κ' α' τ', zI (k + 1) κ' α' τ' → zX E 1001 mL_law 23 (zLs (nI (6 * (k + 1))) a b) [] (κ', α', τ') P) : zX E 1001 mL_law 661 (zLs (nI (6 * k)) a b) [] (κ, α, τ) P := by
  obtain ⟨r, κ', α', τ', t1, t2, hI⟩ := h
  have hL := hX.2
  refine x_aload_n (pc := 661) 1 dL_law_661 rfl rfl ?_
  refine x_aload_n (pc := 662) 0 dL_law_662 rfl rfl ?_
  refine x_iload (pc := 663) dL_law_663 rfl ?_
  refine x_iconst (pc := 665) (nI 1) dL_law_665 (by decide) ?_
  refine x_iadd (pc := 666) dL_law_666 ?_
  refine x_sld (pc := 667) (6 * k + 1) hX (nI_add _ _) (by omega) dL_law_667 ?_
  refine x_lawV (pc := 668) [.int (xs (6 * k + 1))] (rest := []) dL_law_668 lL_100 rfl (zat_b rfl rfl) rfl (t1 1000 (by decide)) (Nat.le_of_ble_eq_true rfl) (zl_ok (by rw [hab]; rfl)) ?_
  refine x_aload_n (pc := 671) 2 dL_law_671 rfl rfl ?_
  refine x_aload_n (pc := 672) 0 dL_law_672 rfl rfl ?_
  refine x_iload (pc := 673) dL_law_673 rfl ?_
  refine x_iconst (pc := 675) (nI 1) dL_law_675 (by decide) ?_
  refine x_iadd (pc := 676) dL_law_676 ?_
  refine x_sld (pc := 677) (6 * k + 1) hX (nI_add _ _) (by omega) dL_law_677 ?_
  refine x_lawV (pc := 678) [.int (xs (6 * k + 1))] (rest := [.int r]) dL_law_678 lL_103 rfl (zat_b rfl rfl) rfl (t2 1000 (by decide)) (Nat.le_of_ble_eq_true rfl) (zl_ok (by rw [hab]; rfl)) ?_
  refine x_icmp_eq_t (pc := 681) 891 dL_law_681 (by decide) rfl ?_
  exact l_next (by omega) (kk κ' α' τ' hI)
theorem lw_c19 {k : Nat} {a b : Option Value} {P : Option Value → zMem → Prop} (hX : zXs E L xs) (hk : 6 * k + 6 ≤ L) (hab : (zlB a && zlB b) = true) (h : zCall E zI k κ α τ mX8_core mX9_core []) (kk : ∀ κ' α' τ', zI (k + 1) κ' α' τ' → zX E 1001 mL_law 23 (zLs (nI (6 * (k + 1))) a b) [] (κ', α', τ') P) : zX E 1001 mL_law 686 (zLs (nI (6 * k)) a b) [] (κ, α, τ) P := by
  obtain ⟨r, κ', α', τ', t1, t2, hI⟩ := h
  have hL := hX.2
  refine x_aload_n (pc := 686) 1 dL_law_686 rfl rfl ?_
  refine x_lawV (pc := 687) [] (rest := []) dL_law_687 lL_104 rfl (zat_b rfl rfl) rfl (t1 1000 (by decide)) (Nat.le_of_ble_eq_true rfl) (zl_ok (by rw [hab]; rfl)) ?_
  refine x_aload_n (pc := 690) 2 dL_law_690 rfl rfl ?_
  refine x_lawV (pc := 691) [] (rest := [.int r]) dL_law_691 lL_107 rfl (zat_b rfl rfl) rfl (t2 1000 (by decide)) (Nat.le_of_ble_eq_true rfl) (zl_ok (by rw [hab]; rfl)) ?_
  refine x_icmp_eq_t (pc := 694) 891 dL_law_694 (by decide) rfl ?_
  exact l_next (by omega) (kk κ' α' τ' hI)
theorem lw_c20 {k : Nat} {a b : Option Value} {P : Option Value → zMem → Prop} (hX : zXs E L xs) (hk : 6 * k + 6 ≤ L) (hab : (zlB a && zlB b) = true) (h : zCall E zI k κ α τ mX8_variable mX9_variable [.int (xs (6 * k + 1)), .int (xs (6 * k + 2))]) (kk : ∀ κ' α' τ', zI (k + 1) κ' α' τ' → zX E 1001 mL_law 23 (zLs (nI (6 * (k + 1))) a b) [] (κ', α', τ') P) : zX E 1001 mL_law 699 (zLs (nI (6 * k)) a b) [] (κ, α, τ) P := by
  obtain ⟨r, κ', α', τ', t1, t2, hI⟩ := h
  have hL := hX.2
  refine x_aload_n (pc := 699) 1 dL_law_699 rfl rfl ?_
  refine x_aload_n (pc := 700) 0 dL_law_700 rfl rfl ?_
  refine x_iload (pc := 701) dL_law_701 rfl ?_
  refine x_iconst (pc := 703) (nI 1) dL_law_703 (by decide) ?_
  refine x_iadd (pc := 704) dL_law_704 ?_
  refine x_sld (pc := 705) (6 * k + 1) hX (nI_add _ _) (by omega) dL_law_705 ?_
  refine x_aload_n (pc := 706) 0 dL_law_706 rfl rfl ?_
  refine x_iload (pc := 707) dL_law_707 rfl ?_
  refine x_iconst (pc := 709) (nI 2) dL_law_709 (by decide) ?_
  refine x_iadd (pc := 710) dL_law_710 ?_
  refine x_sld (pc := 711) (6 * k + 2) hX (nI_add _ _) (by omega) dL_law_711 ?_
  refine x_lawV (pc := 712) [.int (xs (6 * k + 1)), .int (xs (6 * k + 2))] (rest := []) dL_law_712 lL_108 rfl (zat_b rfl rfl) rfl (t1 1000 (by decide)) (Nat.le_of_ble_eq_true rfl) (zl_ok (by rw [hab]; rfl)) ?_
  refine x_aload_n (pc := 715) 2 dL_law_715 rfl rfl ?_
  refine x_aload_n (pc := 716) 0 dL_law_716 rfl rfl ?_
  refine x_iload (pc := 717) dL_law_717 rfl ?_
  refine x_iconst (pc := 719) (nI 1) dL_law_719 (by decide) ?_
  refine x_iadd (pc := 720) dL_law_720 ?_
  refine x_sld (pc := 721) (6 * k + 1) hX (nI_add _ _) (by omega) dL_law_721 ?_
  refine x_aload_n (pc := 722) 0 dL_law_722 rfl rfl ?_
  refine x_iload (pc := 723) dL_law_723 rfl ?_
  refine x_iconst (pc := 725) (nI 2) dL_law_725 (by decide) ?_
  refine x_iadd (pc := 726) dL_law_726 ?_
  refine x_sld (pc := 727) (6 * k + 2) hX (nI_add _ _) (by omega) dL_law_727 ?_
  refine x_lawV (pc := 728) [.int (xs (6 * k + 1)), .int (xs (6 * k + 2))] (rest := [.int r]) dL_law_728 lL_111 rfl (zat_b rfl rfl) rfl (t2 1000 (by decide)) (Nat.le_of_ble_eq_true rfl) (zl_ok (by rw [hab]; rfl)) ?_
  refine x_icmp_eq_t (pc := 731) 891 dL_law_731 (by decide) rfl ?_
  exact l_next (by omega) (kk κ' α' τ' hI)
theorem lw_c21 {k : Nat} {a b : Option Value} {P : Option Value → zMem → Prop} (hX : zXs E L xs) (hk : 6 * k + 6 ≤ L) (hab : (zlB a && zlB b) = true) (h : zCall E zI k κ α τ mX8_follows mX9_follows [.int (xs (6 * k + 1))]) (kk : ∀ κ' α' τ', zI (k + 1) κ' α' τ' → zX E 1001 mL_law 23 (zLs (nI (6 * (k + 1))) a b) [] (κ', α', τ') P) : zX E 1001 mL_law 736 (zLs (nI (6 * k)) a b) [] (κ, α, τ) P := by
  obtain ⟨r, κ', α', τ', t1, t2, hI⟩ := h
  have hL := hX.2
  refine x_aload_n (pc := 736) 1 dL_law_736 rfl rfl ?_
  refine x_aload_n (pc := 737) 0 dL_law_737 rfl rfl ?_
  refine x_iload (pc := 738) dL_law_738 rfl ?_
  refine x_iconst (pc := 740) (nI 1) dL_law_740 (by decide) ?_
  refine x_iadd (pc := 741) dL_law_741 ?_
  refine x_sld (pc := 742) (6 * k + 1) hX (nI_add _ _) (by omega) dL_law_742 ?_
  refine x_lawV (pc := 743) [.int (xs (6 * k + 1))] (rest := []) dL_law_743 lL_112 rfl (zat_b rfl rfl) rfl (t1 1000 (by decide)) (Nat.le_of_ble_eq_true rfl) (zl_ok (by rw [hab]; rfl)) ?_
  refine x_aload_n (pc := 746) 2 dL_law_746 rfl rfl ?_
  refine x_aload_n (pc := 747) 0 dL_law_747 rfl rfl ?_
  refine x_iload (pc := 748) dL_law_748 rfl ?_
  refine x_iconst (pc := 750) (nI 1) dL_law_750 (by decide) ?_
  refine x_iadd (pc := 751) dL_law_751 ?_
  refine x_sld (pc := 752) (6 * k + 1) hX (nI_add _ _) (by omega) dL_law_752 ?_
  refine x_lawV (pc := 753) [.int (xs (6 * k + 1))] (rest := [.int r]) dL_law_753 lL_115 rfl (zat_b rfl rfl) rfl (t2 1000 (by decide)) (Nat.le_of_ble_eq_true rfl) (zl_ok (by rw [hab]; rfl)) ?_
  refine x_icmp_eq_t (pc := 756) 891 dL_law_756 (by decide) rfl ?_
  exact l_next (by omega) (kk κ' α' τ' hI)
theorem lw_c22 {k : Nat} {a b : Option Value} {P : Option Value → zMem → Prop} (hX : zXs E L xs) (hk : 6 * k + 6 ≤ L) (hab : (zlB a && zlB b) = true) (h : zCall E zI k κ α τ mX8_line mX9_line [.int (xs (6 * k + 1)), .int (xs (6 * k + 2))]) (kk : ∀ κ' α' τ', zI (k + 1) κ' α' τ' → zX E 1001 mL_law 23 (zLs (nI (6 * (k + 1))) a b) [] (κ', α', τ') P) : zX E 1001 mL_law 761 (zLs (nI (6 * k)) a b) [] (κ, α, τ) P := by
  obtain ⟨r, κ', α', τ', t1, t2, hI⟩ := h
  have hL := hX.2
  refine x_aload_n (pc := 761) 1 dL_law_761 rfl rfl ?_
  refine x_aload_n (pc := 762) 0 dL_law_762 rfl rfl ?_
  refine x_iload (pc := 763) dL_law_763 rfl ?_
  refine x_iconst (pc := 765) (nI 1) dL_law_765 (by decide) ?_
  refine x_iadd (pc := 766) dL_law_766 ?_
  refine x_sld (pc := 767) (6 * k + 1) hX (nI_add _ _) (by omega) dL_law_767 ?_
  refine x_aload_n (pc := 768) 0 dL_law_768 rfl rfl ?_
  refine x_iload (pc := 769) dL_law_769 rfl ?_
  refine x_iconst (pc := 771) (nI 2) dL_law_771 (by decide) ?_
  refine x_iadd (pc := 772) dL_law_772 ?_
  refine x_sld (pc := 773) (6 * k + 2) hX (nI_add _ _) (by omega) dL_law_773 ?_
  refine x_lawV (pc := 774) [.int (xs (6 * k + 1)), .int (xs (6 * k + 2))] (rest := []) dL_law_774 lL_116 rfl (zat_b rfl rfl) rfl (t1 1000 (by decide)) (Nat.le_of_ble_eq_true rfl) (zl_ok (by rw [hab]; rfl)) ?_
  refine x_aload_n (pc := 777) 2 dL_law_777 rfl rfl ?_
  refine x_aload_n (pc := 778) 0 dL_law_778 rfl rfl ?_
  refine x_iload (pc := 779) dL_law_779 rfl ?_
  refine x_iconst (pc := 781) (nI 1) dL_law_781 (by decide) ?_
  refine x_iadd (pc := 782) dL_law_782 ?_
  refine x_sld (pc := 783) (6 * k + 1) hX (nI_add _ _) (by omega) dL_law_783 ?_
  refine x_aload_n (pc := 784) 0 dL_law_784 rfl rfl ?_
  refine x_iload (pc := 785) dL_law_785 rfl ?_
  refine x_iconst (pc := 787) (nI 2) dL_law_787 (by decide) ?_
  refine x_iadd (pc := 788) dL_law_788 ?_
  refine x_sld (pc := 789) (6 * k + 2) hX (nI_add _ _) (by omega) dL_law_789 ?_
  refine x_lawV (pc := 790) [.int (xs (6 * k + 1)), .int (xs (6 * k + 2))] (rest := [.int r]) dL_law_790 lL_119 rfl (zat_b rfl rfl) rfl (t2 1000 (by decide)) (Nat.le_of_ble_eq_true rfl) (zl_ok (by rw [hab]; rfl)) ?_
  refine x_icmp_eq_t (pc := 793) 891 dL_law_793 (by decide) rfl ?_
  exact l_next (by omega) (kk κ' α' τ' hI)
theorem lw_c23 {k : Nat} {a b : Option Value} {P : Option Value → zMem → Prop} (hX : zXs E L xs) (hk : 6 * k + 6 ≤ L) (hab : (zlB a && zlB b) = true) (h : zCall E zI k κ α τ mX8_proof mX9_proof []) (kk : ∀ κ' α' τ', zI (k + 1) κ' α' τ' → zX E 1001 mL_law 23 (zLs (nI (6 * (k + 1))) a b) [] (κ', α', τ') P) : zX E 1001 mL_law 798 (zLs (nI (6 * k)) a b) [] (κ, α, τ) P := by
  obtain ⟨r, κ', α', τ', t1, t2, hI⟩ := h
  have hL := hX.2
  refine x_aload_n (pc := 798) 1 dL_law_798 rfl rfl ?_
  refine x_lawV (pc := 799) [] (rest := []) dL_law_799 lL_120 rfl (zat_b rfl rfl) rfl (t1 1000 (by decide)) (Nat.le_of_ble_eq_true rfl) (zl_ok (by rw [hab]; rfl)) ?_
  refine x_aload_n (pc := 802) 2 dL_law_802 rfl rfl ?_
  refine x_lawV (pc := 803) [] (rest := [.int r]) dL_law_803 lL_123 rfl (zat_b rfl rfl) rfl (t2 1000 (by decide)) (Nat.le_of_ble_eq_true rfl) (zl_ok (by rw [hab]; rfl)) ?_
  refine x_icmp_eq_t (pc := 806) 891 dL_law_806 (by decide) rfl ?_
  exact l_next (by omega) (kk κ' α' τ' hI)
theorem lw_c24 {k : Nat} {a b : Option Value} {P : Option Value → zMem → Prop} (hX : zXs E L xs) (hk : 6 * k + 6 ≤ L) (hab : (zlB a && zlB b) = true) (h : zCall E zI k κ α τ mX8_refute mX9_refute []) (kk : ∀ κ' α' τ', zI (k + 1) κ' α' τ' → zX E 1001 mL_law 23 (zLs (nI (6 * (k + 1))) a b) [] (κ', α', τ') P) : zX E 1001 mL_law 811 (zLs (nI (6 * k)) a b) [] (κ, α, τ) P := by
  obtain ⟨r, κ', α', τ', t1, t2, hI⟩ := h
  have hL := hX.2
  refine x_aload_n (pc := 811) 1 dL_law_811 rfl rfl ?_
  refine x_lawV (pc := 812) [] (rest := []) dL_law_812 lL_124 rfl (zat_b rfl rfl) rfl (t1 1000 (by decide)) (Nat.le_of_ble_eq_true rfl) (zl_ok (by rw [hab]; rfl)) ?_
  refine x_aload_n (pc := 815) 2 dL_law_815 rfl rfl ?_
  refine x_lawV (pc := 816) [] (rest := [.int r]) dL_law_816 lL_127 rfl (zat_b rfl rfl) rfl (t2 1000 (by decide)) (Nat.le_of_ble_eq_true rfl) (zl_ok (by rw [hab]; rfl)) ?_
  refine x_icmp_eq_t (pc := 819) 891 dL_law_819 (by decide) rfl ?_
  exact l_next (by omega) (kk κ' α' τ' hI)
theorem lw_c25 {k : Nat} {a b : Option Value} {P : Option Value → zMem → Prop} (hX : zXs E L xs) (hk : 6 * k + 6 ≤ L) (hab : (zlB a && zlB b) = true) (h : zCall E zI k κ α τ mX8_closed mX9_closed []) (kk : ∀ κ' α' τ', zI (k + 1) κ' α' τ' → zX E 1001 mL_law 23 (zLs (nI (6 * (k + 1))) a b) [] (κ', α', τ') P) : zX E 1001 mL_law 824 (zLs (nI (6 * k)) a b) [] (κ, α, τ) P := by
  obtain ⟨r, κ', α', τ', t1, t2, hI⟩ := h
  have hL := hX.2
  refine x_aload_n (pc := 824) 1 dL_law_824 rfl rfl ?_
  refine x_lawV (pc := 825) [] (rest := []) dL_law_825 lL_128 rfl (zat_b rfl rfl) rfl (t1 1000 (by decide)) (Nat.le_of_ble_eq_true rfl) (zl_ok (by rw [hab]; rfl)) ?_
  refine x_aload_n (pc := 828) 2 dL_law_828 rfl rfl ?_
  refine x_lawV (pc := 829) [] (rest := [.int r]) dL_law_829 lL_131 rfl (zat_b rfl rfl) rfl (t2 1000 (by decide)) (Nat.le_of_ble_eq_true rfl) (zl_ok (by rw [hab]; rfl)) ?_
  refine x_icmp_eq_t (pc := 832) 891 dL_law_832 (by decide) rfl ?_
  exact l_next (by omega) (kk κ' α' τ' hI)
theorem lw_c26 {k : Nat} {a b : Option Value} {P : Option Value → zMem → Prop} (hX : zXs E L xs) (hk : 6 * k + 6 ≤ L) (hab : (zlB a && zlB b) = true) (h : zCall E zI k κ α τ mX8_models mX9_models []) (kk : ∀ κ' α' τ', zI (k + 1) κ' α' τ' → zX E 1001 mL_law 23 (zLs (nI (6 * (k + 1))) a b) [] (κ', α', τ') P) : zX E 1001 mL_law 837 (zLs (nI (6 * k)) a b) [] (κ, α, τ) P := by
  obtain ⟨r, κ', α', τ', t1, t2, hI⟩ := h
  have hL := hX.2
  refine x_aload_n (pc := 837) 1 dL_law_837 rfl rfl ?_
  refine x_lawV (pc := 838) [] (rest := []) dL_law_838 lL_132 rfl (zat_b rfl rfl) rfl (t1 1000 (by decide)) (Nat.le_of_ble_eq_true rfl) (zl_ok (by rw [hab]; rfl)) ?_
  refine x_aload_n (pc := 841) 2 dL_law_841 rfl rfl ?_
  refine x_lawV (pc := 842) [] (rest := [.int r]) dL_law_842 lL_135 rfl (zat_b rfl rfl) rfl (t2 1000 (by decide)) (Nat.le_of_ble_eq_true rfl) (zl_ok (by rw [hab]; rfl)) ?_
  refine x_icmp_eq_t (pc := 845) 891 dL_law_845 (by decide) rfl ?_
  exact l_next (by omega) (kk κ' α' τ' hI)
theorem lw_c27 {k : Nat} {a b : Option Value} {P : Option Value → zMem → Prop} (hX : zXs E L xs) (hk : 6 * k + 6 ≤ L) (hab : (zlB a && zlB b) = true) (h : ∀ so : Bool, zCall E zI k κ α τ mX8_fixed mX9_fixed [.int (zbo so)]) (kk : ∀ κ' α' τ', zI (k + 1) κ' α' τ' → zX E 1001 mL_law 23 (zLs (nI (6 * (k + 1))) a b) [] (κ', α', τ') P) : zX E 1001 mL_law 850 (zLs (nI (6 * k)) a b) [] (κ, α, τ) P := by
  obtain ⟨r, κ', α', τ', t1, t2, hI⟩ := h (decide (¬ xs (6 * k + 1) = 0))
  have hL := hX.2
  have fin2 : ∀ so : Bool, decide (¬ xs (6 * k + 1) = 0) = so → zX E 1001 mL_law 883 (zLs (nI (6 * k)) a b) [.int (zbo so), .ref 100, .int r] (κ', α, τ') P := by
    intro so hs
    rw [hs] at t2
    refine x_lawV (pc := 883) [.int (zbo so)] (rest := [.int r]) dL_law_883 lL_140 rfl (zat_b rfl rfl) rfl (t2 1000 (by decide)) (Nat.le_of_ble_eq_true rfl) (zl_ok (by rw [hab]; rfl)) ?_
    refine x_icmp_eq_t (pc := 886) 891 dL_law_886 (by decide) rfl ?_
    exact l_next (by omega) (kk κ' α' τ' hI)
  have fin1 : ∀ so : Bool, decide (¬ xs (6 * k + 1) = 0) = so → zX E 1001 mL_law 865 (zLs (nI (6 * k)) a b) [.int (zbo so), .ref 0] (κ, α, τ) P := by
    intro so hs
    rw [hs] at t1
    refine x_lawV (pc := 865) [.int (zbo so)] (rest := []) dL_law_865 lL_136 rfl (zat_b rfl rfl) rfl (t1 1000 (by decide)) (Nat.le_of_ble_eq_true rfl) (zl_ok (by rw [hab]; rfl)) ?_
    refine x_aload_n (pc := 868) 2 dL_law_868 rfl rfl ?_
    refine x_aload_n (pc := 869) 0 dL_law_869 rfl rfl ?_
    refine x_iload (pc := 870) dL_law_870 rfl ?_
    refine x_iconst (pc := 872) (nI 1) dL_law_872 (by decide) ?_
    refine x_iadd (pc := 873) dL_law_873 ?_
    refine x_sld (pc := 874) (6 * k + 1) hX (nI_add _ _) (by omega) dL_law_874 ?_
    by_cases g : xs (6 * k + 1) = 0
    · refine x_if_eq_t (pc := 875) 882 dL_law_875 (by decide) g ?_
      refine x_iconst (pc := 882) (nI 0) dL_law_882 (by decide) ?_
      exact fin2 false (decide_eq_false (by simpa using g))
    · refine x_if_eq_f (pc := 875) 882 dL_law_875 (by decide) g ?_
      refine x_iconst (pc := 878) (nI 1) dL_law_878 (by decide) ?_
      refine x_goto (pc := 879) 883 dL_law_879 (by decide) ?_
      exact fin2 true (decide_eq_true g)
  refine x_aload_n (pc := 850) 1 dL_law_850 rfl rfl ?_
  refine x_aload_n (pc := 851) 0 dL_law_851 rfl rfl ?_
  refine x_iload (pc := 852) dL_law_852 rfl ?_
  refine x_iconst (pc := 854) (nI 1) dL_law_854 (by decide) ?_
  refine x_iadd (pc := 855) dL_law_855 ?_
  refine x_sld (pc := 856) (6 * k + 1) hX (nI_add _ _) (by omega) dL_law_856 ?_
  by_cases g : xs (6 * k + 1) = 0
  · refine x_if_eq_t (pc := 857) 864 dL_law_857 (by decide) g ?_
    refine x_iconst (pc := 864) (nI 0) dL_law_864 (by decide) ?_
    exact fin1 false (decide_eq_false (by simpa using g))
  · refine x_if_eq_f (pc := 857) 864 dL_law_857 (by decide) g ?_
    refine x_iconst (pc := 860) (nI 1) dL_law_860 (by decide) ?_
    refine x_goto (pc := 861) 865 dL_law_861 (by decide) ?_
    exact fin1 true (decide_eq_true g)
theorem lw_c16 {k : Nat} {a b : Option Value} {P : Option Value → zMem → Prop} (hX : zXs E L xs) (hk : 6 * k + 6 ≤ L) (hab : (zlB a && zlB b) = true) (h : zClau E zI k κ α τ (xs (6 * k + 1)) (xs (6 * k + 2))) (kk : ∀ a b κ' α' τ', (zlB a && zlB b) = true → zI (k + 1) κ' α' τ' → zX E 1001 mL_law 23 (zLs (nI (6 * (k + 1))) a b) [] (κ', α', τ') P) : zX E 1001 mL_law 568 (zLs (nI (6 * k)) a b) [] (κ, α, τ) P := by
  have hL := hX.2
  refine x_aload_n (pc := 568) 1 dL_law_568 rfl rfl ?_
  refine x_aload_n (pc := 569) 0 dL_law_569 rfl rfl ?_
  refine x_iload (pc := 570) dL_law_570 rfl ?_
  refine x_iconst (pc := 572) (nI 1) dL_law_572 (by decide) ?_
  refine x_iadd (pc := 573) dL_law_573 ?_
  refine x_sld (pc := 574) (6 * k + 1) hX (nI_add _ _) (by omega) dL_law_574 ?_
  refine x_aload_n (pc := 575) 0 dL_law_575 rfl rfl ?_
  refine x_iload (pc := 576) dL_law_576 rfl ?_
  refine x_iconst (pc := 578) (nI 2) dL_law_578 (by decide) ?_
  refine x_iadd (pc := 579) dL_law_579 ?_
  refine x_sld (pc := 580) (6 * k + 2) hX (nI_add _ _) (by omega) dL_law_580 ?_
  refine x_aload_n (pc := 581) 3 dL_law_581 rfl rfl ?_
  rcases h with ⟨v, α', t1, t2, hth, hI⟩ | ⟨v, α', t1, t2, hth, hI⟩
  · refine x_lawS (pc := 582) (rest := []) rfl dL_law_582 (t1 1000 (by decide)) (Nat.le_of_ble_eq_true rfl) (zl_ok (by rw [hab]; rfl)) ?_
    refine x_istore (pc := 585) dL_law_585 (by decide) rfl ?_
    refine x_aload_n (pc := 587) 2 dL_law_587 rfl rfl ?_
    refine x_aload_n (pc := 588) 0 dL_law_588 rfl rfl ?_
    refine x_iload (pc := 589) dL_law_589 rfl ?_
    refine x_iconst (pc := 591) (nI 1) dL_law_591 (by decide) ?_
    refine x_iadd (pc := 592) dL_law_592 ?_
    refine x_sld (pc := 593) (6 * k + 1) hX (nI_add _ _) (by omega) dL_law_593 ?_
    refine x_aload_n (pc := 594) 0 dL_law_594 rfl rfl ?_
    refine x_iload (pc := 595) dL_law_595 rfl ?_
    refine x_iconst (pc := 597) (nI 2) dL_law_597 (by decide) ?_
    refine x_iadd (pc := 598) dL_law_598 ?_
    refine x_sld (pc := 599) (6 * k + 2) hX (nI_add _ _) (by omega) dL_law_599 ?_
    refine x_lawV (pc := 600) [.int (xs (6 * k + 1)), .int (xs (6 * k + 2))] (rest := []) (ls := zLs (nI (6 * k)) (some (.int (nI 0))) b) dL_law_600 lL_92 rfl (zat_b rfl rfl) rfl (t2 1000 (by decide)) (Nat.le_of_ble_eq_true rfl) (zl_ok (by rw [Bool.and_eq_true] at hab; rw [hab.2]; rfl)) ?_
    refine x_istore (pc := 603) dL_law_603 (by decide) rfl ?_
    refine x_aload_n (pc := 605) 2 dL_law_605 rfl rfl ?_
    refine x_lawV (pc := 606) [] (rest := []) (ls := zLs (nI (6 * k)) (some (.int (nI 0))) (some (.int v))) dL_law_606 lL_93 rfl (zat_b rfl rfl) rfl (t_thrown 999) (Nat.le_of_ble_eq_true rfl) (zl_ok rfl) ?_
    rw [hth]
    refine x_iload (pc := 609) dL_law_609 rfl ?_
    refine x_icmp_eq_t (pc := 611) 616 dL_law_611 (by decide) rfl ?_
    refine x_iload (pc := 616) dL_law_616 rfl ?_
    refine x_if_ne_f (pc := 618) 633 dL_law_618 (by decide) rfl ?_
    refine x_aload_n (pc := 621) 3 dL_law_621 rfl rfl ?_
    refine x_iconst (pc := 622) (nI 0) dL_law_622 (by decide) ?_
    refine x_lald (pc := 623) 0 dL_law_623 (zar_b (p := 130) rfl rfl rfl) rfl (show 0 < 1 by decide) (by decide) ?_
    refine x_iload (pc := 624) dL_law_624 rfl ?_
    refine x_i2l (pc := 626) dL_law_626 ?_
    refine x_lcmp (pc := 627) dL_law_627 ?_
    refine x_if_eq_t (pc := 628) 633 dL_law_628 (by decide) ((lg_cmp_eq _ _).mpr rfl) ?_
    refine x_goto (pc := 633) 891 dL_law_633 (by decide) ?_
    exact l_next (a := some (.int (nI 0))) (b := some (.int v)) (by omega) (kk _ _ _ _ _ rfl hI)
  · refine x_lawS (pc := 582) (rest := []) rfl dL_law_582 (t1 1000 (by decide)) (Nat.le_of_ble_eq_true rfl) (zl_ok (by rw [hab]; rfl)) ?_
    refine x_istore (pc := 585) dL_law_585 (by decide) rfl ?_
    refine x_aload_n (pc := 587) 2 dL_law_587 rfl rfl ?_
    refine x_aload_n (pc := 588) 0 dL_law_588 rfl rfl ?_
    refine x_iload (pc := 589) dL_law_589 rfl ?_
    refine x_iconst (pc := 591) (nI 1) dL_law_591 (by decide) ?_
    refine x_iadd (pc := 592) dL_law_592 ?_
    refine x_sld (pc := 593) (6 * k + 1) hX (nI_add _ _) (by omega) dL_law_593 ?_
    refine x_aload_n (pc := 594) 0 dL_law_594 rfl rfl ?_
    refine x_iload (pc := 595) dL_law_595 rfl ?_
    refine x_iconst (pc := 597) (nI 2) dL_law_597 (by decide) ?_
    refine x_iadd (pc := 598) dL_law_598 ?_
    refine x_sld (pc := 599) (6 * k + 2) hX (nI_add _ _) (by omega) dL_law_599 ?_
    refine x_lawV (pc := 600) [.int (xs (6 * k + 1)), .int (xs (6 * k + 2))] (rest := []) (ls := zLs (nI (6 * k)) (some (.int (nI 1))) b) dL_law_600 lL_92 rfl (zat_b rfl rfl) rfl (t2 1000 (by decide)) (Nat.le_of_ble_eq_true rfl) (zl_ok (by rw [Bool.and_eq_true] at hab; rw [hab.2]; rfl)) ?_
    refine x_istore (pc := 603) dL_law_603 (by decide) rfl ?_
    refine x_aload_n (pc := 605) 2 dL_law_605 rfl rfl ?_
    refine x_lawV (pc := 606) [] (rest := []) (ls := zLs (nI (6 * k)) (some (.int (nI 1))) (some (.int v))) dL_law_606 lL_93 rfl (zat_b rfl rfl) rfl (t_thrown 999) (Nat.le_of_ble_eq_true rfl) (zl_ok rfl) ?_
    rw [hth]
    refine x_iload (pc := 609) dL_law_609 rfl ?_
    refine x_icmp_eq_t (pc := 611) 616 dL_law_611 (by decide) rfl ?_
    refine x_iload (pc := 616) dL_law_616 rfl ?_
    refine x_if_ne_t (pc := 618) 633 dL_law_618 (by decide) (by decide) ?_
    refine x_goto (pc := 633) 891 dL_law_633 (by decide) ?_
    exact l_next (a := some (.int (nI 1))) (b := some (.int v)) (by omega) (kk _ _ _ _ _ rfl hI)
theorem lw_loop (hX : zXs E L xs) (hst : ∀ k κ α τ, k < 512 → zI k κ α τ → zStep E zI k κ α τ) (hI1 : ∀ k κ α τ, zI k κ α τ → zI (k + 1) κ α τ) : ∀ m k κ α τ a b, 6 * k ≤ L → L ≤ 6 * k + 6 * m + 5 → (zlB a && zlB b) = true → zI k κ α τ → zX E 1001 mL_law 23 (zLs (nI (6 * k)) a b) [] (κ, α, τ) (fun r ν => r = some (.int (nI 1)) ∧ ∃ k κ α τ, k ≤ 512 ∧ zI k κ α τ ∧ ν = (κ, α, τ)) := by
  have hL := hX.2
  have out : ∀ k κ α τ a b, 6 * k ≤ L → L ≤ 6 * k + 5 → zI k κ α τ → zX E 1001 mL_law 23 (zLs (nI (6 * k)) a b) [] (κ, α, τ) (fun r ν => r = some (.int (nI 1)) ∧ ∃ k κ α τ, k ≤ 512 ∧ zI k κ α τ ∧ ν = (κ, α, τ)) := by
    intro k κ α τ a b h1 h2 hI
    refine x_iload (pc := 23) dL_law_23 rfl ?_
    refine x_aload_n (pc := 25) 0 dL_law_25 rfl rfl ?_
    refine x_slen (pc := 26) hX dL_law_26 ?_
    refine x_bipush (pc := 27) (nI 6) dL_law_27 (by decide) ?_
    refine x_isub (pc := 29) dL_law_29 ?_
    have hgt : nI L - nI 6 < nI (6 * k) := by
      have e1 : (nI L - nI 6).toInt = (L : Int) - 6 := pk_sub_toInt (by omega) (by omega)
      rw [Int32.lt_iff_toInt_lt, e1, nI_toInt (by omega)]
      omega
    refine x_icmp_gt_t (pc := 30) 897 dL_law_30 (by decide) hgt ?_
    refine x_iconst (pc := 897) (nI 1) dL_law_897 (by decide) ?_
    exact x_zret (pc := 898) dL_law_898 rfl (by decide) ⟨rfl, k, κ, α, τ, by omega, hI, rfl⟩
  intro m
  induction m with
  | zero =>
    intro k κ α τ a b h1 h2 hab hI
    exact out k κ α τ a b h1 (by omega) hI
  | succ m ih =>
    intro k κ α τ a b h1 h2 hab hI
    by_cases hlt : L ≤ 6 * k + 5
    · exact out k κ α τ a b h1 hlt hI
    · have hk6 : 6 * k + 6 ≤ L := by omega
      have kk : ∀ κ' α' τ', zI (k + 1) κ' α' τ' → zX E 1001 mL_law 23 (zLs (nI (6 * (k + 1))) a b) [] (κ', α', τ') (fun r ν => r = some (.int (nI 1)) ∧ ∃ k κ α τ, k ≤ 512 ∧ zI k κ α τ ∧ ν = (κ, α, τ)) := fun κ' α' τ' hI' => ih (k + 1) κ' α' τ' a b (by omega) (by omega) hab hI'
      have kk2 : ∀ a b κ' α' τ', (zlB a && zlB b) = true → zI (k + 1) κ' α' τ' → zX E 1001 mL_law 23 (zLs (nI (6 * (k + 1))) a b) [] (κ', α', τ') (fun r ν => r = some (.int (nI 1)) ∧ ∃ k κ α τ, k ≤ 512 ∧ zI k κ α τ ∧ ν = (κ, α, τ)) := fun a b κ' α' τ' hab' hI' => ih (k + 1) κ' α' τ' a b (by omega) (by omega) hab' hI'
      have hs := hst k κ α τ (by omega) hI
      refine x_iload (pc := 23) dL_law_23 rfl ?_
      refine x_aload_n (pc := 25) 0 dL_law_25 rfl rfl ?_
      refine x_slen (pc := 26) hX dL_law_26 ?_
      refine x_bipush (pc := 27) (nI 6) dL_law_27 (by decide) ?_
      refine x_isub (pc := 29) dL_law_29 ?_
      rw [pk_sub (by omega)]
      refine x_icmp_gt_f (pc := 30) 897 dL_law_30 (by decide) (nI_nlt (by omega) (by omega)) ?_
      refine x_aload_n (pc := 33) 0 dL_law_33 rfl rfl ?_
      refine x_iload (pc := 34) dL_law_34 rfl ?_
      refine x_sld (pc := 36) (6 * k) hX rfl (by omega) dL_law_36 ?_
      refine x_bipush (pc := 37) (nI 31) dL_law_37 (by decide) ?_
      refine x_iand (pc := 39) dL_law_39 ?_
      obtain ⟨j, hj, ej⟩ := pk_andE (xs (6 * k)) (m := nI 31) 5 (by decide)
      rw [ej]
      obtain ⟨h0, h1, h2, h3, h4, h5, h6, h7, h8, h9, h10, h11, h12, h13, h14, h15, h16, h17, h18, h19, h20, h21, h22, h23, h24, h25, h26, h27⟩ := hs
      by_cases h28 : 28 ≤ j
      · refine x_tableOut (pc := 40) 891 dL_law_40 (Or.inr (by rw [nI_toInt (by omega)]; omega)) (by decide) ?_
        exact l_next (by omega) (kk κ α τ (hI1 k κ α τ hI))
      · have hj28 : j = 0 ∨ j = 1 ∨ j = 2 ∨ j = 3 ∨ j = 4 ∨ j = 5 ∨ j = 6 ∨ j = 7 ∨ j = 8 ∨ j = 9 ∨ j = 10 ∨ j = 11 ∨ j = 12 ∨ j = 13 ∨ j = 14 ∨ j = 15 ∨ j = 16 ∨ j = 17 ∨ j = 18 ∨ j = 19 ∨ j = 20 ∨ j = 21 ∨ j = 22 ∨ j = 23 ∨ j = 24 ∨ j = 25 ∨ j = 26 ∨ j = 27 := by omega
        rcases hj28 with rfl | rfl | rfl | rfl | rfl | rfl | rfl | rfl | rfl | rfl | rfl | rfl | rfl | rfl | rfl | rfl | rfl | rfl | rfl | rfl | rfl | rfl | rfl | rfl | rfl | rfl | rfl | rfl
        · refine x_tableIn (pc := 40) (off := 128) 168 dL_law_40 (by decide) (by decide) (by decide) (by decide) ?_
          exact lw_c0 hX hk6 hab (h0 _ _ _ _ _) kk
        · refine x_tableIn (pc := 40) (off := 201) 241 dL_law_40 (by decide) (by decide) (by decide) (by decide) ?_
          exact lw_c1 hX hk6 hab (h1 _) kk
        · refine x_tableIn (pc := 40) (off := 226) 266 dL_law_40 (by decide) (by decide) (by decide) (by decide) ?_
          exact lw_c2 hX hk6 hab (h2) kk
        · refine x_tableIn (pc := 40) (off := 239) 279 dL_law_40 (by decide) (by decide) (by decide) (by decide) ?_
          exact lw_c3 hX hk6 hab (h3) kk
        · refine x_tableIn (pc := 40) (off := 252) 292 dL_law_40 (by decide) (by decide) (by decide) (by decide) ?_
          exact lw_c4 hX hk6 hab (h4 _) kk
        · refine x_tableIn (pc := 40) (off := 277) 317 dL_law_40 (by decide) (by decide) (by decide) (by decide) ?_
          exact lw_c5 hX hk6 hab (h5 _) kk
        · refine x_tableIn (pc := 40) (off := 302) 342 dL_law_40 (by decide) (by decide) (by decide) (by decide) ?_
          exact lw_c6 hX hk6 hab (h6) kk
        · refine x_tableIn (pc := 40) (off := 315) 355 dL_law_40 (by decide) (by decide) (by decide) (by decide) ?_
          exact lw_c7 hX hk6 hab (h7 _) kk
        · refine x_tableIn (pc := 40) (off := 340) 380 dL_law_40 (by decide) (by decide) (by decide) (by decide) ?_
          exact lw_c8 hX hk6 hab (h8) kk
        · refine x_tableIn (pc := 40) (off := 353) 393 dL_law_40 (by decide) (by decide) (by decide) (by decide) ?_
          exact lw_c9 hX hk6 hab (h9 _) kk
        · refine x_tableIn (pc := 40) (off := 378) 418 dL_law_40 (by decide) (by decide) (by decide) (by decide) ?_
          exact lw_c10 hX hk6 hab (h10 _) kk
        · refine x_tableIn (pc := 40) (off := 403) 443 dL_law_40 (by decide) (by decide) (by decide) (by decide) ?_
          exact lw_c11 hX hk6 hab (h11 _) kk
        · refine x_tableIn (pc := 40) (off := 428) 468 dL_law_40 (by decide) (by decide) (by decide) (by decide) ?_
          exact lw_c12 hX hk6 hab (h12 _) kk
        · refine x_tableIn (pc := 40) (off := 453) 493 dL_law_40 (by decide) (by decide) (by decide) (by decide) ?_
          exact lw_c13 hX hk6 hab (h13 _) kk
        · refine x_tableIn (pc := 40) (off := 478) 518 dL_law_40 (by decide) (by decide) (by decide) (by decide) ?_
          exact lw_c14 hX hk6 hab (h14 _) kk
        · refine x_tableIn (pc := 40) (off := 503) 543 dL_law_40 (by decide) (by decide) (by decide) (by decide) ?_
          exact lw_c15 hX hk6 hab (h15 _) kk
        · refine x_tableIn (pc := 40) (off := 528) 568 dL_law_40 (by decide) (by decide) (by decide) (by decide) ?_
          exact lw_c16 hX hk6 hab (h16 _ _) kk2
        · refine x_tableIn (pc := 40) (off := 596) 636 dL_law_40 (by decide) (by decide) (by decide) (by decide) ?_
          exact lw_c17 hX hk6 hab (h17 _) kk
        · refine x_tableIn (pc := 40) (off := 621) 661 dL_law_40 (by decide) (by decide) (by decide) (by decide) ?_
          exact lw_c18 hX hk6 hab (h18 _) kk
        · refine x_tableIn (pc := 40) (off := 646) 686 dL_law_40 (by decide) (by decide) (by decide) (by decide) ?_
          exact lw_c19 hX hk6 hab (h19) kk
        · refine x_tableIn (pc := 40) (off := 659) 699 dL_law_40 (by decide) (by decide) (by decide) (by decide) ?_
          exact lw_c20 hX hk6 hab (h20 _ _) kk
        · refine x_tableIn (pc := 40) (off := 696) 736 dL_law_40 (by decide) (by decide) (by decide) (by decide) ?_
          exact lw_c21 hX hk6 hab (h21 _) kk
        · refine x_tableIn (pc := 40) (off := 721) 761 dL_law_40 (by decide) (by decide) (by decide) (by decide) ?_
          exact lw_c22 hX hk6 hab (h22 _ _) kk
        · refine x_tableIn (pc := 40) (off := 758) 798 dL_law_40 (by decide) (by decide) (by decide) (by decide) ?_
          exact lw_c23 hX hk6 hab (h23) kk
        · refine x_tableIn (pc := 40) (off := 771) 811 dL_law_40 (by decide) (by decide) (by decide) (by decide) ?_
          exact lw_c24 hX hk6 hab (h24) kk
        · refine x_tableIn (pc := 40) (off := 784) 824 dL_law_40 (by decide) (by decide) (by decide) (by decide) ?_
          exact lw_c25 hX hk6 hab (h25) kk
        · refine x_tableIn (pc := 40) (off := 797) 837 dL_law_40 (by decide) (by decide) (by decide) (by decide) ?_
          exact lw_c26 hX hk6 hab (h26) kk
        · refine x_tableIn (pc := 40) (off := 810) 850 dL_law_40 (by decide) (by decide) (by decide) (by decide) ?_
          exact lw_c27 hX hk6 hab h27 kk
end LL
