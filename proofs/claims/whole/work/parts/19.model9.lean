/-! the reference: learning, its end -/
section M10
variable {E : zEnv} {κ α : Nat → Nat → Int32} {τ : (Nat → Nat → Int64) × (Nat → Nat)} {P : Option Value → zMem → Prop}
theorem l_le8i (d : Nat) {c n : Int32} {cN l : Nat} (hv : α 101 0 = nI (aV α)) (h30 : aV α ≤ 30) (hcN : cN < 400) : ∀ m v xs, v + m = aV α + 1 → 1 ≤ v → (xs ++ a_inL α l m v).length ≤ 30 → (∀ w', zX E d mX9_learns 280 [some (.ref 100), some (.int c), some (.int n), some (.int (nI cN)), some (.int (nI (xs ++ a_inL α l m v).length)), some (.int (nI l)), some w'] [] (κ, a_wrl α (1326 + 30 * cN) (xs ++ a_inL α l m v), τ) P) → zX E d mX9_learns 201 [some (.ref 100), some (.int c), some (.int n), some (.int (nI cN)), some (.int (nI xs.length)), some (.int (nI l)), some (.int (nI v))] [] (κ, a_wrl α (1326 + 30 * cN) xs, τ) P := by
  intro m
  induction m with
  | zero =>
    intro v xs hm hv1 hlen K
    unfold a_inL at K
    rw [List.append_nil] at K
    refine x_iload (pc := 201) dX9_learns_201 rfl ?_
    refine x_aload_n (pc := 203) 0 dX9_learns_203 rfl rfl ?_
    refine x_getr (pc := 204) (101) dX9_learns_204 fX9_7 (zat_b rfl rfl) rfl ?_
    refine x_iconst (pc := 207) (nI 0) dX9_learns_207 (by decide) ?_
    have hj208 : 0 < 13326 := by omega
    refine x_iald_h (pc := 208) (0) dX9_learns_208 (zar_b rfl rfl rfl) rfl (by first | rfl | simp only [pk_mul, nI_add] | simp only [zon, pk_mul, nI_add]) hj208 (Nat.lt_of_lt_of_le hj208 (by decide)) ?_
    rw [a_wrl_p (Or.inr (by omega)), hv]
    refine x_icmp_gt_t (pc := 209) 280 dX9_learns_209 (by decide) (nI_lt (by omega) (by omega)) ?_
    exact K _
  | succ m ih =>
    intro v xs hm hv1 hlen K
    unfold a_inL at K hlen
    refine x_iload (pc := 201) dX9_learns_201 rfl ?_
    refine x_aload_n (pc := 203) 0 dX9_learns_203 rfl rfl ?_
    refine x_getr (pc := 204) (101) dX9_learns_204 fX9_7 (zat_b rfl rfl) rfl ?_
    refine x_iconst (pc := 207) (nI 0) dX9_learns_207 (by decide) ?_
    have hj208 : 0 < 13326 := by omega
    refine x_iald_h (pc := 208) (0) dX9_learns_208 (zar_b rfl rfl rfl) rfl (by first | rfl | simp only [pk_mul, nI_add] | simp only [zon, pk_mul, nI_add]) hj208 (Nat.lt_of_lt_of_le hj208 (by decide)) ?_
    rw [a_wrl_p (Or.inr (by omega)), hv]
    refine x_icmp_gt_f (pc := 209) 280 dX9_learns_209 (by decide) (nI_nlt (by omega) (by omega)) ?_
    refine x_aload_n (pc := 212) 0 dX9_learns_212 rfl rfl ?_
    refine x_getr (pc := 213) (112) dX9_learns_213 fX9_38 (zat_b rfl rfl) rfl ?_
    refine x_iload (pc := 216) dX9_learns_216 rfl ?_
    have hj218 : v < 31 := by omega
    refine x_zald_h (pc := 218) (v) dX9_learns_218 (zar_b rfl rfl rfl) rfl (by first | rfl | simp only [pk_mul, nI_add] | simp only [zon, pk_mul, nI_add]) hj218 (Nat.lt_of_lt_of_le hj218 (by decide)) ?_
    rw [a_wrl_p (Or.inl (by decide))]
    by_cases h1 : α 112 v = 0
    · rw [if_neg (fun q => q.1 h1), List.nil_append] at K hlen
      refine x_if_eq_t (pc := 219) 274 dX9_learns_219 (by decide) (h1) ?_
      refine x_iinc (pc := 274) (nI (v + 1)) dX9_learns_274 rfl (zinc _) (by decide) rfl ?_
      refine x_goto (pc := 277) 201 dX9_learns_277 (by decide) ?_
      exact ih (v + 1) xs (by omega) (by omega) hlen K
    ·
      refine x_if_eq_f (pc := 219) 274 dX9_learns_219 (by decide) (h1) ?_
      refine x_aload_n (pc := 222) 0 dX9_learns_222 rfl rfl ?_
      refine x_getr (pc := 223) (106) dX9_learns_223 fX9_26 (zat_b rfl rfl) rfl ?_
      refine x_iload (pc := 226) dX9_learns_226 rfl ?_
      have hj228 : v < 31 := by omega
      refine x_iald_h (pc := 228) (v) dX9_learns_228 (zar_b rfl rfl rfl) rfl (by first | rfl | simp only [pk_mul, nI_add] | simp only [zon, pk_mul, nI_add]) hj228 (Nat.lt_of_lt_of_le hj228 (by decide)) ?_
      rw [a_wrl_p (Or.inl (by decide))]
      by_cases h2 : α 106 v = nI l
      · rw [if_pos ⟨h1, h2⟩, ← List.append_assoc] at K hlen
        have hx : xs.length < 30 := by simp at hlen; omega
        have J : zX E d mX9_learns 270 [some (.ref 100), some (.int c), some (.int n), some (.int (nI cN)), some (.int (nI xs.length)), some (.int (nI l)), some (.int (nI v))] [.int (a_litOf α v), .int (nI 1326 + nI 30 * nI cN + nI xs.length), .ref 101] (κ, a_wrl α (1326 + 30 * cN) xs, τ) P := by
          have hj270 : 1326 + 30 * cN + xs.length < 13326 := by omega
          refine x_iast_h (pc := 270) (1326 + 30 * cN + xs.length) dX9_learns_270 (zar_b rfl rfl rfl) rfl (by first | rfl | simp only [pk_mul, nI_add] | simp only [zon, pk_mul, nI_add]) hj270 (Nat.lt_of_lt_of_le hj270 (by decide)) ?_
          refine x_iinc (pc := 271) (nI (xs.length + 1)) dX9_learns_271 rfl (zinc _) (by decide) rfl ?_
          refine x_iinc (pc := 274) (nI (v + 1)) dX9_learns_274 rfl (zinc _) (by decide) rfl ?_
          refine x_goto (pc := 277) 201 dX9_learns_277 (by decide) ?_
          rw [a_wrl_snoc]
          have := ih (v + 1) (xs ++ [a_litOf α v]) (by omega) (by omega) hlen K
          rw [List.length_append, List.length_singleton] at this
          exact this
        refine x_iload (pc := 229) dX9_learns_229 rfl ?_
        refine x_icmp_eq_t (pc := 231) 237 dX9_learns_231 (by decide) (h2) ?_
        refine x_aload_n (pc := 237) 0 dX9_learns_237 rfl rfl ?_
        refine x_getr (pc := 238) (101) dX9_learns_238 fX9_7 (zat_b rfl rfl) rfl ?_
        refine x_sipush (pc := 241) (nI 1326) dX9_learns_241 (by decide) ?_
        refine x_bipush (pc := 244) (nI 30) dX9_learns_244 (by decide) ?_
        refine x_iload_n (pc := 246) 3 dX9_learns_246 rfl rfl ?_
        refine x_imul (pc := 247) dX9_learns_247 ?_
        refine x_iadd (pc := 248) dX9_learns_248 ?_
        refine x_iload (pc := 249) dX9_learns_249 rfl ?_
        refine x_iadd (pc := 251) dX9_learns_251 ?_
        refine x_aload_n (pc := 252) 0 dX9_learns_252 rfl rfl ?_
        refine x_getr (pc := 253) (105) dX9_learns_253 fX9_23 (zat_b rfl rfl) rfl ?_
        refine x_iload (pc := 256) dX9_learns_256 rfl ?_
        have hj258 : v < 31 := by omega
        refine x_iald_h (pc := 258) (v) dX9_learns_258 (zar_b rfl rfl rfl) rfl (by first | rfl | simp only [pk_mul, nI_add] | simp only [zon, pk_mul, nI_add]) hj258 (Nat.lt_of_lt_of_le hj258 (by decide)) ?_
        rw [a_wrl_p (Or.inl (by decide))]
        by_cases h3 : 0 < α 105 v
        · unfold a_litOf at J
          rw [if_pos h3] at J
          refine x_if_le_f (pc := 259) 268 dX9_learns_259 (by decide) (Int32.not_le.mpr h3) ?_
          refine x_iload (pc := 262) dX9_learns_262 rfl ?_
          refine x_ineg (pc := 264) dX9_learns_264 ?_
          refine x_goto (pc := 265) 270 dX9_learns_265 (by decide) ?_
          exact J
        · unfold a_litOf at J
          rw [if_neg h3] at J
          refine x_if_le_t (pc := 259) 268 dX9_learns_259 (by decide) (Int32.not_lt.mp h3) ?_
          refine x_iload (pc := 268) dX9_learns_268 rfl ?_
          exact J
      · rw [if_neg (fun q => h2 q.2), List.nil_append] at K hlen
        refine x_iload (pc := 229) dX9_learns_229 rfl ?_
        refine x_icmp_eq_f (pc := 231) 237 dX9_learns_231 (by decide) (h2) ?_
        refine x_goto (pc := 234) 274 dX9_learns_234 (by decide) ?_
        refine x_iinc (pc := 274) (nI (v + 1)) dX9_learns_274 rfl (zinc _) (by decide) rfl ?_
        refine x_goto (pc := 277) 201 dX9_learns_277 (by decide) ?_
        exact ih (v + 1) xs (by omega) (by omega) hlen K
theorem l_le8 (d : Nat) {c n : Int32} {cN : Nat} (hv : α 101 0 = nI (aV α)) (h30 : aV α ≤ 30) (hcN : cN < 400) : ∀ l xs w, l < 2 ^ 31 → (xs ++ a_outL α l).length ≤ 30 → (∀ w'', zX E d mX9_learns 286 [some (.ref 100), some (.int c), some (.int n), some (.int (nI cN)), some (.int (nI (xs ++ a_outL α l).length)), some w'', none] [] (κ, a_wrl α (1326 + 30 * cN) (xs ++ a_outL α l), τ) P) → zX E d mX9_learns 193 [some (.ref 100), some (.int c), some (.int n), some (.int (nI cN)), some (.int (nI xs.length)), some (.int (nI l)), w] [] (κ, a_wrl α (1326 + 30 * cN) xs, τ) P := by
  intro l
  induction l with
  | zero =>
    intro xs w hl hlen K
    unfold a_outL at K
    rw [List.append_nil] at K
    refine x_iload (pc := 193) dX9_learns_193 rfl ?_
    refine x_if_le_t (pc := 195) 286 dX9_learns_195 (by decide) (by decide) ?_
    refine zX.sub (zs1 (zs1 (zs1 (zs1 (zs1 (zs1 (zsn zse))))))) ?_
    exact K _
  | succ l ih =>
    intro xs w hl hlen K
    unfold a_outL at K hlen
    rw [← List.append_assoc] at K hlen
    refine x_iload (pc := 193) dX9_learns_193 rfl ?_
    refine x_if_le_f (pc := 195) 286 dX9_learns_195 (by decide) (nI_nle (by omega) hl) ?_
    refine x_iconst (pc := 198) (nI 1) dX9_learns_198 (by decide) ?_
    refine x_istore (pc := 199) dX9_learns_199 (by decide) rfl ?_
    refine l_le8i d hv h30 hcN (aV α) 1 xs (by omega) (by omega) (by rw [List.length_append] at hlen; omega) (fun w' => ?_)
    refine x_iinc (pc := 280) (nI (l)) dX9_learns_280 rfl (zdec _) (by decide) rfl ?_
    refine x_goto (pc := 283) 193 dX9_learns_283 (by decide) ?_
    exact ih (xs ++ a_inL α (l + 1) (aV α) 1) _ (by omega) hlen K
theorem l_le10 (d : Nat) {c n : Int32} {cN : Nat} {w4 : Int32} {V : Nat} (hV30 : V ≤ 30) : ∀ m v β, v + m = V + 1 → 1 ≤ v → β 101 0 = nI V → (∀ w', zX E d mX9_learns 400 [some (.ref 100), some (.int c), some (.int n), some (.int (nI cN)), some (.int w4), some w', none] [] (κ, zit a_scF v m β, τ) P) → zX E d mX9_learns 328 [some (.ref 100), some (.int c), some (.int n), some (.int (nI cN)), some (.int w4), some (.int (nI v)), none] [] (κ, β, τ) P := by
  intro m
  induction m with
  | zero =>
    intro v β hm hv1 h0 K
    refine x_iload (pc := 328) dX9_learns_328 rfl ?_
    refine x_aload_n (pc := 330) 0 dX9_learns_330 rfl rfl ?_
    refine x_getr (pc := 331) (101) dX9_learns_331 fX9_7 (zat_b rfl rfl) rfl ?_
    refine x_iconst (pc := 334) (nI 0) dX9_learns_334 (by decide) ?_
    have hj335 : 0 < 13326 := by omega
    refine x_iald_h (pc := 335) (0) dX9_learns_335 (zar_b rfl rfl rfl) rfl (by first | rfl | simp only [pk_mul, nI_add] | simp only [zon, pk_mul, nI_add]) hj335 (Nat.lt_of_lt_of_le hj335 (by decide)) ?_
    rw [h0]
    refine x_icmp_gt_t (pc := 336) 400 dX9_learns_336 (by decide) (nI_lt (by omega) (by omega)) ?_
    exact K _
  | succ m ih =>
    intro v β hm hv1 h0 K
    refine x_iload (pc := 328) dX9_learns_328 rfl ?_
    refine x_aload_n (pc := 330) 0 dX9_learns_330 rfl rfl ?_
    refine x_getr (pc := 331) (101) dX9_learns_331 fX9_7 (zat_b rfl rfl) rfl ?_
    refine x_iconst (pc := 334) (nI 0) dX9_learns_334 (by decide) ?_
    have hj335 : 0 < 13326 := by omega
    refine x_iald_h (pc := 335) (0) dX9_learns_335 (zar_b rfl rfl rfl) rfl (by first | rfl | simp only [pk_mul, nI_add] | simp only [zon, pk_mul, nI_add]) hj335 (Nat.lt_of_lt_of_le hj335 (by decide)) ?_
    rw [h0]
    have J : ∀ x, x = (β 101 (63 + v) + if β 113 v = 0 then nI 0 else nI 16) → zX E d mX9_learns 367 [some (.ref 100), some (.int c), some (.int n), some (.int (nI cN)), some (.int w4), some (.int (nI v)), none] [.int x, .int (nI 63 + nI v), .ref 101] (κ, β, τ) P := by
      intro x hx
      have hj367 : 63 + v < 13326 := by omega
      refine x_iast_h (pc := 367) (63 + v) dX9_learns_367 (zar_b rfl rfl rfl) rfl (by first | rfl | simp only [pk_mul, nI_add] | simp only [zon, pk_mul, nI_add]) hj367 (Nat.lt_of_lt_of_le hj367 (by decide)) ?_
      refine x_aload_n (pc := 368) 0 dX9_learns_368 rfl rfl ?_
      refine x_getr (pc := 369) (101) dX9_learns_369 fX9_7 (zat_b rfl rfl) rfl ?_
      refine x_bipush (pc := 372) (nI 63) dX9_learns_372 (by decide) ?_
      refine x_iload (pc := 374) dX9_learns_374 rfl ?_
      refine x_iadd (pc := 376) dX9_learns_376 ?_
      refine x_dup2 (pc := 377) dX9_learns_377 rfl rfl ?_
      have hj378 : 63 + v < 13326 := by omega
      refine x_iald_h (pc := 378) (63 + v) dX9_learns_378 (zar_b rfl rfl rfl) rfl (by first | rfl | simp only [pk_mul, nI_add] | simp only [zon, pk_mul, nI_add]) hj378 (Nat.lt_of_lt_of_le hj378 (by decide)) ?_
      rw [zup_same]
      refine x_aload_n (pc := 379) 0 dX9_learns_379 rfl rfl ?_
      refine x_getr (pc := 380) (101) dX9_learns_380 fX9_7 (zat_b rfl rfl) rfl ?_
      refine x_bipush (pc := 383) (nI 63) dX9_learns_383 (by decide) ?_
      refine x_iload (pc := 385) dX9_learns_385 rfl ?_
      refine x_iadd (pc := 387) dX9_learns_387 ?_
      have hj388 : 63 + v < 13326 := by omega
      refine x_iald_h (pc := 388) (63 + v) dX9_learns_388 (zar_b rfl rfl rfl) rfl (by first | rfl | simp only [pk_mul, nI_add] | simp only [zon, pk_mul, nI_add]) hj388 (Nat.lt_of_lt_of_le hj388 (by decide)) ?_
      rw [zup_same]
      refine x_bipush (pc := 389) (nI 8) dX9_learns_389 (by decide) ?_
      refine x_idiv (pc := 391) dX9_learns_391 (by decide) ?_
      refine x_isub (pc := 392) dX9_learns_392 ?_
      have hj393 : 63 + v < 13326 := by omega
      refine x_iast_h (pc := 393) (63 + v) dX9_learns_393 (zar_b rfl rfl rfl) rfl (by first | rfl | simp only [pk_mul, nI_add] | simp only [zon, pk_mul, nI_add]) hj393 (Nat.lt_of_lt_of_le hj393 (by decide)) ?_
      refine x_iinc (pc := 394) (nI (v + 1)) dX9_learns_394 rfl (zinc _) (by decide) rfl ?_
      refine x_goto (pc := 397) 328 dX9_learns_397 (by decide) ?_
      refine ih (v + 1) _ (by omega) (by omega) (by rw [zup_i (by omega), zup_i (by omega)]; exact h0) ?_
      have e : a_scF v β = zup (zup β 101 (63 + v) x) 101 (63 + v) (x - x / nI 8) := by unfold a_scF; rw [hx]
      have e2 : zit a_scF v (m + 1) β = zit a_scF (v + 1) m (a_scF v β) := rfl
      rw [e2, e] at K
      exact K
    refine x_icmp_gt_f (pc := 336) 400 dX9_learns_336 (by decide) (nI_nlt (by omega) (by omega)) ?_
    refine x_aload_n (pc := 339) 0 dX9_learns_339 rfl rfl ?_
    refine x_getr (pc := 340) (101) dX9_learns_340 fX9_7 (zat_b rfl rfl) rfl ?_
    refine x_bipush (pc := 343) (nI 63) dX9_learns_343 (by decide) ?_
    refine x_iload (pc := 345) dX9_learns_345 rfl ?_
    refine x_iadd (pc := 347) dX9_learns_347 ?_
    refine x_dup2 (pc := 348) dX9_learns_348 rfl rfl ?_
    have hj349 : 63 + v < 13326 := by omega
    refine x_iald_h (pc := 349) (63 + v) dX9_learns_349 (zar_b rfl rfl rfl) rfl (by first | rfl | simp only [pk_mul, nI_add] | simp only [zon, pk_mul, nI_add]) hj349 (Nat.lt_of_lt_of_le hj349 (by decide)) ?_
    refine x_aload_n (pc := 350) 0 dX9_learns_350 rfl rfl ?_
    refine x_getr (pc := 351) (113) dX9_learns_351 fX9_41 (zat_b rfl rfl) rfl ?_
    refine x_iload (pc := 354) dX9_learns_354 rfl ?_
    have hj356 : v < 31 := by omega
    refine x_zald_h (pc := 356) (v) dX9_learns_356 (zar_b rfl rfl rfl) rfl (by first | rfl | simp only [pk_mul, nI_add] | simp only [zon, pk_mul, nI_add]) hj356 (Nat.lt_of_lt_of_le hj356 (by decide)) ?_
    by_cases h : β 113 v = 0
    ·
      refine x_if_eq_t (pc := 357) 365 dX9_learns_357 (by decide) (h) ?_
      refine x_iconst (pc := 365) (nI 0) dX9_learns_365 (by decide) ?_
      refine x_iadd (pc := 366) dX9_learns_366 ?_
      exact J _ (by rw [if_pos h])
    ·
      refine x_if_eq_f (pc := 357) 365 dX9_learns_357 (by decide) (h) ?_
      refine x_bipush (pc := 360) (nI 16) dX9_learns_360 (by decide) ?_
      refine x_goto (pc := 362) 366 dX9_learns_362 (by decide) ?_
      refine x_iadd (pc := 366) dX9_learns_366 ?_
      exact J _ (by rw [if_neg h])
theorem zit_scF : ∀ m v a i, (i < 63 + v ∨ 63 + v + m ≤ i) → zit a_scF v m a 101 i = a 101 i
  | 0, v, a, i, h => rfl
  | m + 1, v, a, i, h => by
    show zit a_scF (v + 1) m (a_scF v a) 101 i = _
    rw [zit_scF m (v + 1) _ i (by omega)]
    unfold a_scF
    rw [zup_i (by omega), zup_i (by omega)]
theorem a_scF_off (v : Nat) (a : Nat → Nat → Int32) : zoff [101] a (a_scF v a) := (zoff.rf.up (by decide)).up (by decide)
theorem a_wrl_off (b : Nat) (xs : List Int32) : zoff [101] α (a_wrl α b xs) := fun p hp => by
  funext j
  exact a_wrl_p (Or.inl (fun e => hp (by rw [e]; decide)))
theorem a_begins_off (f n : Int32) : zoff [101] α (a_begins α f n) := (((zoff.rf.up (by decide)).up (by decide)).up (by decide)).up (by decide)
theorem a_l9_off (c : Nat) : zoff [101, 112, 113, 114] α (a_l9 α c) := by
  have h6 : zoff [101] (a_l5 α c) (a_l6 α c) := a_begins_off _ _
  have h7 : zoff [101] (a_l6 α c) (a_l7 α c) := a_wrl_off _ _
  have h8 : zoff [101] (a_l7 α c) (a_l8 α c) := ((zoff.rf.up (by decide)).up (by decide)).up (by decide)
  have h9 : zoff [101] (a_l8 α c) (a_l9 α c) := zit_off _ a_scF_off _ _ _
  exact ((a_l5_off α c).mono (by decide)).tr ((h6.tr (h7.tr (h8.tr h9))).mono (by decide))
theorem a_leaveL_101 (b : Int32) {j : Nat} (hj : 62 < j) : ∀ n α, (∀ i, i < n → lok 30 (α 109 i)) → a_leaveL b n α 101 j = α 101 j
  | 0, α, h => rfl
  | n + 1, α, h => by
    unfold a_leaveL
    split
    · obtain ⟨g1, g2, -⟩ := (h n (by omega)).is (Nat.le_refl _)
      rw [a_leaveL_101 b hj n _ (fun i hi => by rw [zup_p (by decide), zup_p (by decide), zup_p (by decide)]; exact h i (by omega))]
      rw [zup_p (by decide), zup_i (by omega), zup_p (by decide)]
    · rfl
theorem a_leaves_101 {b : Int32} {t j : Nat} (hQ : aQ α t) (hj : 62 < j) : a_leaves α b 101 j = α 101 j := by
  unfold a_leaves
  rw [zup_p (by decide)]
  have hc : (α 100 10).toNatClampNeg = t := by rw [hQ.1]; exact nI_clamp (by have := hQ.2.1; omega)
  rw [hc]
  exact a_leaveL_101 b hj t α hQ.2.2
/-- what learning wants -/
def lnOK (α : Nat → Nat → Int32) (c : Nat) : Prop :=
  resOK 31 (a_l2 α c) ∧ (∀ v, v < 31 → vp_nar .boolean (a_l3 α c 112 v) = a_l3 α c 112 v) ∧
  (∀ v, 1 ≤ v → v ≤ aV α → ¬ a_l3 α c 112 v = 0 → ¬ α 107 v = -1 → ∃ r, r < aN α ∧ α 107 v = nI r) ∧
  a_cnt (a_l5 α c) = (a_lst α c).length ∧ 1 ≤ (a_lst α c).length ∧ (a_lst α c).length ≤ 30 ∧
  (∃ t, a_l10 α c 100 10 = nI t ∧ t < 30)
theorem t_learns (d : Nat) {c t lv : Nat} (hW : aW α) (hN : aN α < 400) (hc : c < aN α) (hln : α 101 6 = nI (aLn α)) (hln2 : aLn α ≤ 400) (hQ : aQ α t) (hlv : α 100 11 = nI lv) (hlv2 : lv < 2 ^ 31) (hK : lnOK α c) : zTr E (d + 3) mX9_learns [.ref 100, .int (nI c)] (κ, α, τ) none (κ, a_learns α c, τ) := by
  obtain ⟨k1, k2, k3, k4, k5, k6, t', k7, k8⟩ := hK
  have h30 := hW.v30
  refine zM.tr (zM_of [some (.ref 100), some (.int (nI c)), none, none, none, none, none] (by decide) rfl (Nat.le_of_ble_eq_true rfl) ?_)
  refine x_iconst (pc := 0) (nI 0) dX9_learns_0 (by decide) ?_
  refine x_istore_n (pc := 1) 2 dX9_learns_1 rfl (by decide) rfl ?_
  refine l_le1 (d + 3) 31 0 α (by omega) (fun w' => ?_)
  have o1 : zoff [112, 113, 114] α (zit a_rsF 0 31 α) := zit_off _ a_rsF_off _ _ _
  have hc1 : c < aN (zit a_rsF 0 31 α) := by rw [zo_N o1 (by decide)]; exact hc
  refine x_aload_n (pc := 28) 0 dX9_learns_28 rfl rfl ?_
  refine x_iload_n (pc := 29) 1 dX9_learns_29 rfl rfl ?_
  refine x_iconst (pc := 30) (nI 0) dX9_learns_30 (by decide) ?_
  refine x_callV2v (pc := 31) dX9_learns_31 lX9_117 (zat_b rfl rfl) rfl (t_brings d (but := 0) (hW.off o1 (by decide)) hc1 (by decide)) (Nat.le_of_ble_eq_true rfl) (Or.inl zgr) ?_
  have hW2 := hW.off (a_l2_off α c) (by decide)
  refine l_le3 d 31 (a_l2 α c) _ hW2 k1 (fun w' => ?_)
  have hW3 := hW.off (a_l3_off α c) (by decide)
  refine x_iconst (pc := 68) (nI 0) dX9_learns_68 (by decide) ?_
  refine x_istore_n (pc := 69) 2 dX9_learns_69 rfl (by decide) rfl ?_
  refine l_le4 (d + 3) 31 0 (a_l3 α c) (by omega) k2 (fun w' => ?_)
  have o4 : zoff [112, 113, 114] α (zit a_wlF 0 31 (a_l3 α c)) := (a_l3_off α c).tr (zit_off _ a_wlF_off _ _ _)
  have hW4 := hW.off o4 (by decide)
  have wl112 : ∀ m w a v, zit a_wlF w m a 112 v = a 112 v := by
    intro m
    induction m with
    | zero => intro w a v; rfl
    | succ m ih => intro w a v; show zit a_wlF (w + 1) m (a_wlF w a) 112 v = _; rw [ih]; exact zup_p (by decide)
  refine x_iconst (pc := 94) (nI 1) dX9_learns_94 (by decide) ?_
  refine x_istore_n (pc := 95) 2 dX9_learns_95 rfl (by decide) rfl ?_
  refine l_le5 d h30 (aV α) 1 _ (by omega) (by omega) hW4 (zo_V o4 (by decide)) (fun v q1 q2 q3 q4 => ?_) (fun w' => ?_)
  · rw [wl112] at q3
    rw [o4.at (by decide)] at q4
    rw [zo_N o4 (by decide), o4.at (by decide)]
    exact k3 v q1 q2 q3 q4
  have o5 := a_l5_off α c
  have hW5 := hW.off o5 (by decide)
  have hV5 : aV (a_l5 α c) = aV α := zo_V o5 (by decide)
  have hN5 : aN (a_l5 α c) = aN α := zo_N o5 (by decide)
  show zX E (d + 3) mX9_learns 140 _ [] (κ, a_l5 α c, τ) _
  refine x_iconst (pc := 140) (nI 0) dX9_learns_140 (by decide) ?_
  refine x_istore_n (pc := 141) 2 dX9_learns_141 rfl (by decide) rfl ?_
  refine x_iconst (pc := 142) (nI 1) dX9_learns_142 (by decide) ?_
  refine x_istore_n (pc := 143) 3 dX9_learns_143 rfl (by decide) rfl ?_
  refine l_le6 (d + 3) hW5 (aV α) 1 0 (by omega) (by omega) (fun w' => ?_)
  have e6 : 0 + zcnt (fun v => decide (¬ a_l5 α c 112 v = 0)) 1 (aV α) = a_cnt (a_l5 α c) := by unfold a_cnt; rw [hV5, Nat.zero_add]
  rw [e6]
  refine x_aload_n (pc := 177) 0 dX9_learns_177 rfl rfl ?_
  refine x_iconst (pc := 178) (nI 1) dX9_learns_178 (by decide) ?_
  refine x_iload_n (pc := 179) 2 dX9_learns_179 rfl rfl ?_
  refine x_callV2i (pc := 180) dX9_learns_180 lX9_89 (zat_b rfl rfl) rfl (t_begins (d + 1) (nI 1) (nI (a_cnt (a_l5 α c))) hW5.n (by omega)) (Nat.le_of_ble_eq_true rfl) (Or.inl zgr) ?_
  rw [hN5]
  show zX E (d + 3) mX9_learns 183 _ _ (κ, a_l6 α c, τ) _
  have o6 : zoff [101] (a_l5 α c) (a_l6 α c) := a_begins_off _ _
  have z6 : ∀ i, i ≠ 1 → i ≠ 2 → i < 125 → a_l6 α c 101 i = α 101 i := by
    intro i h1 h2 h3
    unfold a_l6 a_begins
    rw [zup_i h2, zup_i h1, zup_i (by omega), zup_i (by omega)]
    exact o5.at (by decide) i
  have hV6 : aV (a_l6 α c) = aV α := by unfold aV; rw [z6 0 (by decide) (by decide) (by decide)]
  have hv6 : a_l6 α c 101 0 = nI (aV (a_l6 α c)) := by rw [hV6, z6 0 (by decide) (by decide) (by decide)]; exact hW.v
  have hl6 : a_l6 α c 100 11 = nI lv := by rw [o6.at (by decide), o5.at (by decide)]; exact hlv
  have hlc : (α 100 11).toNatClampNeg = lv := by rw [hlv]; exact nI_clamp hlv2
  refine x_istore_n (pc := 183) 3 dX9_learns_183 rfl (by decide) rfl ?_
  refine x_iconst (pc := 184) (nI 0) dX9_learns_184 (by decide) ?_
  refine x_istore (pc := 185) dX9_learns_185 (by decide) rfl ?_
  refine x_aload_n (pc := 187) 0 dX9_learns_187 rfl rfl ?_
  refine x_geti_h (pc := 188) dX9_learns_188 fX9_105 (zat_b rfl rfl) rfl rfl ?_
  rw [hl6]
  refine x_istore (pc := 191) dX9_learns_191 (by decide) rfl ?_
  have hlst : a_lst α c = a_outL (a_l6 α c) lv := by unfold a_lst; rw [hlc]
  have hlok : ∀ k, k < (a_lst α c).length → lok 30 ((a_lst α c).getD k 0) := by
    intro k hk
    rw [List.getD_eq_getElem?_getD, List.getElem?_eq_getElem hk]
    refine a_outL_lok (a_l6 α c) (by rw [hV6]; exact h30) lv _ ?_
    rw [← hlst]
    exact List.getElem_mem hk
  have z7 : ∀ i, i ≠ 1 → i ≠ 2 → i < 125 → a_l7 α c 101 i = α 101 i := by
    intro i h1 h2 h3
    unfold a_l7
    rw [a_wrl_p (Or.inr (by omega))]
    exact z6 i h1 h2 h3
  have hlit : ∀ k, k < (a_lst α c).length → a_l9 α c 101 (1326 + 30 * aN α + k) = (a_lst α c).getD k 0 := by
    intro k hk
    unfold a_l9
    rw [zit_scF _ _ _ _ (by omega)]
    unfold a_l8
    rw [zup_i (by omega), zup_i (by omega), zup_i (by omega)]
    unfold a_l7 a_wrl
    rw [if_pos ⟨rfl, by omega, by omega⟩]
    congr 1
    omega
  have key : ∀ w'', zX E (d + 3) mX9_learns 286 [some (.ref 100), some (.int (nI c)), some (.int (nI (a_cnt (a_l5 α c)))), some (.int (nI (aN α))), some (.int (nI (a_lst α c).length)), some w'', none] [] (κ, a_l7 α c, τ) (fun a m => a = none ∧ m = (κ, a_learns α c, τ)) := by
    intro w''
    refine x_aload_n (pc := 286) 0 dX9_learns_286 rfl rfl ?_
    refine x_getr (pc := 287) (101) dX9_learns_287 fX9_7 (zat_b rfl rfl) rfl ?_
    refine x_sipush (pc := 290) (nI 925) dX9_learns_290 (by decide) ?_
    refine x_aload_n (pc := 293) 0 dX9_learns_293 rfl rfl ?_
    refine x_getr (pc := 294) (101) dX9_learns_294 fX9_7 (zat_b rfl rfl) rfl ?_
    refine x_bipush (pc := 297) (nI 6) dX9_learns_297 (by decide) ?_
    have hj299 : 6 < 13326 := by omega
    refine x_iald_h (pc := 299) (6) dX9_learns_299 (zar_b rfl rfl rfl) rfl (by first | rfl | simp only [pk_mul, nI_add] | simp only [zon, pk_mul, nI_add]) hj299 (Nat.lt_of_lt_of_le hj299 (by decide)) ?_
    rw [z7 6 (by decide) (by decide) (by decide), hln]
    refine x_iadd (pc := 300) dX9_learns_300 ?_
    refine x_iload_n (pc := 301) 3 dX9_learns_301 rfl rfl ?_
    have hj302 : 925 + aLn α < 13326 := by omega
    refine x_iast_h (pc := 302) (925 + aLn α) dX9_learns_302 (zar_b rfl rfl rfl) rfl (by first | rfl | simp only [pk_mul, nI_add] | simp only [zon, pk_mul, nI_add]) hj302 (Nat.lt_of_lt_of_le hj302 (by decide)) ?_
    refine x_aload_n (pc := 303) 0 dX9_learns_303 rfl rfl ?_
    refine x_getr (pc := 304) (101) dX9_learns_304 fX9_7 (zat_b rfl rfl) rfl ?_
    refine x_bipush (pc := 307) (nI 6) dX9_learns_307 (by decide) ?_
    refine x_dup2 (pc := 309) dX9_learns_309 rfl rfl ?_
    have hj310 : 6 < 13326 := by omega
    refine x_iald_h (pc := 310) (6) dX9_learns_310 (zar_b rfl rfl rfl) rfl (by first | rfl | simp only [pk_mul, nI_add] | simp only [zon, pk_mul, nI_add]) hj310 (Nat.lt_of_lt_of_le hj310 (by decide)) ?_
    rw [zup_i (by omega), z7 6 (by decide) (by decide) (by decide), hln]
    refine x_iconst (pc := 311) (nI 1) dX9_learns_311 (by decide) ?_
    refine x_iadd (pc := 312) dX9_learns_312 ?_
    rw [nI_add]
    have hj313 : 6 < 13326 := by omega
    refine x_iast_h (pc := 313) (6) dX9_learns_313 (zar_b rfl rfl rfl) rfl (by first | rfl | simp only [pk_mul, nI_add] | simp only [zon, pk_mul, nI_add]) hj313 (Nat.lt_of_lt_of_le hj313 (by decide)) ?_
    refine x_aload_n (pc := 314) 0 dX9_learns_314 rfl rfl ?_
    refine x_getr (pc := 315) (101) dX9_learns_315 fX9_7 (zat_b rfl rfl) rfl ?_
    refine x_bipush (pc := 318) (nI 8) dX9_learns_318 (by decide) ?_
    refine x_dup2 (pc := 320) dX9_learns_320 rfl rfl ?_
    have hj321 : 8 < 13326 := by omega
    refine x_iald_h (pc := 321) (8) dX9_learns_321 (zar_b rfl rfl rfl) rfl (by first | rfl | simp only [pk_mul, nI_add] | simp only [zon, pk_mul, nI_add]) hj321 (Nat.lt_of_lt_of_le hj321 (by decide)) ?_
    rw [zup_i (by decide), zup_i (by omega), z7 8 (by decide) (by decide) (by decide)]
    refine x_iconst (pc := 322) (nI 1) dX9_learns_322 (by decide) ?_
    refine x_iadd (pc := 323) dX9_learns_323 ?_
    have hj324 : 8 < 13326 := by omega
    refine x_iast_h (pc := 324) (8) dX9_learns_324 (zar_b rfl rfl rfl) rfl (by first | rfl | simp only [pk_mul, nI_add] | simp only [zon, pk_mul, nI_add]) hj324 (Nat.lt_of_lt_of_le hj324 (by decide)) ?_
    refine x_iconst (pc := 325) (nI 1) dX9_learns_325 (by decide) ?_
    refine x_istore (pc := 326) dX9_learns_326 (by decide) rfl ?_
    show zX E (d + 3) mX9_learns 328 _ [] (κ, a_l8 α c, τ) _
    have z8 : a_l8 α c 101 0 = nI (aV α) := by
      unfold a_l8
      rw [zup_i (by decide), zup_i (by decide), zup_i (by omega), z7 0 (by decide) (by decide) (by decide)]
      exact hW.v
    refine l_le10 (d + 3) h30 (aV α) 1 (a_l8 α c) (by omega) (by omega) z8 (fun w' => ?_)
    show zX E (d + 3) mX9_learns 400 _ [] (κ, a_l9 α c, τ) _
    have hQ9 : aQ (a_l9 α c) t := hQ.off (a_l9_off c) (by decide) (by decide)
    have last : ∀ b, b = (if 1 < a_cnt (a_l5 α c) then a_l9 α c 106 (zv (a_l9 α c 101 (1326 + 30 * aN α + 1))) else nI 0) → zX E (d + 3) mX9_learns 424 [some (.ref 100), some (.int (nI c)), some (.int (nI (a_cnt (a_l5 α c)))), some (.int (nI (aN α))), some (.int (nI (a_lst α c).length)), some w', none] [.int b, .ref 100] (κ, a_l9 α c, τ) (fun a m => a = none ∧ m = (κ, a_learns α c, τ)) := by
      intro b hb
      have e10 : a_leaves (a_l9 α c) b = a_l10 α c := by unfold a_l10; rw [hb]
      refine x_callV1v (pc := 424) dX9_learns_424 lX9_131 (zat_b rfl rfl) rfl (t_leaves d b hQ9) (Nat.le_of_ble_eq_true rfl) (Or.inl zgr) ?_
      rw [e10]
      have hl0 : lok 30 (a_l10 α c 101 (1326 + 30 * aN α + 0)) := by
        rw [← e10, a_leaves_101 hQ9 (by omega), hlit 0 (by omega)]
        exact hlok 0 (by omega)
      refine x_aload_n (pc := 427) 0 dX9_learns_427 rfl rfl ?_
      refine x_aload_n (pc := 428) 0 dX9_learns_428 rfl rfl ?_
      refine x_iload_n (pc := 429) 3 dX9_learns_429 rfl rfl ?_
      refine x_iconst (pc := 430) (nI 0) dX9_learns_430 (by decide) ?_
      refine x_callV2i (pc := 431) dX9_learns_431 lX9_108 (zat_b rfl rfl) rfl (t_literal (d + 1) (aN α) 0 hN (by decide)) (Nat.le_of_ble_eq_true rfl) (Or.inl zgr) ?_
      refine x_iload_n (pc := 434) 3 dX9_learns_434 rfl rfl ?_
      refine x_callV2v (pc := 435) dX9_learns_435 lX9_135 (zat_b rfl rfl) rfl (t_comes d hl0 k7 k8) (Nat.le_of_ble_eq_true rfl) (Or.inl zgr) ?_
      refine x_vret (pc := 438) dX9_learns_438 rfl ?_
      exact ⟨rfl, rfl⟩
    by_cases h : 1 < a_cnt (a_l5 α c)
    · have hk1 : 1 < (a_lst α c).length := by omega
      have hl1 : lok 30 (a_l9 α c 101 (1326 + 30 * aN α + 1)) := by rw [hlit 1 hk1]; exact hlok 1 hk1
      obtain ⟨g1, g2, g3, g4, g5⟩ := hl1.is (Nat.le_refl _)
      refine x_aload_n (pc := 400) 0 dX9_learns_400 rfl rfl ?_
      refine x_iload_n (pc := 401) 2 dX9_learns_401 rfl rfl ?_
      refine x_iconst (pc := 402) (nI 1) dX9_learns_402 (by decide) ?_
      refine x_icmp_le_f (pc := 403) 423 dX9_learns_403 (by decide) (nI_ge h (by omega)) ?_
      refine x_aload_n (pc := 406) 0 dX9_learns_406 rfl rfl ?_
      refine x_getr (pc := 407) (106) dX9_learns_407 fX9_26 (zat_b rfl rfl) rfl ?_
      refine x_aload_n (pc := 410) 0 dX9_learns_410 rfl rfl ?_
      refine x_iload_n (pc := 411) 3 dX9_learns_411 rfl rfl ?_
      refine x_iconst (pc := 412) (nI 1) dX9_learns_412 (by decide) ?_
      refine x_callV2i (pc := 413) dX9_learns_413 lX9_108 (zat_b rfl rfl) rfl (t_literal (d + 1) (aN α) 1 hN (by decide)) (Nat.le_of_ble_eq_true rfl) (Or.inl zgr) ?_
      refine x_callS1i (pc := 416) dX9_learns_416 lX9_71 (t_size (d + 1) _) (Nat.le_of_ble_eq_true rfl) (Or.inl zgr) ?_
      have hj419 : zv (a_l9 α c 101 (1326 + 30 * aN α + 1)) < 31 := by omega
      refine x_iald_h (pc := 419) (zv (a_l9 α c 101 (1326 + 30 * aN α + 1))) dX9_learns_419 (zar_b rfl rfl rfl) rfl (g3) hj419 (Nat.lt_of_lt_of_le hj419 (by decide)) ?_
      refine x_goto (pc := 420) 424 dX9_learns_420 (by decide) ?_
      exact last _ (by rw [if_pos h])
    ·
      refine x_aload_n (pc := 400) 0 dX9_learns_400 rfl rfl ?_
      refine x_iload_n (pc := 401) 2 dX9_learns_401 rfl rfl ?_
      refine x_iconst (pc := 402) (nI 1) dX9_learns_402 (by decide) ?_
      refine x_icmp_le_t (pc := 403) 423 dX9_learns_403 (by decide) (nI_le (by omega) (by omega)) ?_
      refine x_iconst (pc := 423) (nI 0) dX9_learns_423 (by decide) ?_
      exact last _ (by rw [if_neg h])
  have := l_le8 (E := E) (κ := κ) (τ := τ) (P := fun a m => a = none ∧ m = (κ, a_learns α c, τ)) (d + 3) (c := nI c) (n := nI (a_cnt (a_l5 α c))) hv6 (by rw [hV6]; exact h30) hN lv [] none hlv2 (by rw [List.nil_append, ← hlst]; exact k6) (fun w'' => by
    rw [List.nil_append, ← hlst]
    exact key w'')
  rw [a_wrl_nil] at this
  exact this
end M10
