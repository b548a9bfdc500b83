/-! a call that throws: clause of the class, and the law's own clause that catches it -/
def zNSE : String := "java/util/NoSuchElementException"
def zchn : List String := ["java/lang/RuntimeException", "java/lang/Exception"]
def k_clv (κ : Nat → Nat → Int32) (c : Nat) (w : Int32) : Int32 := if w = -1 then nI (kLn κ c) else if w = -2 then zbo (decide (¬ κ 14 c = 0)) else if w = -3 then zbo (decide (κ 14 c = nI 2)) else κ 16 (kS κ c + w.toNatClampNeg)
section TH
variable {E : zEnv} {κ α : Nat → Nat → Int32} {τ : (Nat → Nat → Int64) × (Nat → Nat)} {μ ν : zMem} {r : Option Value} {d : Nat} {y : zY}
theorem s_clauseOk (d : Nat) {c : Nat} {w : Int32} (hW : kW κ τ) (hc : c < kN κ) (hw : ¬ w < -3) (hw2 : w < nI (kLn κ c)) : zTr E (d + 2) mX8_clause [.ref 0, .int (nI c), .int w] (κ, α, τ) (some (.int (k_clv κ c w))) (κ, α, τ) := by
  have h4 := hW.n400
  have hl30 := hW.l30 hc
  refine zM.tr (zM_of [some (.ref 0), some (.int (nI c)), some (.int w), none] (by decide) rfl (Nat.le_of_ble_eq_true rfl) ?_)
  unfold k_clv
  refine x_aload_n (pc := 0) 0 dX8_clause_0 rfl rfl ?_
  refine x_getr (pc := 1) (10) dX8_clause_1 fX8_10 (zat_b rfl rfl) rfl ?_
  refine x_getr (pc := 4) (11) dX8_clause_4 fX8_91 (zat_b rfl rfl) rfl ?_
  refine x_astore_n (pc := 7) 3 dX8_clause_7 rfl (by decide) rfl ?_
  refine x_iload_n (pc := 8) 1 dX8_clause_8 rfl rfl ?_
  refine x_if_lt_f (pc := 9) 35 dX8_clause_9 (by decide) (nI_pos (by omega)) ?_
  refine x_iload_n (pc := 12) 1 dX8_clause_12 rfl rfl ?_
  refine x_aload_n (pc := 13) 3 dX8_clause_13 rfl rfl ?_
  refine x_geti_l (pc := 14) dX8_clause_14 fX8_137 (zat_b rfl rfl) rfl rfl ?_
  rw [hW.n]
  refine x_icmp_ge_f (pc := 17) 35 dX8_clause_17 (by decide) (nI_ge (by omega) (by omega)) ?_
  refine x_iload_n (pc := 20) 2 dX8_clause_20 rfl rfl ?_
  refine x_bipush (pc := 21) (-3) dX8_clause_21 (by decide) ?_
  refine x_icmp_lt_f (pc := 23) 35 dX8_clause_23 (by decide) (hw) ?_
  refine x_iload_n (pc := 26) 2 dX8_clause_26 rfl rfl ?_
  refine x_aload_n (pc := 27) 3 dX8_clause_27 rfl rfl ?_
  refine x_iload_n (pc := 28) 1 dX8_clause_28 rfl rfl ?_
  refine x_callV1i (pc := 29) dX8_clause_29 lX8_169 (zat_b rfl rfl) rfl (s_lengthOf d hW hc) (Nat.le_of_ble_eq_true rfl) (Or.inl zgr) ?_
  refine x_icmp_lt_t (pc := 32) 43 dX8_clause_32 (by decide) (hw2) ?_
  by_cases g1 : w = -1
  · rw [if_pos g1]
    subst g1
    refine x_iload_n (pc := 43) 2 dX8_clause_43 rfl rfl ?_
    refine x_tableIn (pc := 44) (off := 28) 72 dX8_clause_44  (by decide) (by decide) (by decide) (by decide) ?_
    refine x_aload_n (pc := 72) 3 dX8_clause_72 rfl rfl ?_
    refine x_iload_n (pc := 73) 1 dX8_clause_73 rfl rfl ?_
    refine x_callV1i (pc := 74) dX8_clause_74 lX8_169 (zat_b rfl rfl) rfl (s_lengthOf d hW hc) (Nat.le_of_ble_eq_true rfl) (Or.inl zgr) ?_
    refine x_iret (pc := 77) dX8_clause_77 rfl ?_
    exact ⟨rfl, rfl⟩
  · rw [if_neg g1]
    by_cases g2 : w = -2
    · rw [if_pos g2]
      subst g2
      refine x_iload_n (pc := 43) 2 dX8_clause_43 rfl rfl ?_
      refine x_tableIn (pc := 44) (off := 34) 78 dX8_clause_44  (by decide) (by decide) (by decide) (by decide) ?_
      refine x_aload_n (pc := 78) 3 dX8_clause_78 rfl rfl ?_
      refine x_iload_n (pc := 79) 1 dX8_clause_79 rfl rfl ?_
      refine x_callV1i (pc := 80) dX8_clause_80 lX8_175 (zat_b rfl rfl) rfl (s_isLearnt d (by omega)) (Nat.le_of_ble_eq_true rfl) (Or.inl zgr) ?_
      cases decide (¬ κ 14 c = 0) with
      | true =>
        refine x_if_eq_f (pc := 83) 90 dX8_clause_83 (by decide) (by decide) ?_
        refine x_iconst (pc := 86) (nI 1) dX8_clause_86 (by decide) ?_
        refine x_goto (pc := 87) 91 dX8_clause_87 (by decide) ?_
        refine x_iret (pc := 91) dX8_clause_91 rfl ?_
        exact ⟨rfl, rfl⟩
      | false =>
        refine x_if_eq_t (pc := 83) 90 dX8_clause_83 (by decide) (rfl) ?_
        refine x_iconst (pc := 90) (nI 0) dX8_clause_90 (by decide) ?_
        refine x_iret (pc := 91) dX8_clause_91 rfl ?_
        exact ⟨rfl, rfl⟩
    · rw [if_neg g2]
      by_cases g3 : w = -3
      · rw [if_pos g3]
        subst g3
        refine x_iload_n (pc := 43) 2 dX8_clause_43 rfl rfl ?_
        refine x_tableIn (pc := 44) (off := 48) 92 dX8_clause_44  (by decide) (by decide) (by decide) (by decide) ?_
        refine x_aload_n (pc := 92) 3 dX8_clause_92 rfl rfl ?_
        refine x_iload_n (pc := 93) 1 dX8_clause_93 rfl rfl ?_
        refine x_callV1i (pc := 94) dX8_clause_94 lX8_178 (zat_b rfl rfl) rfl (s_isGone d (by omega)) (Nat.le_of_ble_eq_true rfl) (Or.inl zgr) ?_
        cases decide (κ 14 c = nI 2) with
        | true =>
          refine x_if_eq_f (pc := 97) 104 dX8_clause_97 (by decide) (by decide) ?_
          refine x_iconst (pc := 100) (nI 1) dX8_clause_100 (by decide) ?_
          refine x_goto (pc := 101) 105 dX8_clause_101 (by decide) ?_
          refine x_iret (pc := 105) dX8_clause_105 rfl ?_
          exact ⟨rfl, rfl⟩
        | false =>
          refine x_if_eq_t (pc := 97) 104 dX8_clause_97 (by decide) (rfl) ?_
          refine x_iconst (pc := 104) (nI 0) dX8_clause_104 (by decide) ?_
          refine x_iret (pc := 105) dX8_clause_105 rfl ?_
          exact ⟨rfl, rfl⟩
      · rw [if_neg g3]
        have e : ∀ n : Int, (Int32.ofInt n).toInt = n → w.toInt = n → w = Int32.ofInt n := fun n h1 h2 => Int32.toInt_inj.mp (h2.trans h1.symm)
        have hlo : ¬ w.toInt < -3 := fun z => hw (Int32.lt_iff_toInt_lt.mpr z)
        have ho : -1 < w.toInt := by
          rcases Int.lt_or_le (-1) w.toInt with q | q
          · exact q
          · exfalso
            rcases (show w.toInt = -1 ∨ w.toInt = -2 ∨ w.toInt = -3 by omega) with q3 | q3 | q3
            · exact g1 (e (-1) (by decide) q3)
            · exact g2 (e (-2) (by decide) q3)
            · exact g3 (e (-3) (by decide) q3)
        have h0 : ¬ w < 0 := fun z => by have := Int32.lt_iff_toInt_lt.mp z; rw [show (0 : Int32).toInt = 0 by decide] at this; omega
        obtain ⟨i, hi, rfl⟩ := nI_of h0
        have hin : i < kLn κ c := by
          rcases Nat.lt_or_ge i (kLn κ c) with q | q
          · exact q
          · exact absurd hw2 (nI_nlt q (by omega))
        rw [nI_clamp (by omega)]
        refine x_iload_n (pc := 43) 2 dX8_clause_43 rfl rfl ?_
        refine x_tableOut (pc := 44) 106 dX8_clause_44 ( Or.inr ho) (by decide) ?_
        refine x_aload_n (pc := 106) 3 dX8_clause_106 rfl rfl ?_
        refine x_iload_n (pc := 107) 1 dX8_clause_107 rfl rfl ?_
        refine x_iload_n (pc := 108) 2 dX8_clause_108 rfl rfl ?_
        refine x_callV2i (pc := 109) dX8_clause_109 lX8_181 (zat_b rfl rfl) rfl (s_literalOf d hW hc hin) (Nat.le_of_ble_eq_true rfl) (Or.inl zgr) ?_
        refine x_iret (pc := 112) dX8_clause_112 rfl ?_
        exact ⟨rfl, rfl⟩
/-- the entry's locals -/
theorem zentry {ad : Nat → Nat} {as : List Value} {m : MethodId} {n : Nat} {ls : List (Option Value)} (hl : zpad n (zent as) = ls) (hlen : (zent as).length ≤ n) : ∃ LS, entryFrame m (as.map (ztv ad)).toArray n = F0 m 0 LS [] ∧ zlr ad n ls LS := by
  have hsl : (lg_sl (as.map (ztv ad))).length = (zent as).length := by
    clear hl hlen
    induction as with
    | nil => rfl
    | cons v as ih =>
      simp only [List.map_cons, lg_sl, List.flatMap_cons, List.length_append, zent] at ih ⊢
      rw [ih, ztv_cat]
      by_cases h : v.category = 2
      · rw [if_pos h]; simp [h]; omega
      · rw [if_neg h]
        have hb : Nat.beq v.category 2 = false := by
          cases hb : Nat.beq v.category 2 with
          | false => rfl
          | true => exact absurd (Nat.eq_of_beq_eq_true hb) h
        rw [hb]; simp; omega
  have he := lv_entry (as.map (ztv ad)) (n := n) (by rw [hsl]; exact hlen)
  have hargs : ∀ (as : List Value) (b i : Nat) (v : Value), (zent as)[i]? = some (some v) → (b + i, ztv ad v) ∈ lv_args b (as.map (ztv ad)) := by
    intro as
    induction as with
    | nil => intro b i v h; simp [zent] at h
    | cons w as ih =>
      intro b i v h
      simp only [List.map_cons, lv_args, zent] at h ⊢
      rw [ztv_cat]
      by_cases hc : w.category = 2
      · rw [if_pos hc]
        rw [show Nat.beq w.category 2 = true by rw [hc]; rfl] at h
        simp only [cond_true] at h
        match i, h with
        | 0, h => cases h; exact List.mem_cons_self
        | 1, h => simp at h
        | i + 2, h =>
          have := ih (b + 2) i v (by simpa using h)
          rw [show b + (i + 2) = b + 2 + i by omega]
          exact List.mem_cons_of_mem _ this
      · rw [if_neg hc]
        have hb : Nat.beq w.category 2 = false := by
          cases hb : Nat.beq w.category 2 with
          | false => rfl
          | true => exact absurd (Nat.eq_of_beq_eq_true hb) hc
        rw [hb] at h
        simp only [cond_false] at h
        match i, h with
        | 0, h => cases h; exact List.mem_cons_self
        | i + 1, h =>
          have := ih (b + 1) i v (by simpa using h)
          rw [show b + (i + 1) = b + 1 + i by omega]
          exact List.mem_cons_of_mem _ this
  refine ⟨_, lg_entry_eq _ _ _, he.1, he.2.1, fun i v hi => ?_⟩
  subst hl
  unfold zpad at hi
  by_cases h : i < (zent as).length
  · rw [List.getElem?_append_left h] at hi
    have := he.2.2 _ (hargs as 0 i v hi)
    rwa [Nat.zero_add] at this
  · rw [List.getElem?_append_right (Nat.le_of_not_lt h), List.getElem?_replicate] at hi
    split at hi <;> cases hi
/-- the contract of a method that has handlers -/
def zwdW (y : zY) (hh : List (Nat × Nat × Nat × Nat)) : List Cond := .codeWith y.1 y.2.1 y.2.2.1 y.2.2.2 hh :: zT
def zTrW (E : zEnv) (d : Nat) (y : zY) (hh : List (Nat × Nat × Nat × Nat)) (as : List Value) (μ : zMem) (r : Option Value) (ν : zMem) : Prop :=
  zmono μ ν ∧ ∀ ad : Nat → Nat, Met E.1 y.1 (zwdW y hh) (zrm d μ ν) (va_Pc (as.map (ztv ad)) (zPre E ad μ)) (zQ E ad μ r ν) (zg ν 5 - zg μ 5) (zg ν 6 - zg μ 6) (zA E)
theorem zTrW_of {hh : List (Nat × Nat × Nat × Nat)} {as : List Value} (ls : List (Option Value)) (hn : plainName y.1.cls = true) (hl : zpad y.2.2.1 (zent as) = ls) (hlen : (zent as).length ≤ y.2.2.1) (k : zGo E d y 0 ls [] μ r ν) : zTrW E d y hh as μ r ν := by
  refine ⟨k.1, fun ad => ?_⟩
  refine va_MetW (cc := y.2.1) (maxL := y.2.2.1) (ret := y.2.2.2) (hh := hh) hn rfl ?_
  intro p e s m args below meth c s₁ B hml hv
  obtain ⟨rfl, hK, hW, hlo, hN⟩ := hv
  have hts := atoms_spec (ws := zwdW y hh) B.pre
  have C : zCx E y p s m (as.map (ztv ad)).toArray meth c := ⟨B.exec, B.bytes, hml, B.returns, B.notSynchronized, findClass_of_methodNamed B.named, fun w h => hts w (List.mem_cons_of_mem _ h), hK, hlo, hN⟩
  obtain ⟨LS, e1, hz⟩ := zentry (ad := ad) (m := m) hl hlen
  rw [e1]
  have K := k.2 p e s m (as.map (ztv ad)).toArray below meth c μ ad ad s.heap [] LS C zmono.rf zagr.rf (fun _ => rfl) hW va_S.rf hz
  rw [Nat.sub_self, Nat.sub_self] at K
  exact K
abbrev mL_clause : zY := (yL_clause, cL_clause, 5, some .int)
def zhh : List (Nat × Nat × Nat × Nat) := [(0, 10, 13, 13)]
/-- the law's clause where the class's answers: out has the answer -/
theorem s_lawOk (d : Nat) {c : Nat} {w : Int32} (hW : kW κ τ) (hc : c < kN κ) (hw : ¬ w < -3) (hw2 : w < nI (kLn κ c)) : zTrW E (d + 3) mL_clause zhh [.ref 0, .int (nI c), .int w, .ref 130] (κ, α, τ) (some (.int (nI 0))) (zwl (κ, α, τ) 130 0 (k_clv κ c w).toInt64) := by
  have k : zX E (d + 3) mL_clause 0 [some (.ref 0), some (.int (nI c)), some (.int w), some (.ref 130), none] [] (κ, α, τ) (fun r ν => r = some (.int (nI 0)) ∧ ν = zwl (κ, α, τ) 130 0 (k_clv κ c w).toInt64) := by
    refine x_aload_n (pc := 0) 3 dL_clause_0 rfl rfl ?_
    refine x_iconst (pc := 1) (nI 0) dL_clause_1 (by decide) ?_
    refine x_aload_n (pc := 2) 0 dL_clause_2 rfl rfl ?_
    refine x_iload_n (pc := 3) 1 dL_clause_3 rfl rfl ?_
    refine x_iload_n (pc := 4) 2 dL_clause_4 rfl rfl ?_
    refine x_callV2i (pc := 5) dL_clause_5 lL_7 (zat_b rfl rfl) rfl (s_clauseOk d hW hc hw hw2) (Nat.le_of_ble_eq_true rfl) (Or.inl zgr) ?_
    refine x_i2l (pc := 8) dL_clause_8 ?_
    refine x_last (pc := 9) 0 dL_clause_9 (zar_b (p := 130) rfl rfl rfl) rfl (show 0 < 1 by decide) (by decide) ?_
    refine x_goto (pc := 10) 17 dL_clause_10 (by decide) ?_
    refine x_iconst (pc := 17) (nI 0) dL_clause_17 (by decide) ?_
    exact x_iret (pc := 18) dL_clause_18 rfl ⟨rfl, rfl⟩
  obtain ⟨r, ν, ⟨rfl, rfl⟩, k⟩ := k
  exact zTrW_of _ (by decide) rfl (Nat.le_of_ble_eq_true rfl) k
end TH
