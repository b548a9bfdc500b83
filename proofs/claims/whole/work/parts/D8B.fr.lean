/-! what reading leaves alone -/
section SW
variable {κ α : Nat → Nat → Int32} {τ : (Nat → Nat → Int64) × (Nat → Nat)} {p i : Nat}
theorem adv_5 (x : ¬ (p = 5 ∧ (i = 4 ∨ i = 6 ∨ i = 7))) : k_adv κ p i = κ p i := by unfold k_adv; split <;> exact tok0_at _ (by omega)
theorem ref_5 {k : Int32} (x : ¬ (p = 5 ∧ (i = 4 ∨ i = 6 ∨ i = 7))) : k_ref κ k p i = κ p i := if_neg (by omega)
theorem rl1_5 (x : ¬ (p = 5 ∧ (i = 4 ∨ i = 6 ∨ i = 7))) : k_rl1 κ p i = κ p i := by unfold k_rl1; split <;> first | exact adv_5 x | rfl
theorem rl_5 {V tk : Int32} {f : Bool} (x : ¬ (p = 5 ∧ (i = 4 ∨ i = 6 ∨ i = 7))) : (k_rl κ V tk f).2 p i = κ p i := by
  unfold k_rl
  split
  · exact ref_5 x
  · split
    · exact (ref_5 x).trans (rl1_5 x)
    · split
      · exact (ref_5 x).trans (rl1_5 x)
      · split
        · exact (ref_5 x).trans (rl1_5 x)
        · exact (adv_5 x).trans (rl1_5 x)
theorem put_5 {l : Int32} (h80 : ¬ p = 80) (h81 : ¬ p = 81) : k_put κ 80 l p i = κ p i := by unfold k_put; rw [zup_p h80, zup_p h80, zup_p h81]
theorem rrL_5 {full : Bool} (x : ¬ (p = 5 ∧ (i = 4 ∨ i = 6 ∨ i = 7))) (h80 : ¬ p = 80) (h81 : ¬ p = 81) : ∀ n (κ : Nat → Nat → Int32), (k_rrL full n κ).2 p i = κ p i
  | 0, κ => rfl
  | n + 1, κ => by
    unfold k_rrL
    split
    · rfl
    · split
      · exact rl_5 x
      · exact (rrL_5 x h80 h81 n _).trans ((put_5 h80 h81).trans (rl_5 x))
theorem rR_5 {full : Bool} (x : ¬ (p = 5 ∧ (i = 4 ∨ i = 6 ∨ i = 7))) (h80 : ¬ p = 80) (h81 : ¬ p = 81) : (k_rR κ full).2 p i = κ p i := by
  unfold k_rR
  exact (rrL_5 x h80 h81 _ _).trans (by unfold k_emp; rw [zup_p h80, zup_p h80])
theorem phL_5 (x : ¬ (p = 5 ∧ (i = 4 ∨ i = 6 ∨ i = 7))) : ∀ n (κ : Nat → Nat → Int32), (κ 6 3 = 0 ∨ ¬ p = 10) → (k_phL n κ).2 p i = κ p i
  | 0, κ, _ => rfl
  | n + 1, κ, h => by
    have e63 : (k_rl κ (κ 6 4) (nI 0) false).2 6 3 = κ 6 3 := rl_5 (by omega)
    unfold k_phL
    split
    · rfl
    · split
      · exact rl_5 x
      · refine (phL_5 x n _ ?_).trans ?_
        · rw [k_ph1_63, e63]; exact h
        · refine Eq.trans ?_ (rl_5 (κ := κ) x (V := κ 6 4) (tk := nI 0) (f := false))
          rcases h with h | h
          · unfold k_ph1; rw [if_pos (by rw [e63]; exact h)]
          · rw [k_ph1_p h]
theorem stm_fr (x : ¬ (p = 5 ∧ (i = 4 ∨ i = 6 ∨ i = 7))) (h80 : ¬ p = 80) (h81 : ¬ p = 81) (h6 : ¬ (p = 6 ∧ ¬ i = 3)) (h : κ 6 3 = 0 ∨ ¬ (10 ≤ p ∧ p ≤ 21)) : (k_stm κ τ).2.1 p i = κ p i := by
  unfold k_stm
  split
  · -- grow
    show (k_grw κ).2 p i = κ p i
    have g : k_gr2 (k_adv κ) p i = κ p i := by
      have e63 : k_adv κ 6 3 = κ 6 3 := adv_5 (by omega)
      unfold k_gr2 k_gr1
      rw [e63]
      split
      · exact (if_neg (by omega)).trans (adv_5 x)
      · refine (if_neg ?_).trans ((if_neg (by omega)).trans (adv_5 x))
        rename_i n
        rcases h with h | h
        · exact absurd h n
        · omega
    unfold k_grw
    split
    · exact (ref_5 x).trans (adv_5 x)
    · split
      · exact (ref_5 x).trans (adv_5 x)
      · split
        · exact (adv_5 x).trans g
        · exact (ref_5 x).trans ((adv_5 x).trans g)
  · split
    · -- assume
      show (k_asm κ).2 p i = κ p i
      unfold k_asm
      split
      · show (if κ 6 3 = 0 then (k_rR (k_adv κ) false).2 else k_cpR (k_rR (k_adv κ) false).2 19 80 (k_rT (k_rR (k_adv κ) false).2)) p i = κ p i
        split
        · exact (rR_5 x h80 h81).trans (adv_5 x)
        · rename_i n
          rcases h with h | h
          · exact absurd h n
          · rw [k_cpR_p (by omega) (by omega)]; exact (rR_5 x h80 h81).trans (adv_5 x)
      · exact (rR_5 x h80 h81).trans (adv_5 x)
    · split
      · -- phases
        show (k_phs κ).2 p i = κ p i
        unfold k_phs
        split
        · exact (ref_5 x).trans (adv_5 x)
        · refine (phL_5 x _ _ ?_).trans (adv_5 x)
          rw [show k_adv κ 6 3 = κ 6 3 from adv_5 (by omega)]
          rcases h with h | h
          · exact .inl h
          · exact .inr (by omega)
      · -- clause
        unfold k_cls
        split
        · exact ref_5 x
        · split
          · have c1 : k_cl1 (k_rR κ (k_full κ)).2 p i = κ p i := by
              by_cases e : p = 6
              · subst e
                have : i = 3 := by omega
                subst this
                exact (k_cl1_i (by decide) (by decide)).trans (rR_5 x h80 h81)
              · rw [k_cl1_p e]; exact rR_5 x h80 h81
            show (if κ 6 3 = 0 then (k_cl1 (k_rR κ (k_full κ)).2, τ) else k_cl2 (k_cl1 (k_rR κ (k_full κ)).2) τ).1 p i = κ p i
            split
            · exact c1
            · rename_i n
              rcases h with h | h
              · exact absurd h n
              · unfold k_cl2
                split
                · show k_app _ 80 _ _ false p i = _
                  rw [k_appW (by omega) (by omega) (by omega) (by omega) (by omega) (by omega), k_rmK_at (by omega)]; exact c1
                · exact c1
          · exact rR_5 x h80 h81
theorem stm_t : tG τ (k_stm κ τ).2.2 ∧ (κ 6 3 = 0 → (k_stm κ τ).2.2 = τ) := by
  unfold k_stm
  split
  · exact ⟨tG.rf, fun _ => rfl⟩
  · split
    · exact ⟨tG.rf, fun _ => rfl⟩
    · split
      · exact ⟨tG.rf, fun _ => rfl⟩
      · unfold k_cls
        split
        · exact ⟨tG.rf, fun _ => rfl⟩
        · split
          · show tG τ (if κ 6 3 = 0 then (k_cl1 (k_rR κ (k_full κ)).2, τ) else k_cl2 (k_cl1 (k_rR κ (k_full κ)).2) τ).2 ∧ (κ 6 3 = 0 → (if κ 6 3 = 0 then (k_cl1 (k_rR κ (k_full κ)).2, τ) else k_cl2 (k_cl1 (k_rR κ (k_full κ)).2) τ).2 = τ)
            split
            · exact ⟨tG.rf, fun _ => rfl⟩
            · rename_i n
              refine ⟨?_, fun h => absurd h n⟩
              unfold k_cl2
              split
              · exact k_rmT_F.g
              · exact tG.rf
          · exact ⟨tG.rf, fun _ => rfl⟩
theorem rdL_fr (x : ¬ (p = 5 ∧ (i = 4 ∨ i = 6 ∨ i = 7))) (h80 : ¬ p = 80) (h81 : ¬ p = 81) (h6 : ¬ (p = 6 ∧ ¬ i = 3)) : ∀ n c (κ : Nat → Nat → Int32) (τ : (Nat → Nat → Int64) × (Nat → Nat)), (κ 6 3 = 0 ∨ ¬ (10 ≤ p ∧ p ≤ 21)) → (k_rdL n c κ τ).2.1 p i = κ p i
  | 0, c, κ, τ, _ => rfl
  | n + 1, c, κ, τ, h => by
    have s := stm_fr (τ := τ) x h80 h81 h6 h
    unfold k_rdL
    split
    · rfl
    · split
      · refine (rdL_fr x h80 h81 h6 n _ _ _ ?_).trans ((adv_5 x).trans s)
        rw [show k_adv (k_stm κ τ).2.1 6 3 = (k_stm κ τ).2.1 6 3 from adv_5 (by omega)]
        rcases h with h | h
        · left
          rw [stm_fr (by omega) (by omega) (by omega) (by omega) (.inl h)]; exact h
        · exact .inr h
      · exact s
theorem rdL_t : ∀ n c (κ : Nat → Nat → Int32) (τ : (Nat → Nat → Int64) × (Nat → Nat)), tG τ (k_rdL n c κ τ).2.2 ∧ (κ 6 3 = 0 → (k_rdL n c κ τ).2.2 = τ)
  | 0, c, κ, τ => ⟨tG.rf, fun _ => rfl⟩
  | n + 1, c, κ, τ => by
    have s := stm_t (κ := κ) (τ := τ)
    unfold k_rdL
    split
    · exact ⟨tG.rf, fun _ => rfl⟩
    · split
      · obtain ⟨r1, r2⟩ := rdL_t n (c + 1) (k_adv (k_stm κ τ).2.1) (k_stm κ τ).2.2
        refine ⟨s.1.tr r1, fun h => (r2 ?_).trans (s.2 h)⟩
        rw [show k_adv (k_stm κ τ).2.1 6 3 = (k_stm κ τ).2.1 6 3 from adv_5 (by omega), stm_fr (by omega) (by omega) (by omega) (by omega) (.inl h)]; exact h
      · exact s
/-- the reference -/
theorem phL_at (h : ¬ p = 101 ∧ ¬ p = 126 ∧ (¬ p = 100 ∨ (¬ i = 24 ∧ ¬ i = 25))) : ∀ n f (α : Nat → Nat → Int32), a_phL n f α p i = α p i
  | 0, f, α => rfl
  | n + 1, f, α => by
    have e1 : ∀ β : Nat → Nat → Int32, a_ph1 β p i = β p i := fun β => by
      unfold a_ph1
      split
      · rw [zup_p h.1, a_lit_at ⟨h.2.1, h.2.2⟩]
      · exact a_lit_at ⟨h.2.1, h.2.2⟩
    have e2 : a_here α p i = α p i := a_here_at (by omega)
    unfold a_phL
    split
    · split
      · exact (phL_at h n false _).trans (e1 α)
      · split
        · exact (phL_at h n false _).trans ((e1 _).trans e2)
        · exact e2
    · rfl
theorem begins_at {f n : Int32} (h : ¬ p = 101) : a_begins α f n p i = α p i := by unfold a_begins; rw [zup_p h, zup_p h, zup_p h, zup_p h]
theorem grows_at {N : Nat → Nat → Int32} {v : Int32} (h : ¬ p = 101) : (a_grows N v).2 p i = N p i := by
  unfold a_grows
  by_cases e : nI 1 ≤ v ∧ v ≤ nI 30 - N 101 0
  · rw [if_pos e]; exact zup_p h
  · rw [if_neg e]
theorem growT_if {N G : Nat → Nat → Int32} {x k w : Int32} (h : ¬ p = 100 ∨ (¬ i = 24 ∧ ¬ i = 25)) (hG : G p i = N p i) : (if N 100 25 = 0 then (if x = -1 then a_fails N k w else G) else N) p i = N p i := by
  by_cases e : N 100 25 = 0
  · rw [if_pos e]
    by_cases e2 : x = -1
    · rw [if_pos e2]; exact a_fails_at (by omega)
    · rw [if_neg e2]; exact hG
  · rw [if_neg e]
theorem growT_at (h : ¬ p = 101 ∧ ¬ p = 126 ∧ ¬ p = 127 ∧ (¬ p = 100 ∨ (¬ i = 24 ∧ ¬ i = 25))) : a_growT α p i = α p i := by
  unfold a_growT
  exact (a_endS_at h.2.2.2).trans ((growT_if h.2.2.2 (grows_at h.1)).trans ((a_number_at h.2.2.2).trans (a_here_at (by omega))))
theorem stmt_at (h : ¬ p = 101 ∧ ¬ p = 126 ∧ ¬ p = 127 ∧ (¬ p = 100 ∨ (¬ i = 24 ∧ ¬ i = 25))) : a_stmt α p i = α p i := by
  have e2 : a_here α p i = α p i := a_here_at (by omega)
  have ew : a_wst α p i = α p i := by unfold a_wst; exact (if_neg (by omega)).trans e2
  have ro : ∀ mu fu n k (β : Nat → Nat → Int32), a_endS (a_roL mu fu n k (a_clTold β)).2 p i = β p i := fun mu fu n k β => (a_endS_at (by omega)).trans ((a_roL_at (by omega) _ _ _).trans (clTold_p (by omega)))
  unfold a_stmt
  split
  · unfold a_clT
    split
    · exact (((cpF_is _ _).2 p i (by omega)).trans ((begins_at h.1).trans (ro _ _ _ _ _))).trans e2
    · exact (ro _ _ _ _ _).trans e2
  · split
    · exact (growT_at h).trans ew
    · split
      · unfold a_asT
        split
        · exact (((cpF_is _ _).2 p i (by omega)).trans ((zup_p h.1).trans (ro _ _ _ _ _))).trans ew
        · exact (ro _ _ _ _ _).trans ew
      · split
        · exact ((a_endS_at (by omega)).trans (phL_at (by omega) _ _ _)).trans ew
        · exact (a_fails_at (by omega)).trans ew
theorem teL_at (h : ¬ p = 101 ∧ ¬ p = 126 ∧ ¬ p = 127 ∧ (¬ p = 100 ∨ (¬ i = 24 ∧ ¬ i = 25))) : ∀ n c (α : Nat → Nat → Int32), (a_teL n c α).2 p i = α p i
  | 0, c, α => rfl
  | n + 1, c, α => by
    have e2 : a_here α p i = α p i := a_here_at (by omega)
    unfold a_teL
    split
    · split
      · exact e2
      · exact (teL_at h n _ _).trans ((stmt_at h).trans e2)
    · rfl
theorem teL_le : ∀ n c (α : Nat → Nat → Int32), (a_teL n c α).1 ≤ c + n
  | 0, c, α => Nat.le_refl _
  | n + 1, c, α => by
    unfold a_teL
    split
    · split
      · show c ≤ c + (n + 1); omega
      · have := teL_le n (c + 1) (a_stmt (a_here α)); omega
    · show c ≤ c + (n + 1); omega
end SW
