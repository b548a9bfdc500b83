/-! all calls together -/
section AL
variable {E : zEnv} {κ α : Nat → Nat → Int32} {τ : (Nat → Nat → Int64) × (Nat → Nat)} {k : Nat}
theorem zI_next (h : zI k κ α τ) : zI (k + 1) κ α τ := ⟨h.1, h.2.1, h.2.2.1, h.2.2.2.1, ⟨h.2.2.2.2.1.1.g tG.rf, h.2.2.2.2.1.2⟩, h.2.2.2.2.2⟩
theorem z_step (h : zI k κ α τ) : zStep E zI k κ α τ :=
  ⟨fun a b c e f => y_feed h a b c e f, fun a => y_end h a, y_tell h, y_fault h, fun a => y_grow h a, fun a => y_add h a, y_close h, fun a => y_assume h a, y_free h, fun a => y_phase h a, fun a => y_unit h a, fun a => y_forget h a, fun a => y_keep h a, fun a => y_back h a, fun a => y_solve h a, fun a => y_count h a, fun a b => y_clause h a b, fun a => y_assumption h a, fun a => y_model h a, y_core h, fun a b => y_variable h a b, fun a => y_follows h a, fun a b => y_line h a b, y_proof h, y_refute h, y_closed h, y_models h, fun so => y_fixed h so⟩
end AL
