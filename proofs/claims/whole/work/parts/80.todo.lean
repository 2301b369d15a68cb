/-! Calls that are still to be shown. -/
theorem call_settle {σ : gS} {M : gM} (h : Inv σ M) (N : gN) (x y : Int32) : ∃ r σ1 M1 N1 M2, f_X11_settle x y σ M N = some (r, σ1, M1, N1) ∧ g_layL σ1 ∧ f_X12_settle x y σ1 M1 = some (r, M2) ∧ Inv σ1 M2 := sorry
theorem call_most {σ : gS} {M : gM} (h : Inv σ M) (N : gN) (x : Int32) : ∃ r σ1 M1 N1 M2, f_X11_most x σ M N = some (r, σ1, M1, N1) ∧ g_layL σ1 ∧ f_X12_most x σ1 M1 = some (r, M2) ∧ Inv σ1 M2 := sorry
theorem call_read {σ : gS} {M : gM} (h : Inv σ M) (N : gN) (x : Int32) : ∃ r σ1 M1 N1 M2 N2, f_X11_read x σ M N = some (r, σ1, M1, N1) ∧ g_layL σ1 ∧ f_X12_read x σ1 M1 N1 = some (r, M2, N2) ∧ Inv σ1 M2 := sorry
