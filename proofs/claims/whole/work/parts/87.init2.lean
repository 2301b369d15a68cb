/-! The start: both objects. -/
def S0 : gS := g_nS g_u0.1 1 11 0
def S1 : gS := g_pS (sX5 (g_nS S0 2 5 0)) 1 0 2
def S2 : gS := g_pS (g_nS S1 4 19 6) 1 1 4
def S3 : gS := g_pS (sX4 (g_nS S2 5 4 0)) 1 2 5
def S4 : gS := g_pS (sX7 (g_nS S3 7 7 0)) 1 3 7
def S5 : gS := g_pS (sX9 (g_nS S4 12 9 0)) 1 4 12
def S6 : gS := g_pS (sX3 (g_nS S5 20 3 0)) 1 5 20
def S7 : gS := g_pS (sX1 (g_nS S6 24 1 0)) 1 6 24
def S8 : gS := g_pS (sX0 (g_nS S7 33 0 0)) 1 7 33
theorem n_X11_0 (M : gM) (N : gN) : ∃ M' N', b_X11_init_0 S0 M N = b_X11_init_15 S1 M' N' ∧ ∀ a k, ¬ (a = 7 ∧ k = 11) → ¬ (a = 12 ∧ k = 12) → M' a k = M a k ∨ M' a k = iN 0 := by
  obtain ⟨M', N', q1, q2⟩ := i_X5 (σ := g_nS S0 2 5 0) (M := g_z M 2 0) (N := g_z N 2 0) (by decide +kernel) (by decide +kernel)
  refine ⟨M', N', ?_, fun a k h7 h12 => ?_⟩
  · unfold b_X11_init_0
    rw [if_pos (show g_is S0 1 11 = true by decide +kernel), if_pos (show g_fr S0 2 = true by decide +kernel), q1, oB, if_pos (show g_is (sX5 (g_nS S0 2 5 0)) 1 11 = true by decide +kernel), if_pos (show g_is (sX5 (g_nS S0 2 5 0)) 2 5 = true by decide +kernel)]
    rfl
  · rcases q2 a k  with h | h
    · rw [h]; exact z0 (Or.inl rfl)
    · exact Or.inr h
theorem n_X11_24 (M : gM) (N : gN) : ∃ M' N', b_X11_init_24 S2 M N = b_X11_init_35 S3 M' N' ∧ ∀ a k, ¬ (a = 7 ∧ k = 11) → ¬ (a = 12 ∧ k = 12) → M' a k = M a k ∨ M' a k = iN 0 := by
  obtain ⟨M', N', q1, q2⟩ := i_X4 (σ := g_nS S2 5 4 0) (M := g_z M 5 0) (N := g_z N 5 0) (by decide +kernel) (by decide +kernel)
  refine ⟨M', N', ?_, fun a k h7 h12 => ?_⟩
  · unfold b_X11_init_24
    rw [if_pos (show g_fr S2 5 = true by decide +kernel), q1, oB, if_pos (show g_is (sX4 (g_nS S2 5 4 0)) 1 11 = true by decide +kernel), if_pos (show g_is (sX4 (g_nS S2 5 4 0)) 5 4 = true by decide +kernel)]
    rfl
  · rcases q2 a k  with h | h
    · rw [h]; exact z0 (Or.inl rfl)
    · exact Or.inr h
theorem n_X11_35 (M : gM) (N : gN) : ∃ M' N', b_X11_init_35 S3 M N = b_X11_init_46 S4 M' N' ∧ ∀ a k, ¬ (a = 7 ∧ k = 11) → ¬ (a = 12 ∧ k = 12) → M' a k = M a k ∨ M' a k = iN 0 := by
  obtain ⟨M', N', q1, q2⟩ := i_X7 (σ := g_nS S3 7 7 0) (M := g_z M 7 0) (N := g_z N 7 0) (by decide +kernel) (by decide +kernel) (by decide +kernel) (by decide +kernel) (by decide +kernel) (by decide +kernel) (by decide +kernel)
  refine ⟨M', N', ?_, fun a k h7 h12 => ?_⟩
  · unfold b_X11_init_35
    rw [if_pos (show g_fr S3 7 = true by decide +kernel), q1, oB, if_pos (show g_is (sX7 (g_nS S3 7 7 0)) 1 11 = true by decide +kernel), if_pos (show g_is (sX7 (g_nS S3 7 7 0)) 7 7 = true by decide +kernel)]
    rfl
  · rcases q2 a k h7 with h | h
    · rw [h]; exact z0 (Or.inl rfl)
    · exact Or.inr h
theorem n_X11_46 (M : gM) (N : gN) : ∃ M' N', b_X11_init_46 S4 M N = b_X11_init_57 S5 M' N' ∧ ∀ a k, ¬ (a = 7 ∧ k = 11) → ¬ (a = 12 ∧ k = 12) → M' a k = M a k ∨ M' a k = iN 0 := by
  obtain ⟨M', N', q1, q2⟩ := i_X9 (σ := g_nS S4 12 9 0) (M := g_z M 12 0) (N := g_z N 12 0) (by decide +kernel) (by decide +kernel) (by decide +kernel) (by decide +kernel) (by decide +kernel) (by decide +kernel) (by decide +kernel) (by decide +kernel) (by decide +kernel)
  refine ⟨M', N', ?_, fun a k h7 h12 => ?_⟩
  · unfold b_X11_init_46
    rw [if_pos (show g_fr S4 12 = true by decide +kernel), q1, oB, if_pos (show g_is (sX9 (g_nS S4 12 9 0)) 1 11 = true by decide +kernel), if_pos (show g_is (sX9 (g_nS S4 12 9 0)) 12 9 = true by decide +kernel)]
    rfl
  · rcases q2 a k h12 with h | h
    · rw [h]; exact z0 (Or.inl rfl)
    · exact Or.inr h
theorem n_X11_57 (M : gM) (N : gN) : ∃ M' N', b_X11_init_57 S5 M N = b_X11_init_68 S6 M' N' ∧ ∀ a k, ¬ (a = 7 ∧ k = 11) → ¬ (a = 12 ∧ k = 12) → M' a k = M a k ∨ M' a k = iN 0 := by
  obtain ⟨M', N', q1, q2⟩ := i_X3 (σ := g_nS S5 20 3 0) (M := g_z M 20 0) (N := g_z N 20 0) (by decide +kernel) (by decide +kernel) (by decide +kernel) (by decide +kernel)
  refine ⟨M', N', ?_, fun a k h7 h12 => ?_⟩
  · unfold b_X11_init_57
    rw [if_pos (show g_fr S5 20 = true by decide +kernel), q1, oB, if_pos (show g_is (sX3 (g_nS S5 20 3 0)) 1 11 = true by decide +kernel), if_pos (show g_is (sX3 (g_nS S5 20 3 0)) 20 3 = true by decide +kernel)]
    rfl
  · rcases q2 a k  with h | h
    · rw [h]; exact z0 (Or.inl rfl)
    · exact Or.inr h
theorem n_X11_68 (M : gM) (N : gN) : ∃ M' N', b_X11_init_68 S6 M N = b_X11_init_79 S7 M' N' ∧ ∀ a k, ¬ (a = 7 ∧ k = 11) → ¬ (a = 12 ∧ k = 12) → M' a k = M a k ∨ M' a k = iN 0 := by
  obtain ⟨M', N', q1, q2⟩ := i_X1 (σ := g_nS S6 24 1 0) (M := g_z M 24 0) (N := g_z N 24 0) (by decide +kernel) (by decide +kernel) (by decide +kernel) (by decide +kernel) (by decide +kernel) (by decide +kernel) (by decide +kernel) (by decide +kernel) (by decide +kernel)
  refine ⟨M', N', ?_, fun a k h7 h12 => ?_⟩
  · unfold b_X11_init_68
    rw [if_pos (show g_fr S6 24 = true by decide +kernel), q1, oB, if_pos (show g_is (sX1 (g_nS S6 24 1 0)) 1 11 = true by decide +kernel), if_pos (show g_is (sX1 (g_nS S6 24 1 0)) 24 1 = true by decide +kernel)]
    rfl
  · rcases q2 a k  with h | h
    · rw [h]; exact z0 (Or.inl rfl)
    · exact Or.inr h
theorem n_X11_79 (M : gM) (N : gN) : ∃ M' N', b_X11_init_79 S7 M N = b_X11_init_90 S8 M' N' ∧ ∀ a k, ¬ (a = 7 ∧ k = 11) → ¬ (a = 12 ∧ k = 12) → M' a k = M a k ∨ M' a k = iN 0 := by
  obtain ⟨M', N', q1, q2⟩ := i_X0 (σ := g_nS S7 33 0 0) (M := g_z M 33 0) (N := g_z N 33 0) (by decide +kernel) (by decide +kernel) (by decide +kernel)
  refine ⟨M', N', ?_, fun a k h7 h12 => ?_⟩
  · unfold b_X11_init_79
    rw [if_pos (show g_fr S7 33 = true by decide +kernel), q1, oB, if_pos (show g_is (sX0 (g_nS S7 33 0 0)) 1 11 = true by decide +kernel), if_pos (show g_is (sX0 (g_nS S7 33 0 0)) 33 0 = true by decide +kernel)]
    rfl
  · rcases q2 a k  with h | h
    · rw [h]; exact z0 (Or.inl rfl)
    · exact Or.inr h
theorem i_X11 (M : gM) (N : gN) (hz : ∀ a k, M a k = iN 0) : ∃ M' N', f_X11_init S0 M N = some (S8, M', N') ∧ M' 1 11 = iN 30 ∧ M' 1 14 = iM ∧ ∀ a k, ¬ (a = 1 ∧ k = 11) → ¬ (a = 1 ∧ k = 14) → ¬ (a = 7 ∧ k = 11) → ¬ (a = 12 ∧ k = 12) → M' a k = iN 0 := by
  obtain ⟨M1, N1, a1, b1⟩ := n_X11_0 M N
  obtain ⟨M3, N3, a3, b3⟩ := n_X11_24 (g_z M1 4 0) (g_z N1 4 0)
  obtain ⟨M4, N4, a4, b4⟩ := n_X11_35 M3 N3
  obtain ⟨M5, N5, a5, b5⟩ := n_X11_46 M4 N4
  obtain ⟨M6, N6, a6, b6⟩ := n_X11_57 M5 N5
  obtain ⟨M7, N7, a7, b7⟩ := n_X11_68 M6 N6
  obtain ⟨M8, N8, a8, b8⟩ := n_X11_79 M7 N7
  have ii : g_is S8 1 11 = true := by decide +kernel
  have e2 : b_X11_init_15 S1 M1 N1 = b_X11_init_24 S2 (g_z M1 4 0) (g_z N1 4 0) := by
    unfold b_X11_init_15
    rw [if_pos (show g_fr S1 4 = true by decide +kernel), if_pos (show g_is (g_nS S1 4 19 6) 1 11 = true by decide +kernel)]
    rfl
  have z8 : ∀ a k, ¬ (a = 7 ∧ k = 11) → ¬ (a = 12 ∧ k = 12) → M8 a k = iN 0 := fun a k h1 h2 => by
    rcases b8 a k h1 h2 with h | h
    · rw [h]
      rcases b7 a k h1 h2 with h | h
      · rw [h]
        rcases b6 a k h1 h2 with h | h
        · rw [h]
          rcases b5 a k h1 h2 with h | h
          · rw [h]
            rcases b4 a k h1 h2 with h | h
            · rw [h]
              rcases b3 a k h1 h2 with h | h
              · rw [h]
                rcases z0 (b := 4) (b1 a k h1 h2) with h | h
                · exact h.trans (hz a k)
                · exact h
              · exact h
            · exact h
          · exact h
        · exact h
      · exact h
    · exact h
  refine ⟨(g_up (g_up (g_up (g_up (g_up (g_up (g_up M8 1 8 0) 1 9 0) 1 10 0) 1 11 30) 1 12 0) 1 13 0) 1 14 (-1)), N8, ?_, ?_, ?_, fun a k h1 h2 h3 h4 => ?_⟩
  · unfold f_X11_init
    rw [a1, e2, a3, a4, a5, a6, a7, a8]
    unfold b_X11_init_90 b_X11_init_95 b_X11_init_100 b_X11_init_105 b_X11_init_111 b_X11_init_116 b_X11_init_121
    simp only [ii, if_true]
  · simp (disch := omega) only [li_0, li_1, li_2, li_3, li_4, li_5, li_6, li_7, li_8, li_9, li_10, li_11, li_12, li_13, li_14, li_15, li_16, li_18, li_19, li_20, li_24, li_28, li_29, li_30, li_31, li_32, li_36, li_40, li_41, li_42, li_43, li_45, li_48, li_49, li_50, li_56, li_57, li_59, li_60, li_61, li_62, li_63, li_64, li_97, li_99, li_100, li_120, li_121, li_122, li_255, li_270, li_300, li_400, li_500, li_540, li_1000, li_1024, li_1440, li_9999, li_11264, li_32768, li_268435456, li_1073741824, li_m, li_o, iN_add, iN_mul, iN_lt, iN_in, iN_cl, iN_inj, iM_ne, iM_ne', iN_or, iN_xor, iN_bd, sh31n, iN_shl2, iN_shr2, iN_bit2, Nat.one_mul, oB, iff_t, iff_f, if_true, if_false, g_up_ne, g_up_eq, g_z_ne, g_z_eq]
  · simp (disch := omega) only [li_0, li_1, li_2, li_3, li_4, li_5, li_6, li_7, li_8, li_9, li_10, li_11, li_12, li_13, li_14, li_15, li_16, li_18, li_19, li_20, li_24, li_28, li_29, li_30, li_31, li_32, li_36, li_40, li_41, li_42, li_43, li_45, li_48, li_49, li_50, li_56, li_57, li_59, li_60, li_61, li_62, li_63, li_64, li_97, li_99, li_100, li_120, li_121, li_122, li_255, li_270, li_300, li_400, li_500, li_540, li_1000, li_1024, li_1440, li_9999, li_11264, li_32768, li_268435456, li_1073741824, li_m, li_o, iN_add, iN_mul, iN_lt, iN_in, iN_cl, iN_inj, iM_ne, iM_ne', iN_or, iN_xor, iN_bd, sh31n, iN_shl2, iN_shr2, iN_bit2, Nat.one_mul, oB, iff_t, iff_f, if_true, if_false, g_up_ne, g_up_eq, g_z_ne, g_z_eq]
  · have := z8 a k h3 h4
    rw [g_up_ne _ _ (by omega)]
    rcases up0 (b := 1) (j := 13) (M0 := M8) (a := a) (k := k) (up0 (b := 1) (j := 12) (upx (v := 30) (b := 1) (j := 11) h1 (up0 (b := 1) (j := 10) (up0 (b := 1) (j := 9) (up0 (b := 1) (j := 8) (Or.inl rfl)))))) with h | h
    · exact h.trans this
    · exact h
def T0 : gS := g_nS S8 40 12 0
def T1 : gS := g_pS (g_nS T0 41 15 10) 40 2 41
theorem t_0 (M : gM) (N : gN) : b_X12_init_0 T0 M N = b_X12_init_12 T1 (g_z M 41 (iN 0)) (g_z N 41 0) := by
  unfold b_X12_init_0
  rw [if_pos (show g_is T0 40 12 = true by decide +kernel), if_pos (show g_fr T0 41 = true by decide +kernel), if_pos (show g_is (g_nS T0 41 15 10) 40 12 = true by decide +kernel)]
  rfl
def T2 : gS := g_pS (g_nS T1 42 14 10) 40 3 42
theorem t_1 (M : gM) (N : gN) : b_X12_init_12 T1 M N = b_X12_init_20 T2 (g_z M 42 (iN 0)) (g_z N 42 0) := by
  unfold b_X12_init_12
  rw [if_pos (show g_fr T1 42 = true by decide +kernel), if_pos (show g_is (g_nS T1 42 14 10) 40 12 = true by decide +kernel)]
  rfl
def T3 : gS := g_pS (g_nS T2 43 15 10) 40 4 43
theorem t_2 (M : gM) (N : gN) : b_X12_init_20 T2 M N = b_X12_init_28 T3 (g_z M 43 (iN 0)) (g_z N 43 0) := by
  unfold b_X12_init_20
  rw [if_pos (show g_fr T2 43 = true by decide +kernel), if_pos (show g_is (g_nS T2 43 15 10) 40 12 = true by decide +kernel)]
  rfl
def T4 : gS := g_pS (g_nS T3 44 14 10) 40 5 44
theorem t_3 (M : gM) (N : gN) : b_X12_init_28 T3 M N = b_X12_init_36 T4 (g_z M 44 (iN 0)) (g_z N 44 0) := by
  unfold b_X12_init_28
  rw [if_pos (show g_fr T3 44 = true by decide +kernel), if_pos (show g_is (g_nS T3 44 14 10) 40 12 = true by decide +kernel)]
  rfl
def T5 : gS := g_pS (g_nS T4 45 14 10) 40 6 45
theorem t_4 (M : gM) (N : gN) : b_X12_init_36 T4 M N = b_X12_init_44 T5 (g_z M 45 (iN 0)) (g_z N 45 0) := by
  unfold b_X12_init_36
  rw [if_pos (show g_fr T4 45 = true by decide +kernel), if_pos (show g_is (g_nS T4 45 14 10) 40 12 = true by decide +kernel)]
  rfl
def T6 : gS := g_pS (g_nS T5 46 14 10) 40 7 46
theorem t_5 (M : gM) (N : gN) : b_X12_init_44 T5 M N = b_X12_init_52 T6 (g_z M 46 (iN 0)) (g_z N 46 0) := by
  unfold b_X12_init_44
  rw [if_pos (show g_fr T5 46 = true by decide +kernel), if_pos (show g_is (g_nS T5 46 14 10) 40 12 = true by decide +kernel)]
  rfl
def T7 : gS := g_pS (g_nS T6 47 15 10) 40 8 47
theorem t_6 (M : gM) (N : gN) : b_X12_init_52 T6 M N = b_X12_init_60 T7 (g_z M 47 (iN 0)) (g_z N 47 0) := by
  unfold b_X12_init_52
  rw [if_pos (show g_fr T6 47 = true by decide +kernel), if_pos (show g_is (g_nS T6 47 15 10) 40 12 = true by decide +kernel)]
  rfl
def T8 : gS := g_pS (g_nS T7 48 14 10) 40 9 48
theorem t_7 (M : gM) (N : gN) : b_X12_init_60 T7 M N = b_X12_init_68 T8 (g_z M 48 (iN 0)) (g_z N 48 0) := by
  unfold b_X12_init_60
  rw [if_pos (show g_fr T7 48 = true by decide +kernel), if_pos (show g_is (g_nS T7 48 14 10) 40 12 = true by decide +kernel)]
  rfl
def T9 : gS := g_pS (g_nS T8 49 15 100) 40 10 49
theorem t_8 (M : gM) (N : gN) : b_X12_init_68 T8 M N = b_X12_init_76 T9 (g_z M 49 (iN 0)) (g_z N 49 0) := by
  unfold b_X12_init_68
  rw [if_pos (show g_fr T8 49 = true by decide +kernel), if_pos (show g_is (g_nS T8 49 15 100) 40 12 = true by decide +kernel)]
  rfl
theorem t_9 (M : gM) (N : gN) : b_X12_init_76 T9 M N = b_X12_init_82 T9 (g_up M 40 15 30) N := by
  unfold b_X12_init_76
  rw [if_pos (show g_is T9 40 12 = true by decide +kernel)]
def T10 : gS := g_pS (g_nS T9 50 14 6) 40 18 50
theorem t_10 (M : gM) (N : gN) : b_X12_init_82 T9 M N = b_X12_init_90 T10 (g_z M 50 (iN 0)) (g_z N 50 0) := by
  unfold b_X12_init_82
  rw [if_pos (show g_fr T9 50 = true by decide +kernel), if_pos (show g_is (g_nS T9 50 14 6) 40 12 = true by decide +kernel)]
  rfl
def T11 : gS := g_pS (g_nS T10 51 14 6) 40 19 51
theorem t_11 (M : gM) (N : gN) : b_X12_init_90 T10 M N = b_X12_init_98 T11 (g_z M 51 (iN 0)) (g_z N 51 0) := by
  unfold b_X12_init_90
  rw [if_pos (show g_fr T10 51 = true by decide +kernel), if_pos (show g_is (g_nS T10 51 14 6) 40 12 = true by decide +kernel)]
  rfl
def T12 : gS := g_pS (g_nS T11 52 14 6) 40 20 52
theorem t_12 (M : gM) (N : gN) : b_X12_init_98 T11 M N = b_X12_init_106 T12 (g_z M 52 (iN 0)) (g_z N 52 0) := by
  unfold b_X12_init_98
  rw [if_pos (show g_fr T11 52 = true by decide +kernel), if_pos (show g_is (g_nS T11 52 14 6) 40 12 = true by decide +kernel)]
  rfl
def T13 : gS := g_pS (g_nS T12 53 14 60) 40 21 53
theorem t_13 (M : gM) (N : gN) : b_X12_init_106 T12 M N = b_X12_init_114 T13 (g_z M 53 (iN 0)) (g_z N 53 0) := by
  unfold b_X12_init_106
  rw [if_pos (show g_fr T12 53 = true by decide +kernel), if_pos (show g_is (g_nS T12 53 14 60) 40 12 = true by decide +kernel)]
  rfl
def T14 : gS := g_pS (g_nS T13 54 15 60) 40 22 54
theorem t_14 (M : gM) (N : gN) : b_X12_init_114 T13 M N = b_X12_init_122 T14 (g_z M 54 (iN 0)) (g_z N 54 0) := by
  unfold b_X12_init_114
  rw [if_pos (show g_fr T13 54 = true by decide +kernel), if_pos (show g_is (g_nS T13 54 15 60) 40 12 = true by decide +kernel)]
  rfl
def T15 : gS := g_pS (g_nS T14 55 14 60) 40 23 55
theorem t_15 (M : gM) (N : gN) : b_X12_init_122 T14 M N = b_X12_init_130 T15 (g_z M 55 (iN 0)) (g_z N 55 0) := by
  unfold b_X12_init_122
  rw [if_pos (show g_fr T14 55 = true by decide +kernel), if_pos (show g_is (g_nS T14 55 14 60) 40 12 = true by decide +kernel)]
  rfl
def T16 : gS := g_pS (g_nS T15 56 15 60) 40 24 56
theorem t_16 (M : gM) (N : gN) : b_X12_init_130 T15 M N = b_X12_init_138 T16 (g_z M 56 (iN 0)) (g_z N 56 0) := by
  unfold b_X12_init_130
  rw [if_pos (show g_fr T15 56 = true by decide +kernel), if_pos (show g_is (g_nS T15 56 15 60) 40 12 = true by decide +kernel)]
  rfl
def T17 : gS := g_pS (g_nS T16 57 14 60) 40 25 57
theorem t_17 (M : gM) (N : gN) : b_X12_init_138 T16 M N = b_X12_init_146 T17 (g_z M 57 (iN 0)) (g_z N 57 0) := by
  unfold b_X12_init_138
  rw [if_pos (show g_fr T16 57 = true by decide +kernel), if_pos (show g_is (g_nS T16 57 14 60) 40 12 = true by decide +kernel)]
  rfl
def T18 : gS := g_pS (g_nS T17 58 14 500) 40 27 58
theorem t_18 (M : gM) (N : gN) : b_X12_init_146 T17 M N = b_X12_init_155 T18 (g_z M 58 (iN 0)) (g_z N 58 0) := by
  unfold b_X12_init_146
  rw [if_pos (show g_fr T17 58 = true by decide +kernel), if_pos (show g_is (g_nS T17 58 14 500) 40 12 = true by decide +kernel)]
  rfl
def T19 : gS := g_pS (g_nS T18 59 14 500) 40 28 59
theorem t_19 (M : gM) (N : gN) : b_X12_init_155 T18 M N = b_X12_init_164 T19 (g_z M 59 (iN 0)) (g_z N 59 0) := by
  unfold b_X12_init_155
  rw [if_pos (show g_fr T18 59 = true by decide +kernel), if_pos (show g_is (g_nS T18 59 14 500) 40 12 = true by decide +kernel)]
  rfl
def T20 : gS := g_pS (g_nS T19 60 14 500) 40 29 60
theorem t_20 (M : gM) (N : gN) : b_X12_init_164 T19 M N = b_X12_init_173 T20 (g_z M 60 (iN 0)) (g_z N 60 0) := by
  unfold b_X12_init_164
  rw [if_pos (show g_fr T19 60 = true by decide +kernel), if_pos (show g_is (g_nS T19 60 14 500) 40 12 = true by decide +kernel)]
  rfl
def T21 : gS := g_pS (g_nS T20 61 15 300) 40 30 61
theorem t_21 (M : gM) (N : gN) : b_X12_init_173 T20 M N = b_X12_init_182 T21 (g_z M 61 (iN 0)) (g_z N 61 0) := by
  unfold b_X12_init_173
  rw [if_pos (show g_fr T20 61 = true by decide +kernel), if_pos (show g_is (g_nS T20 61 15 300) 40 12 = true by decide +kernel)]
  rfl
def T22 : gS := g_pS (g_nS T21 62 14 300) 40 31 62
theorem t_22 (M : gM) (N : gN) : b_X12_init_182 T21 M N = b_X12_init_191 T22 (g_z M 62 (iN 0)) (g_z N 62 0) := by
  unfold b_X12_init_182
  rw [if_pos (show g_fr T21 62 = true by decide +kernel), if_pos (show g_is (g_nS T21 62 14 300) 40 12 = true by decide +kernel)]
  rfl
def T23 : gS := g_pS (g_nS T22 63 14 30) 40 32 63
theorem t_23 (M : gM) (N : gN) : b_X12_init_191 T22 M N = b_X12_init_199 T23 (g_z M 63 (iN 0)) (g_z N 63 0) := by
  unfold b_X12_init_191
  rw [if_pos (show g_fr T22 63 = true by decide +kernel), if_pos (show g_is (g_nS T22 63 14 30) 40 12 = true by decide +kernel)]
  rfl
def T24 : gS := g_pS (g_nS T23 64 14 10) 40 33 64
theorem t_24 (M : gM) (N : gN) : b_X12_init_199 T23 M N = b_X12_init_207 T24 (g_z M 64 (iN 0)) (g_z N 64 0) := by
  unfold b_X12_init_199
  rw [if_pos (show g_fr T23 64 = true by decide +kernel), if_pos (show g_is (g_nS T23 64 14 10) 40 12 = true by decide +kernel)]
  rfl
def T25 : gS := g_pS (g_nS T24 65 14 640) 40 34 65
theorem t_25 (M : gM) (N : gN) : b_X12_init_207 T24 M N = b_X12_init_216 T25 (g_z M 65 (iN 0)) (g_z N 65 0) := by
  unfold b_X12_init_207
  rw [if_pos (show g_fr T24 65 = true by decide +kernel), if_pos (show g_is (g_nS T24 65 14 640) 40 12 = true by decide +kernel)]
  rfl
def T26 : gS := g_pS (g_nS T25 66 14 10) 40 35 66
theorem t_26 (M : gM) (N : gN) : b_X12_init_216 T25 M N = b_X12_init_224 T26 (g_z M 66 (iN 0)) (g_z N 66 0) := by
  unfold b_X12_init_216
  rw [if_pos (show g_fr T25 66 = true by decide +kernel), if_pos (show g_is (g_nS T25 66 14 10) 40 12 = true by decide +kernel)]
  rfl
def T27 : gS := g_pS (g_nS T26 67 14 11264) 40 36 67
theorem t_27 (M : gM) (N : gN) : b_X12_init_224 T26 M N = b_X12_init_233 T27 (g_z M 67 (iN 0)) (g_z N 67 0) := by
  unfold b_X12_init_224
  rw [if_pos (show g_fr T26 67 = true by decide +kernel), if_pos (show g_is (g_nS T26 67 14 11264) 40 12 = true by decide +kernel)]
  rfl
theorem t_28 (M : gM) (N : gN) : b_X12_init_233 T27 M N = b_X12_init_238 T27 (g_up M 40 37 (-1)) N := by
  unfold b_X12_init_233
  rw [if_pos (show g_is T27 40 12 = true by decide +kernel)]
def T28 : gS := g_pS (g_nS T27 68 14 10) 40 38 68
theorem t_29 (M : gM) (N : gN) : b_X12_init_238 T27 M N = b_X12_init_246 T28 (g_z M 68 (iN 0)) (g_z N 68 0) := by
  unfold b_X12_init_238
  rw [if_pos (show g_fr T27 68 = true by decide +kernel), if_pos (show g_is (g_nS T27 68 14 10) 40 12 = true by decide +kernel)]
  rfl
def T29 : gS := g_pS (g_nS T28 69 15 11264) 40 39 69
theorem t_30 (M : gM) (N : gN) : b_X12_init_246 T28 M N = b_X12_init_255 T29 (g_z M 69 (iN 0)) (g_z N 69 0) := by
  unfold b_X12_init_246
  rw [if_pos (show g_fr T28 69 = true by decide +kernel), if_pos (show g_is (g_nS T28 69 15 11264) 40 12 = true by decide +kernel)]
  rfl
def T30 : gS := g_pS (g_nS T29 70 13 400) 40 40 70
theorem t_31 (M : gM) (N : gN) : b_X12_init_255 T29 M N = b_X12_init_264 T30 (g_z M 70 (iN 0)) (g_z N 70 0) := by
  unfold b_X12_init_255
  rw [if_pos (show g_fr T29 70 = true by decide +kernel), if_pos (show g_is (g_nS T29 70 13 400) 40 12 = true by decide +kernel)]
  rfl
def T31 : gS := g_pS (g_nS T30 71 13 2400) 40 42 71
theorem t_32 (M : gM) (N : gN) : b_X12_init_264 T30 M N = b_X12_init_273 T31 (g_z M 71 (iN 0)) (g_z N 71 0) := by
  unfold b_X12_init_264
  rw [if_pos (show g_fr T30 71 = true by decide +kernel), if_pos (show g_is (g_nS T30 71 13 2400) 40 12 = true by decide +kernel)]
  rfl
def T32 : gS := g_pS (g_nS T31 72 14 6) 40 43 72
theorem t_33 (M : gM) (N : gN) : b_X12_init_273 T31 M N = b_X12_init_281 T32 (g_z M 72 (iN 0)) (g_z N 72 0) := by
  unfold b_X12_init_273
  rw [if_pos (show g_fr T31 72 = true by decide +kernel), if_pos (show g_is (g_nS T31 72 14 6) 40 12 = true by decide +kernel)]
  rfl
def T33 : gS := g_pS (g_nS T32 73 14 6) 40 44 73
theorem t_34 (M : gM) (N : gN) : b_X12_init_281 T32 M N = b_X12_init_289 T33 (g_z M 73 (iN 0)) (g_z N 73 0) := by
  unfold b_X12_init_281
  rw [if_pos (show g_fr T32 73 = true by decide +kernel), if_pos (show g_is (g_nS T32 73 14 6) 40 12 = true by decide +kernel)]
  rfl
def T34 : gS := g_pS (g_nS T33 74 13 400) 40 45 74
theorem t_35 (M : gM) (N : gN) : b_X12_init_289 T33 M N = b_X12_init_298 T34 (g_z M 74 (iN 0)) (g_z N 74 0) := by
  unfold b_X12_init_289
  rw [if_pos (show g_fr T33 74 = true by decide +kernel), if_pos (show g_is (g_nS T33 74 13 400) 40 12 = true by decide +kernel)]
  rfl
def T35 : gS := g_pS (g_nS T34 75 14 121) 40 60 75
theorem t_36 (M : gM) (N : gN) : b_X12_init_298 T34 M N = b_X12_init_306 T35 (g_z M 75 (iN 0)) (g_z N 75 0) := by
  unfold b_X12_init_298
  rw [if_pos (show g_fr T34 75 = true by decide +kernel), if_pos (show g_is (g_nS T34 75 14 121) 40 12 = true by decide +kernel)]
  rfl
def T36 : gS := g_pS (g_nS T35 76 14 121) 40 61 76
theorem t_37 (M : gM) (N : gN) : b_X12_init_306 T35 M N = b_X12_init_314 T36 (g_z M 76 (iN 0)) (g_z N 76 0) := by
  unfold b_X12_init_306
  rw [if_pos (show g_fr T35 76 = true by decide +kernel), if_pos (show g_is (g_nS T35 76 14 121) 40 12 = true by decide +kernel)]
  rfl
def T37 : gS := g_pS (g_nS T36 77 14 7) 40 64 77
theorem t_38 (M : gM) (N : gN) : b_X12_init_314 T36 M N = b_X12_init_322 T37 (g_z M 77 (iN 0)) (g_z N 77 0) := by
  unfold b_X12_init_314
  rw [if_pos (show g_fr T36 77 = true by decide +kernel), if_pos (show g_is (g_nS T36 77 14 7) 40 12 = true by decide +kernel)]
  rfl
def T38 : gS := g_pS (g_nS T37 78 14 7) 40 65 78
theorem t_39 (M : gM) (N : gN) : b_X12_init_322 T37 M N = b_X12_init_330 T38 (g_z M 78 (iN 0)) (g_z N 78 0) := by
  unfold b_X12_init_322
  rw [if_pos (show g_fr T37 78 = true by decide +kernel), if_pos (show g_is (g_nS T37 78 14 7) 40 12 = true by decide +kernel)]
  rfl
def T39 : gS := g_pS (g_nS T38 79 14 7) 40 66 79
theorem t_40 (M : gM) (N : gN) : b_X12_init_330 T38 M N = b_X12_init_338 T39 (g_z M 79 (iN 0)) (g_z N 79 0) := by
  unfold b_X12_init_330
  rw [if_pos (show g_fr T38 79 = true by decide +kernel), if_pos (show g_is (g_nS T38 79 14 7) 40 12 = true by decide +kernel)]
  rfl
def T40 : gS := g_pS (g_nS T39 80 14 49) 40 67 80
theorem t_41 (M : gM) (N : gN) : b_X12_init_338 T39 M N = b_X12_init_346 T40 (g_z M 80 (iN 0)) (g_z N 80 0) := by
  unfold b_X12_init_338
  rw [if_pos (show g_fr T39 80 = true by decide +kernel), if_pos (show g_is (g_nS T39 80 14 49) 40 12 = true by decide +kernel)]
  rfl
def T41 : gS := g_pS (g_nS T40 81 14 7) 40 68 81
theorem t_42 (M : gM) (N : gN) : b_X12_init_346 T40 M N = b_X12_init_354 T41 (g_z M 81 (iN 0)) (g_z N 81 0) := by
  unfold b_X12_init_346
  rw [if_pos (show g_fr T40 81 = true by decide +kernel), if_pos (show g_is (g_nS T40 81 14 7) 40 12 = true by decide +kernel)]
  rfl
def T42 : gS := g_pS (g_nS T41 82 14 7) 40 69 82
theorem t_43 (M : gM) (N : gN) : b_X12_init_354 T41 M N = b_X12_init_362 T42 (g_z M 82 (iN 0)) (g_z N 82 0) := by
  unfold b_X12_init_354
  rw [if_pos (show g_fr T41 82 = true by decide +kernel), if_pos (show g_is (g_nS T41 82 14 7) 40 12 = true by decide +kernel)]
  rfl
def T43 : gS := g_pS (g_nS T42 83 14 6) 40 75 83
theorem t_44 (M : gM) (N : gN) : b_X12_init_362 T42 M N = b_X12_init_370 T43 (g_z M 83 (iN 0)) (g_z N 83 0) := by
  unfold b_X12_init_362
  rw [if_pos (show g_fr T42 83 = true by decide +kernel), if_pos (show g_is (g_nS T42 83 14 6) 40 12 = true by decide +kernel)]
  rfl
def T44 : gS := g_pS (g_nS T43 84 14 6) 40 76 84
theorem t_45 (M : gM) (N : gN) : b_X12_init_370 T43 M N = b_X12_init_378 T44 (g_z M 84 (iN 0)) (g_z N 84 0) := by
  unfold b_X12_init_370
  rw [if_pos (show g_fr T43 84 = true by decide +kernel), if_pos (show g_is (g_nS T43 84 14 6) 40 12 = true by decide +kernel)]
  rfl
def T45 : gS := g_pS (g_nS T44 85 15 10) 40 77 85
theorem t_46 (M : gM) (N : gN) : b_X12_init_378 T44 M N = b_X12_init_386 T45 (g_z M 85 (iN 0)) (g_z N 85 0) := by
  unfold b_X12_init_378
  rw [if_pos (show g_fr T44 85 = true by decide +kernel), if_pos (show g_is (g_nS T44 85 15 10) 40 12 = true by decide +kernel)]
  rfl
def TT : gS := T45
theorem l_listM {N : gN} : ∀ k i n, i + k = 60 → k < n → ∀ M : gM, ∃ M', l_X12_init_388 n (iN i) TT M N = some (TT, M', N) ∧ (∀ j, i ≤ j → j < 60 → M' 57 j = iM) ∧ ∀ a j, ¬ (a = 57 ∧ i ≤ j ∧ j < 60) → M' a j = M a j := by
  have g1 : g_is TT 40 12 = true := by decide +kernel
  have g2 : TT.2 40 25 = 57 := by decide +kernel
  have g3 : TT.1 57 = some (14, 60) := by decide +kernel
  refine up_ind (fun n M => ?_) (fun i n hi ih M => ?_)
  · rw [l_X12_init_388]
    simp (disch := omega) only [li_0, li_1, li_2, li_3, li_4, li_5, li_6, li_7, li_8, li_9, li_10, li_11, li_12, li_13, li_14, li_15, li_16, li_18, li_19, li_20, li_24, li_28, li_29, li_30, li_31, li_32, li_36, li_40, li_41, li_42, li_43, li_45, li_48, li_49, li_50, li_56, li_57, li_59, li_60, li_61, li_62, li_63, li_64, li_97, li_99, li_100, li_120, li_121, li_122, li_255, li_270, li_300, li_400, li_500, li_540, li_1000, li_1024, li_1440, li_9999, li_11264, li_32768, li_268435456, li_1073741824, li_m, li_o, iN_add, iN_mul, iN_lt, iN_in, iN_cl, iN_inj, iM_ne, iM_ne', iN_or, iN_xor, iN_bd, sh31n, iN_shl2, iN_shr2, iN_bit2, Nat.one_mul, oB, iff_t, iff_f, if_true, if_false, g_up_ne, g_up_eq, g_z_ne, g_z_eq]
    exact ⟨M, rfl, fun j h1 h2 => by omega, fun a j _ => rfl⟩
  · rw [l_X12_init_388, if_pos g1, g2, if_pos (show g_is TT 57 14 = true by rw [is_of g3]; trivial), ln_of g3]
    unfold b_X12_init_401
    simp (disch := omega) only [li_0, li_1, li_2, li_3, li_4, li_5, li_6, li_7, li_8, li_9, li_10, li_11, li_12, li_13, li_14, li_15, li_16, li_18, li_19, li_20, li_24, li_28, li_29, li_30, li_31, li_32, li_36, li_40, li_41, li_42, li_43, li_45, li_48, li_49, li_50, li_56, li_57, li_59, li_60, li_61, li_62, li_63, li_64, li_97, li_99, li_100, li_120, li_121, li_122, li_255, li_270, li_300, li_400, li_500, li_540, li_1000, li_1024, li_1440, li_9999, li_11264, li_32768, li_268435456, li_1073741824, li_m, li_o, iN_add, iN_mul, iN_lt, iN_in, iN_cl, iN_inj, iM_ne, iM_ne', iN_or, iN_xor, iN_bd, sh31n, iN_shl2, iN_shr2, iN_bit2, Nat.one_mul, oB, iff_t, iff_f, if_true, if_false, g_up_ne, g_up_eq, g_z_ne, g_z_eq]
    obtain ⟨M', h1, h2, h3⟩ := ih (g_up M 57 i iM)
    refine ⟨M', h1, fun j h4 h5 => ?_, fun a j h4 => ?_⟩
    · by_cases hj : j = i
      · rw [h3 _ _ (by omega)]; simp (disch := omega) only [li_0, li_1, li_2, li_3, li_4, li_5, li_6, li_7, li_8, li_9, li_10, li_11, li_12, li_13, li_14, li_15, li_16, li_18, li_19, li_20, li_24, li_28, li_29, li_30, li_31, li_32, li_36, li_40, li_41, li_42, li_43, li_45, li_48, li_49, li_50, li_56, li_57, li_59, li_60, li_61, li_62, li_63, li_64, li_97, li_99, li_100, li_120, li_121, li_122, li_255, li_270, li_300, li_400, li_500, li_540, li_1000, li_1024, li_1440, li_9999, li_11264, li_32768, li_268435456, li_1073741824, li_m, li_o, iN_add, iN_mul, iN_lt, iN_in, iN_cl, iN_inj, iM_ne, iM_ne', iN_or, iN_xor, iN_bd, sh31n, iN_shl2, iN_shr2, iN_bit2, Nat.one_mul, oB, iff_t, iff_f, if_true, if_false, g_up_ne, g_up_eq, g_z_ne, g_z_eq]
      · exact h2 j (by omega) h5
    · rw [h3 _ _ (by omega)]; simp (disch := omega) only [li_0, li_1, li_2, li_3, li_4, li_5, li_6, li_7, li_8, li_9, li_10, li_11, li_12, li_13, li_14, li_15, li_16, li_18, li_19, li_20, li_24, li_28, li_29, li_30, li_31, li_32, li_36, li_40, li_41, li_42, li_43, li_45, li_48, li_49, li_50, li_56, li_57, li_59, li_60, li_61, li_62, li_63, li_64, li_97, li_99, li_100, li_120, li_121, li_122, li_255, li_270, li_300, li_400, li_500, li_540, li_1000, li_1024, li_1440, li_9999, li_11264, li_32768, li_268435456, li_1073741824, li_m, li_o, iN_add, iN_mul, iN_lt, iN_in, iN_cl, iN_inj, iM_ne, iM_ne', iN_or, iN_xor, iN_bd, sh31n, iN_shl2, iN_shr2, iN_bit2, Nat.one_mul, oB, iff_t, iff_f, if_true, if_false, g_up_ne, g_up_eq, g_z_ne, g_z_eq]
def mk12 (M : gM) : gM := (g_z (g_z (g_z (g_z (g_z (g_z (g_z (g_z (g_z (g_z (g_z (g_z (g_z (g_z (g_z (g_z (g_z (g_z (g_up (g_z (g_z (g_z (g_z (g_z (g_z (g_z (g_z (g_z (g_z (g_z (g_z (g_z (g_z (g_z (g_z (g_z (g_z (g_up (g_z (g_z (g_z (g_z (g_z (g_z (g_z (g_z (g_z M 41 (iN 0)) 42 (iN 0)) 43 (iN 0)) 44 (iN 0)) 45 (iN 0)) 46 (iN 0)) 47 (iN 0)) 48 (iN 0)) 49 (iN 0)) 40 15 30) 50 (iN 0)) 51 (iN 0)) 52 (iN 0)) 53 (iN 0)) 54 (iN 0)) 55 (iN 0)) 56 (iN 0)) 57 (iN 0)) 58 (iN 0)) 59 (iN 0)) 60 (iN 0)) 61 (iN 0)) 62 (iN 0)) 63 (iN 0)) 64 (iN 0)) 65 (iN 0)) 66 (iN 0)) 67 (iN 0)) 40 37 (-1)) 68 (iN 0)) 69 (iN 0)) 70 (iN 0)) 71 (iN 0)) 72 (iN 0)) 73 (iN 0)) 74 (iN 0)) 75 (iN 0)) 76 (iN 0)) 77 (iN 0)) 78 (iN 0)) 79 (iN 0)) 80 (iN 0)) 81 (iN 0)) 82 (iN 0)) 83 (iN 0)) 84 (iN 0)) 85 (iN 0))
theorem i_X12a (M : gM) (N : gN) : ∃ N', f_X12_init T0 M N = l_X12_init_388 g_FU (iN 0) TT (mk12 M) N' := by
  unfold f_X12_init
  rw [t_0, t_1, t_2, t_3, t_4, t_5, t_6, t_7, t_8, t_9, t_10, t_11, t_12, t_13, t_14, t_15, t_16, t_17, t_18, t_19, t_20, t_21, t_22, t_23, t_24, t_25, t_26, t_27, t_28, t_29, t_30, t_31, t_32, t_33, t_34, t_35, t_36, t_37, t_38, t_39, t_40, t_41, t_42, t_43, t_44, t_45, t_46]
  exact ⟨_, rfl⟩
theorem mk12_z {M : gM} {a k : Nat} (h1 : ¬ (a = 40 ∧ k = 15)) (h2 : ¬ (a = 40 ∧ k = 37)) : mk12 M a k = M a k ∨ mk12 M a k = iN 0 := by
  unfold mk12
  repeat (first | exact Or.inl rfl | refine z0 ?_ | refine upx h1 ?_ | refine upx h2 ?_)
theorem mk12_15 (M : gM) : mk12 M 40 15 = iN 30 := by
  unfold mk12
  simp (disch := omega) only [li_0, li_1, li_2, li_3, li_4, li_5, li_6, li_7, li_8, li_9, li_10, li_11, li_12, li_13, li_14, li_15, li_16, li_18, li_19, li_20, li_24, li_28, li_29, li_30, li_31, li_32, li_36, li_40, li_41, li_42, li_43, li_45, li_48, li_49, li_50, li_56, li_57, li_59, li_60, li_61, li_62, li_63, li_64, li_97, li_99, li_100, li_120, li_121, li_122, li_255, li_270, li_300, li_400, li_500, li_540, li_1000, li_1024, li_1440, li_9999, li_11264, li_32768, li_268435456, li_1073741824, li_m, li_o, iN_add, iN_mul, iN_lt, iN_in, iN_cl, iN_inj, iM_ne, iM_ne', iN_or, iN_xor, iN_bd, sh31n, iN_shl2, iN_shr2, iN_bit2, Nat.one_mul, oB, iff_t, iff_f, if_true, if_false, g_up_ne, g_up_eq, g_z_ne, g_z_eq]
theorem mk12_37 (M : gM) : mk12 M 40 37 = iM := by
  unfold mk12
  simp (disch := omega) only [li_0, li_1, li_2, li_3, li_4, li_5, li_6, li_7, li_8, li_9, li_10, li_11, li_12, li_13, li_14, li_15, li_16, li_18, li_19, li_20, li_24, li_28, li_29, li_30, li_31, li_32, li_36, li_40, li_41, li_42, li_43, li_45, li_48, li_49, li_50, li_56, li_57, li_59, li_60, li_61, li_62, li_63, li_64, li_97, li_99, li_100, li_120, li_121, li_122, li_255, li_270, li_300, li_400, li_500, li_540, li_1000, li_1024, li_1440, li_9999, li_11264, li_32768, li_268435456, li_1073741824, li_m, li_o, iN_add, iN_mul, iN_lt, iN_in, iN_cl, iN_inj, iM_ne, iM_ne', iN_or, iN_xor, iN_bd, sh31n, iN_shl2, iN_shr2, iN_bit2, Nat.one_mul, oB, iff_t, iff_f, if_true, if_false, g_up_ne, g_up_eq, g_z_ne, g_z_eq]
