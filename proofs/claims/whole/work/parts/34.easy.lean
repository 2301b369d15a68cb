/-! Calls that need no loop. -/
theorem call_count {σ : gS} {M : gM} (h : Inv σ M) (x : Int32) : ∃ r, f_X11_count x σ M = some r ∧ f_X12_count x σ M = some r := by
  obtain ⟨P, T, C, R, F, hL, hP, hT, hD, hN, hB, hK, hC, hX⟩ := h
  obtain ⟨⟨d, _, d1, d2⟩, ⟨f, _, d3, d4⟩, ⟨s, _, d5, d6⟩, d7, d8⟩ := hD
  obtain ⟨n, _, n1, n2, _⟩ := hN
  obtain ⟨kk, _, k1, k2, _⟩ := hK
  obtain ⟨⟨c, _, c1, c2⟩, _⟩ := hC
  unfold f_X11_count b_X11_count_0 f_X12_count b_X12_count_0
  rw [d1, d2, d3, d4, d5, d6, d7, n1, n2, k1, k2, c1, c2, hP.2.1, hP.2.2.1, hT.2.2.2.1, hT.2.2.2.2.1, hT.2.2.2.2.2.1, hT.2.2.2.2.2.2.1, hT.2.2.2.2.2.2.2.1, hT.2.2.2.2.2.2.2.2.1]
  by_cases hc : x = 0
  · exact ⟨_, by rw [if_pos hc], by rw [if_pos hc]⟩
  rw [if_neg hc]
  try rw [if_neg hc]
  clear hc
  by_cases hc : x = 1
  · exact ⟨_, by rw [if_pos hc], by rw [if_pos hc]⟩
  rw [if_neg hc]
  try rw [if_neg hc]
  clear hc
  by_cases hc : x = 2
  · exact ⟨_, by rw [if_pos hc], by rw [if_pos hc]⟩
  rw [if_neg hc]
  try rw [if_neg hc]
  clear hc
  by_cases hc : x = 3
  · exact ⟨_, by rw [if_pos hc], by rw [if_pos hc]⟩
  rw [if_neg hc]
  try rw [if_neg hc]
  clear hc
  by_cases hc : x = 4
  · exact ⟨_, by rw [if_pos hc], by rw [if_pos hc]⟩
  rw [if_neg hc]
  try rw [if_neg hc]
  clear hc
  by_cases hc : x = 5
  · exact ⟨_, by rw [if_pos hc], by rw [if_pos hc]⟩
  rw [if_neg hc]
  try rw [if_neg hc]
  clear hc
  by_cases hc : x = 6
  · exact ⟨_, by rw [if_pos hc], by rw [if_pos hc]⟩
  rw [if_neg hc]
  try rw [if_neg hc]
  clear hc
  by_cases hc : x = 7
  · exact ⟨_, by rw [if_pos hc], by rw [if_pos hc]⟩
  rw [if_neg hc]
  try rw [if_neg hc]
  clear hc
  by_cases hc : x = 8
  · exact ⟨_, by rw [if_pos hc], by rw [if_pos hc]⟩
  rw [if_neg hc]
  try rw [if_neg hc]
  clear hc
  by_cases hc : x = 9
  · exact ⟨_, by rw [if_pos hc], by rw [if_pos hc]⟩
  rw [if_neg hc]
  try rw [if_neg hc]
  clear hc
  by_cases hc : x = 10
  · exact ⟨_, by rw [if_pos hc], by rw [if_pos hc]⟩
  rw [if_neg hc]
  try rw [if_neg hc]
  clear hc
  exact ⟨_, rfl, rfl⟩
theorem call_moved {σ : gS} {M : gM} (h : Inv σ M) : ∃ r, f_X11_moved σ M = some r ∧ f_X12_moved σ M = some r := by
  obtain ⟨P, T, C, R, F, hL, hP, hT, hD, hN, hB, hK, hC, hX⟩ := h
  unfold f_X11_moved b_X11_moved_0 f_X12_moved b_X12_moved_0
  rw [hD.2.2.2.2]
  exact ⟨_, rfl, rfl⟩
theorem call_start {σ : gS} {M : gM} (h : Inv σ M) (x : Int32) : ∃ r M1 M2, f_X11_start x σ M = some (r, M1) ∧ f_X12_start x σ M1 = some (r, M2) ∧ Inv σ M2 := by
  have h0 := h
  obtain ⟨P, T, C, R, F, hL, hP, hT, hD, hN, hB, hK, hC, hX⟩ := h
  have hFT := hT.F T (Nat.le_refl _)
  have c1 := hT.2.2.2.2.2.2.2.1
  have c2 := hT.2.2.2.2.2.2.2.2.1
  have hCF := hT.2.2.1
  have hT6 := hT.1
  unfold f_X11_start b_X11_start_0 f_X12_start b_X12_start_0
  rcases in_cases x (a := 0) (b := 400) (by omega) (by omega) with ⟨n, rfl, _, hn, e⟩ | ⟨e, _⟩
  · by_cases hc : 0 < C
    · refine ⟨iN 0, M, M, ?_, ?_, h0⟩
      · simp (disch := omega) only [li_0, li_1, li_2, li_3, li_4, li_5, li_6, li_7, li_8, li_9, li_10, li_11, li_12, li_13, li_14, li_15, li_16, li_18, li_19, li_20, li_24, li_28, li_29, li_30, li_31, li_32, li_36, li_40, li_41, li_42, li_43, li_45, li_48, li_49, li_50, li_56, li_57, li_59, li_60, li_61, li_62, li_63, li_64, li_97, li_99, li_100, li_120, li_121, li_122, li_255, li_270, li_300, li_400, li_500, li_540, li_1000, li_1024, li_1440, li_9999, li_11264, li_32768, li_268435456, li_1073741824, li_m, li_o, iN_add, iN_mul, iN_lt, iN_in, iN_cl, iN_inj, iM_ne, iM_ne', iN_or, iN_xor, iN_bd, sh31n, iN_shl2, iN_shr2, iN_bit2, Nat.one_mul, oB, iff_t, iff_f, if_true, if_false, g_up_ne, g_up_eq, g_z_ne, g_z_eq, w_in, e, c1]
      · simp (disch := omega) only [li_0, li_1, li_2, li_3, li_4, li_5, li_6, li_7, li_8, li_9, li_10, li_11, li_12, li_13, li_14, li_15, li_16, li_18, li_19, li_20, li_24, li_28, li_29, li_30, li_31, li_32, li_36, li_40, li_41, li_42, li_43, li_45, li_48, li_49, li_50, li_56, li_57, li_59, li_60, li_61, li_62, li_63, li_64, li_97, li_99, li_100, li_120, li_121, li_122, li_255, li_270, li_300, li_400, li_500, li_540, li_1000, li_1024, li_1440, li_9999, li_11264, li_32768, li_268435456, li_1073741824, li_m, li_o, iN_add, iN_mul, iN_lt, iN_in, iN_cl, iN_inj, iM_ne, iM_ne', iN_or, iN_xor, iN_bd, sh31n, iN_shl2, iN_shr2, iN_bit2, Nat.one_mul, oB, iff_t, iff_f, if_true, if_false, g_up_ne, g_up_eq, g_z_ne, g_z_eq, e, c2]
    · refine ⟨iN 1, g_up M 1 11 (iN n), g_up (g_up M 1 11 (iN n)) 40 15 (iN n), ?_, ?_, ⟨P, T, C, R, F, hL, hP.keep (fun a j h => by simp (disch := omega) only [g_up_ne]), hT.keep (fun a j h => by simp (disch := omega) only [g_up_ne]) (fun t ht => (hL.2.2.2.1.1 t ht).1), ?_, hN.keep (fun a j h => by simp (disch := omega) only [g_up_ne]), hB.keep (fun a j h => by simp (disch := omega) only [g_up_ne]), hK.keep (fun a j h => by simp (disch := omega) only [g_up_ne]), hC.keep (fun a j h => by simp (disch := omega) only [g_up_ne]), hX.keep hL.2.2.2.2.1 hT.1 (fun a j h => by simp (disch := omega) only [g_up_ne])⟩⟩
      · simp (disch := omega) only [li_0, li_1, li_2, li_3, li_4, li_5, li_6, li_7, li_8, li_9, li_10, li_11, li_12, li_13, li_14, li_15, li_16, li_18, li_19, li_20, li_24, li_28, li_29, li_30, li_31, li_32, li_36, li_40, li_41, li_42, li_43, li_45, li_48, li_49, li_50, li_56, li_57, li_59, li_60, li_61, li_62, li_63, li_64, li_97, li_99, li_100, li_120, li_121, li_122, li_255, li_270, li_300, li_400, li_500, li_540, li_1000, li_1024, li_1440, li_9999, li_11264, li_32768, li_268435456, li_1073741824, li_m, li_o, iN_add, iN_mul, iN_lt, iN_in, iN_cl, iN_inj, iM_ne, iM_ne', iN_or, iN_xor, iN_bd, sh31n, iN_shl2, iN_shr2, iN_bit2, Nat.one_mul, oB, iff_t, iff_f, if_true, if_false, g_up_ne, g_up_eq, g_z_ne, g_z_eq, w_in, e, c1]
      · simp (disch := omega) only [li_0, li_1, li_2, li_3, li_4, li_5, li_6, li_7, li_8, li_9, li_10, li_11, li_12, li_13, li_14, li_15, li_16, li_18, li_19, li_20, li_24, li_28, li_29, li_30, li_31, li_32, li_36, li_40, li_41, li_42, li_43, li_45, li_48, li_49, li_50, li_56, li_57, li_59, li_60, li_61, li_62, li_63, li_64, li_97, li_99, li_100, li_120, li_121, li_122, li_255, li_270, li_300, li_400, li_500, li_540, li_1000, li_1024, li_1440, li_9999, li_11264, li_32768, li_268435456, li_1073741824, li_m, li_o, iN_add, iN_mul, iN_lt, iN_in, iN_cl, iN_inj, iM_ne, iM_ne', iN_or, iN_xor, iN_bd, sh31n, iN_shl2, iN_shr2, iN_bit2, Nat.one_mul, oB, iff_t, iff_f, if_true, if_false, g_up_ne, g_up_eq, g_z_ne, g_z_eq, e, c2]
      · obtain ⟨q1, q2, q3, q4, q5⟩ := hD
        unfold vD
        simp (disch := omega) only [li_0, li_1, li_2, li_3, li_4, li_5, li_6, li_7, li_8, li_9, li_10, li_11, li_12, li_13, li_14, li_15, li_16, li_18, li_19, li_20, li_24, li_28, li_29, li_30, li_31, li_32, li_36, li_40, li_41, li_42, li_43, li_45, li_48, li_49, li_50, li_56, li_57, li_59, li_60, li_61, li_62, li_63, li_64, li_97, li_99, li_100, li_120, li_121, li_122, li_255, li_270, li_300, li_400, li_500, li_540, li_1000, li_1024, li_1440, li_9999, li_11264, li_32768, li_268435456, li_1073741824, li_m, li_o, iN_add, iN_mul, iN_lt, iN_in, iN_cl, iN_inj, iM_ne, iM_ne', iN_or, iN_xor, iN_bd, sh31n, iN_shl2, iN_shr2, iN_bit2, Nat.one_mul, oB, iff_t, iff_f, if_true, if_false, g_up_ne, g_up_eq, g_z_ne, g_z_eq]
        exact ⟨q1, ⟨n, hn, rfl, rfl⟩, q3, q4, q5⟩
  · refine ⟨iN 0, M, M, ?_, ?_, h0⟩
    · simp (disch := omega) only [li_0, li_1, li_2, li_3, li_4, li_5, li_6, li_7, li_8, li_9, li_10, li_11, li_12, li_13, li_14, li_15, li_16, li_18, li_19, li_20, li_24, li_28, li_29, li_30, li_31, li_32, li_36, li_40, li_41, li_42, li_43, li_45, li_48, li_49, li_50, li_56, li_57, li_59, li_60, li_61, li_62, li_63, li_64, li_97, li_99, li_100, li_120, li_121, li_122, li_255, li_270, li_300, li_400, li_500, li_540, li_1000, li_1024, li_1440, li_9999, li_11264, li_32768, li_268435456, li_1073741824, li_m, li_o, iN_add, iN_mul, iN_lt, iN_in, iN_cl, iN_inj, iM_ne, iM_ne', iN_or, iN_xor, iN_bd, sh31n, iN_shl2, iN_shr2, iN_bit2, Nat.one_mul, oB, iff_t, iff_f, if_true, if_false, g_up_ne, g_up_eq, g_z_ne, g_z_eq, w_in, e]
    · simp (disch := omega) only [li_0, li_1, li_2, li_3, li_4, li_5, li_6, li_7, li_8, li_9, li_10, li_11, li_12, li_13, li_14, li_15, li_16, li_18, li_19, li_20, li_24, li_28, li_29, li_30, li_31, li_32, li_36, li_40, li_41, li_42, li_43, li_45, li_48, li_49, li_50, li_56, li_57, li_59, li_60, li_61, li_62, li_63, li_64, li_97, li_99, li_100, li_120, li_121, li_122, li_255, li_270, li_300, li_400, li_500, li_540, li_1000, li_1024, li_1440, li_9999, li_11264, li_32768, li_268435456, li_1073741824, li_m, li_o, iN_add, iN_mul, iN_lt, iN_in, iN_cl, iN_inj, iM_ne, iM_ne', iN_or, iN_xor, iN_bd, sh31n, iN_shl2, iN_shr2, iN_bit2, Nat.one_mul, oB, iff_t, iff_f, if_true, if_false, g_up_ne, g_up_eq, g_z_ne, g_z_eq, e]
theorem call_season {σ : gS} {M : gM} (h : Inv σ M) (x : Int32) : ∃ r M1 M2, f_X11_season x σ M = some (r, M1) ∧ f_X12_season x σ M1 = some (r, M2) ∧ Inv σ M2 := by
  have h0 := h
  obtain ⟨P, T, C, R, F, hL, hP, hT, hD, hN, hB, hK, hC, hX⟩ := h
  unfold f_X11_season b_X11_season_0 f_X12_season b_X12_season_0
  rcases in_cases x (a := 0) (b := 3) (by omega) (by omega) with ⟨n, rfl, _, hn, e⟩ | ⟨e, _⟩
  · refine ⟨iN 1, g_up M 1 12 (iN n), g_up (g_up M 1 12 (iN n)) 40 16 (iN n), ?_, ?_, ⟨P, T, C, R, F, hL, hP.keep (fun a j h => by simp (disch := omega) only [g_up_ne]), hT.keep (fun a j h => by simp (disch := omega) only [g_up_ne]) (fun t ht => (hL.2.2.2.1.1 t ht).1), ?_, hN.keep (fun a j h => by simp (disch := omega) only [g_up_ne]), hB.keep (fun a j h => by simp (disch := omega) only [g_up_ne]), hK.keep (fun a j h => by simp (disch := omega) only [g_up_ne]), hC.keep (fun a j h => by simp (disch := omega) only [g_up_ne]), hX.keep hL.2.2.2.2.1 hT.1 (fun a j h => by simp (disch := omega) only [g_up_ne])⟩⟩
    · simp (disch := omega) only [li_0, li_1, li_2, li_3, li_4, li_5, li_6, li_7, li_8, li_9, li_10, li_11, li_12, li_13, li_14, li_15, li_16, li_18, li_19, li_20, li_24, li_28, li_29, li_30, li_31, li_32, li_36, li_40, li_41, li_42, li_43, li_45, li_48, li_49, li_50, li_56, li_57, li_59, li_60, li_61, li_62, li_63, li_64, li_97, li_99, li_100, li_120, li_121, li_122, li_255, li_270, li_300, li_400, li_500, li_540, li_1000, li_1024, li_1440, li_9999, li_11264, li_32768, li_268435456, li_1073741824, li_m, li_o, iN_add, iN_mul, iN_lt, iN_in, iN_cl, iN_inj, iM_ne, iM_ne', iN_or, iN_xor, iN_bd, sh31n, iN_shl2, iN_shr2, iN_bit2, Nat.one_mul, oB, iff_t, iff_f, if_true, if_false, g_up_ne, g_up_eq, g_z_ne, g_z_eq, w_in, e]
    · simp (disch := omega) only [li_0, li_1, li_2, li_3, li_4, li_5, li_6, li_7, li_8, li_9, li_10, li_11, li_12, li_13, li_14, li_15, li_16, li_18, li_19, li_20, li_24, li_28, li_29, li_30, li_31, li_32, li_36, li_40, li_41, li_42, li_43, li_45, li_48, li_49, li_50, li_56, li_57, li_59, li_60, li_61, li_62, li_63, li_64, li_97, li_99, li_100, li_120, li_121, li_122, li_255, li_270, li_300, li_400, li_500, li_540, li_1000, li_1024, li_1440, li_9999, li_11264, li_32768, li_268435456, li_1073741824, li_m, li_o, iN_add, iN_mul, iN_lt, iN_in, iN_cl, iN_inj, iM_ne, iM_ne', iN_or, iN_xor, iN_bd, sh31n, iN_shl2, iN_shr2, iN_bit2, Nat.one_mul, oB, iff_t, iff_f, if_true, if_false, g_up_ne, g_up_eq, g_z_ne, g_z_eq, e]
    · obtain ⟨q1, q2, q3, q4, q5⟩ := hD
      unfold vD
      simp (disch := omega) only [li_0, li_1, li_2, li_3, li_4, li_5, li_6, li_7, li_8, li_9, li_10, li_11, li_12, li_13, li_14, li_15, li_16, li_18, li_19, li_20, li_24, li_28, li_29, li_30, li_31, li_32, li_36, li_40, li_41, li_42, li_43, li_45, li_48, li_49, li_50, li_56, li_57, li_59, li_60, li_61, li_62, li_63, li_64, li_97, li_99, li_100, li_120, li_121, li_122, li_255, li_270, li_300, li_400, li_500, li_540, li_1000, li_1024, li_1440, li_9999, li_11264, li_32768, li_268435456, li_1073741824, li_m, li_o, iN_add, iN_mul, iN_lt, iN_in, iN_cl, iN_inj, iM_ne, iM_ne', iN_or, iN_xor, iN_bd, sh31n, iN_shl2, iN_shr2, iN_bit2, Nat.one_mul, oB, iff_t, iff_f, if_true, if_false, g_up_ne, g_up_eq, g_z_ne, g_z_eq]
      exact ⟨q1, q2, ⟨n, hn, rfl, rfl⟩, q4, q5⟩
  · refine ⟨iN 0, M, M, ?_, ?_, h0⟩
    · simp (disch := omega) only [li_0, li_1, li_2, li_3, li_4, li_5, li_6, li_7, li_8, li_9, li_10, li_11, li_12, li_13, li_14, li_15, li_16, li_18, li_19, li_20, li_24, li_28, li_29, li_30, li_31, li_32, li_36, li_40, li_41, li_42, li_43, li_45, li_48, li_49, li_50, li_56, li_57, li_59, li_60, li_61, li_62, li_63, li_64, li_97, li_99, li_100, li_120, li_121, li_122, li_255, li_270, li_300, li_400, li_500, li_540, li_1000, li_1024, li_1440, li_9999, li_11264, li_32768, li_268435456, li_1073741824, li_m, li_o, iN_add, iN_mul, iN_lt, iN_in, iN_cl, iN_inj, iM_ne, iM_ne', iN_or, iN_xor, iN_bd, sh31n, iN_shl2, iN_shr2, iN_bit2, Nat.one_mul, oB, iff_t, iff_f, if_true, if_false, g_up_ne, g_up_eq, g_z_ne, g_z_eq, w_in, e]
    · simp (disch := omega) only [li_0, li_1, li_2, li_3, li_4, li_5, li_6, li_7, li_8, li_9, li_10, li_11, li_12, li_13, li_14, li_15, li_16, li_18, li_19, li_20, li_24, li_28, li_29, li_30, li_31, li_32, li_36, li_40, li_41, li_42, li_43, li_45, li_48, li_49, li_50, li_56, li_57, li_59, li_60, li_61, li_62, li_63, li_64, li_97, li_99, li_100, li_120, li_121, li_122, li_255, li_270, li_300, li_400, li_500, li_540, li_1000, li_1024, li_1440, li_9999, li_11264, li_32768, li_268435456, li_1073741824, li_m, li_o, iN_add, iN_mul, iN_lt, iN_in, iN_cl, iN_inj, iM_ne, iM_ne', iN_or, iN_xor, iN_bd, sh31n, iN_shl2, iN_shr2, iN_bit2, Nat.one_mul, oB, iff_t, iff_f, if_true, if_false, g_up_ne, g_up_eq, g_z_ne, g_z_eq, e]
theorem call_day {σ : gS} {M : gM} (h : Inv σ M) (x : Int32) : ∃ r M1 M2, f_X11_day x σ M = some (r, M1) ∧ f_X12_day x σ M1 = some (r, M2) ∧ Inv σ M2 := by
  have h0 := h
  obtain ⟨P, T, C, R, F, hL, hP, hT, hD, hN, hB, hK, hC, hX⟩ := h
  have hD0 := hD
  obtain ⟨⟨d, hd, d1, d2⟩, q2, q3, q4, q5⟩ := hD0
  unfold f_X11_day b_X11_day_0 f_X12_day b_X12_day_0
  rcases in_cases x (a := 0) (b := 100) (by omega) (by omega) with ⟨n, rfl, _, hn, e⟩ | ⟨e, _⟩
  · by_cases hc : 1000 < d + n
    · refine ⟨iM, M, M, ?_, ?_, h0⟩
      · simp (disch := omega) only [li_0, li_1, li_2, li_3, li_4, li_5, li_6, li_7, li_8, li_9, li_10, li_11, li_12, li_13, li_14, li_15, li_16, li_18, li_19, li_20, li_24, li_28, li_29, li_30, li_31, li_32, li_36, li_40, li_41, li_42, li_43, li_45, li_48, li_49, li_50, li_56, li_57, li_59, li_60, li_61, li_62, li_63, li_64, li_97, li_99, li_100, li_120, li_121, li_122, li_255, li_270, li_300, li_400, li_500, li_540, li_1000, li_1024, li_1440, li_9999, li_11264, li_32768, li_268435456, li_1073741824, li_m, li_o, iN_add, iN_mul, iN_lt, iN_in, iN_cl, iN_inj, iM_ne, iM_ne', iN_or, iN_xor, iN_bd, sh31n, iN_shl2, iN_shr2, iN_bit2, Nat.one_mul, oB, iff_t, iff_f, if_true, if_false, g_up_ne, g_up_eq, g_z_ne, g_z_eq, w_in, e, d1]
      · simp (disch := omega) only [li_0, li_1, li_2, li_3, li_4, li_5, li_6, li_7, li_8, li_9, li_10, li_11, li_12, li_13, li_14, li_15, li_16, li_18, li_19, li_20, li_24, li_28, li_29, li_30, li_31, li_32, li_36, li_40, li_41, li_42, li_43, li_45, li_48, li_49, li_50, li_56, li_57, li_59, li_60, li_61, li_62, li_63, li_64, li_97, li_99, li_100, li_120, li_121, li_122, li_255, li_270, li_300, li_400, li_500, li_540, li_1000, li_1024, li_1440, li_9999, li_11264, li_32768, li_268435456, li_1073741824, li_m, li_o, iN_add, iN_mul, iN_lt, iN_in, iN_cl, iN_inj, iM_ne, iM_ne', iN_or, iN_xor, iN_bd, sh31n, iN_shl2, iN_shr2, iN_bit2, Nat.one_mul, oB, iff_t, iff_f, if_true, if_false, g_up_ne, g_up_eq, g_z_ne, g_z_eq, e, d2]
    · refine ⟨iN (d + n), g_up M 1 10 (iN (d + n)), g_up (g_up M 1 10 (iN (d + n))) 40 14 (iN (d + n)), ?_, ?_, ⟨P, T, C, R, F, hL, hP.keep (fun a j h => by simp (disch := omega) only [g_up_ne]), hT.keep (fun a j h => by simp (disch := omega) only [g_up_ne]) (fun t ht => (hL.2.2.2.1.1 t ht).1), ?_, hN.keep (fun a j h => by simp (disch := omega) only [g_up_ne]), hB.keep (fun a j h => by simp (disch := omega) only [g_up_ne]), hK.keep (fun a j h => by simp (disch := omega) only [g_up_ne]), hC.keep (fun a j h => by simp (disch := omega) only [g_up_ne]), hX.keep hL.2.2.2.2.1 hT.1 (fun a j h => by simp (disch := omega) only [g_up_ne])⟩⟩
      · simp (disch := omega) only [li_0, li_1, li_2, li_3, li_4, li_5, li_6, li_7, li_8, li_9, li_10, li_11, li_12, li_13, li_14, li_15, li_16, li_18, li_19, li_20, li_24, li_28, li_29, li_30, li_31, li_32, li_36, li_40, li_41, li_42, li_43, li_45, li_48, li_49, li_50, li_56, li_57, li_59, li_60, li_61, li_62, li_63, li_64, li_97, li_99, li_100, li_120, li_121, li_122, li_255, li_270, li_300, li_400, li_500, li_540, li_1000, li_1024, li_1440, li_9999, li_11264, li_32768, li_268435456, li_1073741824, li_m, li_o, iN_add, iN_mul, iN_lt, iN_in, iN_cl, iN_inj, iM_ne, iM_ne', iN_or, iN_xor, iN_bd, sh31n, iN_shl2, iN_shr2, iN_bit2, Nat.one_mul, oB, iff_t, iff_f, if_true, if_false, g_up_ne, g_up_eq, g_z_ne, g_z_eq, w_in, e, d1]
      · simp (disch := omega) only [li_0, li_1, li_2, li_3, li_4, li_5, li_6, li_7, li_8, li_9, li_10, li_11, li_12, li_13, li_14, li_15, li_16, li_18, li_19, li_20, li_24, li_28, li_29, li_30, li_31, li_32, li_36, li_40, li_41, li_42, li_43, li_45, li_48, li_49, li_50, li_56, li_57, li_59, li_60, li_61, li_62, li_63, li_64, li_97, li_99, li_100, li_120, li_121, li_122, li_255, li_270, li_300, li_400, li_500, li_540, li_1000, li_1024, li_1440, li_9999, li_11264, li_32768, li_268435456, li_1073741824, li_m, li_o, iN_add, iN_mul, iN_lt, iN_in, iN_cl, iN_inj, iM_ne, iM_ne', iN_or, iN_xor, iN_bd, sh31n, iN_shl2, iN_shr2, iN_bit2, Nat.one_mul, oB, iff_t, iff_f, if_true, if_false, g_up_ne, g_up_eq, g_z_ne, g_z_eq, e, d2]
      · unfold vD
        simp (disch := omega) only [li_0, li_1, li_2, li_3, li_4, li_5, li_6, li_7, li_8, li_9, li_10, li_11, li_12, li_13, li_14, li_15, li_16, li_18, li_19, li_20, li_24, li_28, li_29, li_30, li_31, li_32, li_36, li_40, li_41, li_42, li_43, li_45, li_48, li_49, li_50, li_56, li_57, li_59, li_60, li_61, li_62, li_63, li_64, li_97, li_99, li_100, li_120, li_121, li_122, li_255, li_270, li_300, li_400, li_500, li_540, li_1000, li_1024, li_1440, li_9999, li_11264, li_32768, li_268435456, li_1073741824, li_m, li_o, iN_add, iN_mul, iN_lt, iN_in, iN_cl, iN_inj, iM_ne, iM_ne', iN_or, iN_xor, iN_bd, sh31n, iN_shl2, iN_shr2, iN_bit2, Nat.one_mul, oB, iff_t, iff_f, if_true, if_false, g_up_ne, g_up_eq, g_z_ne, g_z_eq]
        exact ⟨⟨d + n, by omega, rfl, rfl⟩, q2, q3, q4, q5⟩
  · refine ⟨iM, M, M, ?_, ?_, h0⟩
    · simp (disch := omega) only [li_0, li_1, li_2, li_3, li_4, li_5, li_6, li_7, li_8, li_9, li_10, li_11, li_12, li_13, li_14, li_15, li_16, li_18, li_19, li_20, li_24, li_28, li_29, li_30, li_31, li_32, li_36, li_40, li_41, li_42, li_43, li_45, li_48, li_49, li_50, li_56, li_57, li_59, li_60, li_61, li_62, li_63, li_64, li_97, li_99, li_100, li_120, li_121, li_122, li_255, li_270, li_300, li_400, li_500, li_540, li_1000, li_1024, li_1440, li_9999, li_11264, li_32768, li_268435456, li_1073741824, li_m, li_o, iN_add, iN_mul, iN_lt, iN_in, iN_cl, iN_inj, iM_ne, iM_ne', iN_or, iN_xor, iN_bd, sh31n, iN_shl2, iN_shr2, iN_bit2, Nat.one_mul, oB, iff_t, iff_f, if_true, if_false, g_up_ne, g_up_eq, g_z_ne, g_z_eq, w_in, e]
    · simp (disch := omega) only [li_0, li_1, li_2, li_3, li_4, li_5, li_6, li_7, li_8, li_9, li_10, li_11, li_12, li_13, li_14, li_15, li_16, li_18, li_19, li_20, li_24, li_28, li_29, li_30, li_31, li_32, li_36, li_40, li_41, li_42, li_43, li_45, li_48, li_49, li_50, li_56, li_57, li_59, li_60, li_61, li_62, li_63, li_64, li_97, li_99, li_100, li_120, li_121, li_122, li_255, li_270, li_300, li_400, li_500, li_540, li_1000, li_1024, li_1440, li_9999, li_11264, li_32768, li_268435456, li_1073741824, li_m, li_o, iN_add, iN_mul, iN_lt, iN_in, iN_cl, iN_inj, iM_ne, iM_ne', iN_or, iN_xor, iN_bd, sh31n, iN_shl2, iN_shr2, iN_bit2, Nat.one_mul, oB, iff_t, iff_f, if_true, if_false, g_up_ne, g_up_eq, g_z_ne, g_z_eq, e]
theorem call_lay {σ : gS} {M : gM} (h : Inv σ M) (x y : Int32) : ∃ r, f_X11_lay x y σ M = some r ∧ f_X12_lay x y σ M = some r := by
  obtain ⟨P, T, C, R, F, hL, hP, hT, hD, hN, hB, hK, hC, hX⟩ := h
  have hFT := hT.F T (Nat.le_refl _)
  have c1 := hT.2.2.2.2.2.2.2.1
  have c2 := hT.2.2.2.2.2.2.2.2.1
  have hCF := hT.2.2.1
  have hT6 := hT.1
  have hP10 := hP.1
  unfold f_X11_lay b_X11_lay_0 f_X12_lay b_X12_lay_0
  rcases in_casesP x (P := C) (by omega) with ⟨n, rfl, hn, e⟩ | ⟨e, _⟩
  · rcases idx_or y P (by omega) with ⟨p, hp, rfl⟩ | hy
    · rcases in_cases (iN p) (a := 0) (b := 9) (by omega) (by omega) with ⟨p2, e0, _, hp2, e2⟩ | ⟨_, hno⟩
      · have b1 := (hB n hn).2 p (by omega)
        rw [at_in hL.2.1 hP.2.1 hP.1 hp]
        unfold f_X0_roomOfGuest b_X0_roomOfGuest_0 b_X0_roomOfGuest_29
        have e3 : n * 10 + p = 10 * n + p := by omega
        simp (disch := omega) only [li_0, li_1, li_2, li_3, li_4, li_5, li_6, li_7, li_8, li_9, li_10, li_11, li_12, li_13, li_14, li_15, li_16, li_18, li_19, li_20, li_24, li_28, li_29, li_30, li_31, li_32, li_36, li_40, li_41, li_42, li_43, li_45, li_48, li_49, li_50, li_56, li_57, li_59, li_60, li_61, li_62, li_63, li_64, li_97, li_99, li_100, li_120, li_121, li_122, li_255, li_270, li_300, li_400, li_500, li_540, li_1000, li_1024, li_1440, li_9999, li_11264, li_32768, li_268435456, li_1073741824, li_m, li_o, iN_add, iN_mul, iN_lt, iN_in, iN_cl, iN_inj, iM_ne, iM_ne', iN_or, iN_xor, iN_bd, sh31n, iN_shl2, iN_shr2, iN_bit2, Nat.one_mul, oB, iff_t, iff_f, if_true, if_false, g_up_ne, g_up_eq, g_z_ne, g_z_eq, w_in, e, e2, c1, c2, pers_in hP.2.2.1 hP.1 hp, e3, b1]
        exact ⟨_, rfl, rfl⟩
      · exact absurd rfl (hno p (by omega) (by omega))
    · rw [at_out hP.2.1 hP.1 hy]
      simp (disch := omega) only [li_0, li_1, li_2, li_3, li_4, li_5, li_6, li_7, li_8, li_9, li_10, li_11, li_12, li_13, li_14, li_15, li_16, li_18, li_19, li_20, li_24, li_28, li_29, li_30, li_31, li_32, li_36, li_40, li_41, li_42, li_43, li_45, li_48, li_49, li_50, li_56, li_57, li_59, li_60, li_61, li_62, li_63, li_64, li_97, li_99, li_100, li_120, li_121, li_122, li_255, li_270, li_300, li_400, li_500, li_540, li_1000, li_1024, li_1440, li_9999, li_11264, li_32768, li_268435456, li_1073741824, li_m, li_o, iN_add, iN_mul, iN_lt, iN_in, iN_cl, iN_inj, iM_ne, iM_ne', iN_or, iN_xor, iN_bd, sh31n, iN_shl2, iN_shr2, iN_bit2, Nat.one_mul, oB, iff_t, iff_f, if_true, if_false, g_up_ne, g_up_eq, g_z_ne, g_z_eq, w_in, e, c1, c2, pers_out hP.2.2.1 hP.1 hy]
      exact ⟨_, rfl, rfl⟩
  · rcases idx_or y P (by omega) with ⟨p, hp, rfl⟩ | hy
    · rw [at_in hL.2.1 hP.2.1 hP.1 hp]
      unfold f_X0_roomOfGuest b_X0_roomOfGuest_0 b_X0_roomOfGuest_28 b_X0_roomOfGuest_29
      simp (disch := omega) only [li_0, li_1, li_2, li_3, li_4, li_5, li_6, li_7, li_8, li_9, li_10, li_11, li_12, li_13, li_14, li_15, li_16, li_18, li_19, li_20, li_24, li_28, li_29, li_30, li_31, li_32, li_36, li_40, li_41, li_42, li_43, li_45, li_48, li_49, li_50, li_56, li_57, li_59, li_60, li_61, li_62, li_63, li_64, li_97, li_99, li_100, li_120, li_121, li_122, li_255, li_270, li_300, li_400, li_500, li_540, li_1000, li_1024, li_1440, li_9999, li_11264, li_32768, li_268435456, li_1073741824, li_m, li_o, iN_add, iN_mul, iN_lt, iN_in, iN_cl, iN_inj, iM_ne, iM_ne', iN_or, iN_xor, iN_bd, sh31n, iN_shl2, iN_shr2, iN_bit2, Nat.one_mul, oB, iff_t, iff_f, if_true, if_false, g_up_ne, g_up_eq, g_z_ne, g_z_eq, w_in, e, c1, c2]
      exact ⟨_, rfl, rfl⟩
    · rw [at_out hP.2.1 hP.1 hy]
      simp (disch := omega) only [li_0, li_1, li_2, li_3, li_4, li_5, li_6, li_7, li_8, li_9, li_10, li_11, li_12, li_13, li_14, li_15, li_16, li_18, li_19, li_20, li_24, li_28, li_29, li_30, li_31, li_32, li_36, li_40, li_41, li_42, li_43, li_45, li_48, li_49, li_50, li_56, li_57, li_59, li_60, li_61, li_62, li_63, li_64, li_97, li_99, li_100, li_120, li_121, li_122, li_255, li_270, li_300, li_400, li_500, li_540, li_1000, li_1024, li_1440, li_9999, li_11264, li_32768, li_268435456, li_1073741824, li_m, li_o, iN_add, iN_mul, iN_lt, iN_in, iN_cl, iN_inj, iM_ne, iM_ne', iN_or, iN_xor, iN_bd, sh31n, iN_shl2, iN_shr2, iN_bit2, Nat.one_mul, oB, iff_t, iff_f, if_true, if_false, g_up_ne, g_up_eq, g_z_ne, g_z_eq, w_in, e, c1, c2]
      exact ⟨_, rfl, rfl⟩
