/-! What the small askers of both sides tell. -/
theorem gb1 : (g_b (iN 1) = true) = True := by simp [g_b, iN]
theorem gb0 : (g_b (iN 0) = true) = True := by simp [g_b, iN]
theorem at_in {σ : gS} {M : gM} {P p : Nat} (hs : lyP σ P) (hP : M 2 1 = iN P) (h10 : P ≤ 10) (hp : p < P) : f_X5_at (iN p) σ M = some (100 + p) := by
  unfold f_X5_at b_X5_at_0
  simp (disch := omega) only [li_0, li_1, li_2, li_3, li_4, li_5, li_6, li_7, li_8, li_9, li_10, li_11, li_12, li_13, li_14, li_15, li_16, li_18, li_19, li_20, li_24, li_28, li_29, li_30, li_31, li_32, li_36, li_40, li_41, li_42, li_43, li_45, li_48, li_49, li_50, li_56, li_57, li_59, li_60, li_61, li_62, li_63, li_64, li_97, li_99, li_100, li_120, li_121, li_122, li_255, li_270, li_300, li_400, li_500, li_540, li_1000, li_1024, li_1440, li_9999, li_11264, li_32768, li_268435456, li_1073741824, li_m, li_o, iN_add, iN_mul, iN_lt, iN_in, iN_cl, iN_inj, iM_ne, iM_ne', iN_or, iN_xor, iN_bd, sh31n, iN_shl2, iN_shr2, iN_bit2, Nat.one_mul, oB, iff_t, iff_f, if_true, if_false, g_up_ne, g_up_eq, g_z_ne, g_z_eq, hP, (hs.1 p hp).2]
theorem at_out {σ : gS} {M : gM} {P : Nat} {x : Int32} (hP : M 2 1 = iN P) (h10 : P ≤ 10) (hx : ∀ p, p < P → x ≠ iN p) : f_X5_at x σ M = some 0 := by
  unfold f_X5_at b_X5_at_0
  rcases neg_or x with h | ⟨n, hn, rfl⟩
  · rw [if_pos h]
  · have : ¬ n < P := fun h => hx n h rfl
    simp (disch := omega) only [li_0, li_1, li_2, li_3, li_4, li_5, li_6, li_7, li_8, li_9, li_10, li_11, li_12, li_13, li_14, li_15, li_16, li_18, li_19, li_20, li_24, li_28, li_29, li_30, li_31, li_32, li_36, li_40, li_41, li_42, li_43, li_45, li_48, li_49, li_50, li_56, li_57, li_59, li_60, li_61, li_62, li_63, li_64, li_97, li_99, li_100, li_120, li_121, li_122, li_255, li_270, li_300, li_400, li_500, li_540, li_1000, li_1024, li_1440, li_9999, li_11264, li_32768, li_268435456, li_1073741824, li_m, li_o, iN_add, iN_mul, iN_lt, iN_in, iN_cl, iN_inj, iM_ne, iM_ne', iN_or, iN_xor, iN_bd, sh31n, iN_shl2, iN_shr2, iN_bit2, Nat.one_mul, oB, iff_t, iff_f, if_true, if_false, g_up_ne, g_up_eq, g_z_ne, g_z_eq, hP]
theorem pers_in {σ : gS} {M : gM} {P p : Nat} (hP : M 40 1 = iN P) (h10 : P ≤ 10) (hp : p < P) : f_X12_isPerson (iN p) σ M = some (iN 1) := by
  unfold f_X12_isPerson b_X12_isPerson_0
  rw [hP]
  rcases in_casesP (iN p) (P := P) (by omega) with ⟨n, h1, h2, h3⟩ | ⟨h1, h2⟩
  · simp (disch := omega) only [li_0, li_1, li_2, li_3, li_4, li_5, li_6, li_7, li_8, li_9, li_10, li_11, li_12, li_13, li_14, li_15, li_16, li_18, li_19, li_20, li_24, li_28, li_29, li_30, li_31, li_32, li_36, li_40, li_41, li_42, li_43, li_45, li_48, li_49, li_50, li_56, li_57, li_59, li_60, li_61, li_62, li_63, li_64, li_97, li_99, li_100, li_120, li_121, li_122, li_255, li_270, li_300, li_400, li_500, li_540, li_1000, li_1024, li_1440, li_9999, li_11264, li_32768, li_268435456, li_1073741824, li_m, li_o, iN_add, iN_mul, iN_lt, iN_in, iN_cl, iN_inj, iM_ne, iM_ne', iN_or, iN_xor, iN_bd, sh31n, iN_shl2, iN_shr2, iN_bit2, Nat.one_mul]
    rw [h3]
    simp (disch := omega) only [li_0, li_1, li_2, li_3, li_4, li_5, li_6, li_7, li_8, li_9, li_10, li_11, li_12, li_13, li_14, li_15, li_16, li_18, li_19, li_20, li_24, li_28, li_29, li_30, li_31, li_32, li_36, li_40, li_41, li_42, li_43, li_45, li_48, li_49, li_50, li_56, li_57, li_59, li_60, li_61, li_62, li_63, li_64, li_97, li_99, li_100, li_120, li_121, li_122, li_255, li_270, li_300, li_400, li_500, li_540, li_1000, li_1024, li_1440, li_9999, li_11264, li_32768, li_268435456, li_1073741824, li_m, li_o, iN_add, iN_mul, iN_lt, iN_in, iN_cl, iN_inj, iM_ne, iM_ne', iN_or, iN_xor, iN_bd, sh31n, iN_shl2, iN_shr2, iN_bit2, Nat.one_mul, oB, iff_t, iff_f, if_true, if_false, g_up_ne, g_up_eq, g_z_ne, g_z_eq, gb1]
  · exact absurd rfl (h2 p hp)
theorem pers_out {σ : gS} {M : gM} {P : Nat} {x : Int32} (hP : M 40 1 = iN P) (h10 : P ≤ 10) (hx : ∀ p, p < P → x ≠ iN p) : f_X12_isPerson x σ M = some (iN 0) := by
  unfold f_X12_isPerson b_X12_isPerson_0
  rw [hP]
  rcases in_casesP x (P := P) (by omega) with ⟨n, h1, h2, h3⟩ | ⟨h1, h2⟩
  · exact absurd h1 (hx n h2)
  · simp (disch := omega) only [li_0, li_1, li_2, li_3, li_4, li_5, li_6, li_7, li_8, li_9, li_10, li_11, li_12, li_13, li_14, li_15, li_16, li_18, li_19, li_20, li_24, li_28, li_29, li_30, li_31, li_32, li_36, li_40, li_41, li_42, li_43, li_45, li_48, li_49, li_50, li_56, li_57, li_59, li_60, li_61, li_62, li_63, li_64, li_97, li_99, li_100, li_120, li_121, li_122, li_255, li_270, li_300, li_400, li_500, li_540, li_1000, li_1024, li_1440, li_9999, li_11264, li_32768, li_268435456, li_1073741824, li_m, li_o, iN_add, iN_mul, iN_lt, iN_in, iN_cl, iN_inj, iM_ne, iM_ne', iN_or, iN_xor, iN_bd, sh31n, iN_shl2, iN_shr2, iN_bit2, Nat.one_mul]
    rw [h1]
    simp (disch := omega) only [li_0, li_1, li_2, li_3, li_4, li_5, li_6, li_7, li_8, li_9, li_10, li_11, li_12, li_13, li_14, li_15, li_16, li_18, li_19, li_20, li_24, li_28, li_29, li_30, li_31, li_32, li_36, li_40, li_41, li_42, li_43, li_45, li_48, li_49, li_50, li_56, li_57, li_59, li_60, li_61, li_62, li_63, li_64, li_97, li_99, li_100, li_120, li_121, li_122, li_255, li_270, li_300, li_400, li_500, li_540, li_1000, li_1024, li_1440, li_9999, li_11264, li_32768, li_268435456, li_1073741824, li_m, li_o, iN_add, iN_mul, iN_lt, iN_in, iN_cl, iN_inj, iM_ne, iM_ne', iN_or, iN_xor, iN_bd, sh31n, iN_shl2, iN_shr2, iN_bit2, Nat.one_mul, oB, iff_t, iff_f, if_true, if_false, g_up_ne, g_up_eq, g_z_ne, g_z_eq, gb0]
theorem idx_or (x : Int32) (P : Nat) (h : P < 2147483648) : (∃ p, p < P ∧ x = iN p) ∨ ∀ p, p < P → x ≠ iN p := by
  rcases in_casesP x (P := P) h with ⟨n, h1, h2, h3⟩ | ⟨h1, h2⟩
  · exact Or.inl ⟨n, h2, h1⟩
  · exact Or.inr h2
theorem town_in {σ : gS} {M : gM} {T t : Nat} (hs : lyT σ T) (hT : M 1 8 = iN T) (h6 : T ≤ 6) (ht : t < T) : f_X11_townAt (iN t) σ M = some (110 + t) := by
  unfold f_X11_townAt b_X11_townAt_0
  rw [hT, w_in]
  rcases in_casesP (iN t) (P := T) (by omega) with ⟨n, h1, h2, h3⟩ | ⟨h1, h2⟩
  · simp (disch := omega) only [li_0, li_1, li_2, li_3, li_4, li_5, li_6, li_7, li_8, li_9, li_10, li_11, li_12, li_13, li_14, li_15, li_16, li_18, li_19, li_20, li_24, li_28, li_29, li_30, li_31, li_32, li_36, li_40, li_41, li_42, li_43, li_45, li_48, li_49, li_50, li_56, li_57, li_59, li_60, li_61, li_62, li_63, li_64, li_97, li_99, li_100, li_120, li_121, li_122, li_255, li_270, li_300, li_400, li_500, li_540, li_1000, li_1024, li_1440, li_9999, li_11264, li_32768, li_268435456, li_1073741824, li_m, li_o, iN_add, iN_mul, iN_lt, iN_in, iN_cl, iN_inj, iM_ne, iM_ne', iN_or, iN_xor, iN_bd, sh31n, iN_shl2, iN_shr2, iN_bit2, Nat.one_mul]
    rw [h3]
    simp (disch := omega) only [li_0, li_1, li_2, li_3, li_4, li_5, li_6, li_7, li_8, li_9, li_10, li_11, li_12, li_13, li_14, li_15, li_16, li_18, li_19, li_20, li_24, li_28, li_29, li_30, li_31, li_32, li_36, li_40, li_41, li_42, li_43, li_45, li_48, li_49, li_50, li_56, li_57, li_59, li_60, li_61, li_62, li_63, li_64, li_97, li_99, li_100, li_120, li_121, li_122, li_255, li_270, li_300, li_400, li_500, li_540, li_1000, li_1024, li_1440, li_9999, li_11264, li_32768, li_268435456, li_1073741824, li_m, li_o, iN_add, iN_mul, iN_lt, iN_in, iN_cl, iN_inj, iM_ne, iM_ne', iN_or, iN_xor, iN_bd, sh31n, iN_shl2, iN_shr2, iN_bit2, Nat.one_mul, oB, iff_t, iff_f, if_true, if_false, g_up_ne, g_up_eq, g_z_ne, g_z_eq, (hs.1 t ht).1.1]
  · exact absurd rfl (h2 t ht)
theorem town_out {σ : gS} {M : gM} {T : Nat} {x : Int32} (hT : M 1 8 = iN T) (h6 : T ≤ 6) (hx : ∀ t, t < T → x ≠ iN t) : f_X11_townAt x σ M = some 0 := by
  unfold f_X11_townAt b_X11_townAt_0
  rw [hT, w_in]
  rcases in_casesP x (P := T) (by omega) with ⟨n, h1, h2, h3⟩ | ⟨h1, h2⟩
  · exact absurd h1 (hx n h2)
  · simp (disch := omega) only [li_0, li_1, li_2, li_3, li_4, li_5, li_6, li_7, li_8, li_9, li_10, li_11, li_12, li_13, li_14, li_15, li_16, li_18, li_19, li_20, li_24, li_28, li_29, li_30, li_31, li_32, li_36, li_40, li_41, li_42, li_43, li_45, li_48, li_49, li_50, li_56, li_57, li_59, li_60, li_61, li_62, li_63, li_64, li_97, li_99, li_100, li_120, li_121, li_122, li_255, li_270, li_300, li_400, li_500, li_540, li_1000, li_1024, li_1440, li_9999, li_11264, li_32768, li_268435456, li_1073741824, li_m, li_o, iN_add, iN_mul, iN_lt, iN_in, iN_cl, iN_inj, iM_ne, iM_ne', iN_or, iN_xor, iN_bd, sh31n, iN_shl2, iN_shr2, iN_bit2, Nat.one_mul]
    rw [h1]
    simp (disch := omega) only [li_0, li_1, li_2, li_3, li_4, li_5, li_6, li_7, li_8, li_9, li_10, li_11, li_12, li_13, li_14, li_15, li_16, li_18, li_19, li_20, li_24, li_28, li_29, li_30, li_31, li_32, li_36, li_40, li_41, li_42, li_43, li_45, li_48, li_49, li_50, li_56, li_57, li_59, li_60, li_61, li_62, li_63, li_64, li_97, li_99, li_100, li_120, li_121, li_122, li_255, li_270, li_300, li_400, li_500, li_540, li_1000, li_1024, li_1440, li_9999, li_11264, li_32768, li_268435456, li_1073741824, li_m, li_o, iN_add, iN_mul, iN_lt, iN_in, iN_cl, iN_inj, iM_ne, iM_ne', iN_or, iN_xor, iN_bd, sh31n, iN_shl2, iN_shr2, iN_bit2, Nat.one_mul, oB, iff_t, iff_f, if_true, if_false, g_up_ne, g_up_eq, g_z_ne, g_z_eq]
theorem mtown_in {σ : gS} {M : gM} {T t : Nat} (hT : M 40 11 = iN T) (h6 : T ≤ 6) (ht : t < T) : f_X12_isTown (iN t) σ M = some (iN 1) := by
  unfold f_X12_isTown b_X12_isTown_0
  rw [hT]
  rcases in_casesP (iN t) (P := T) (by omega) with ⟨n, h1, h2, h3⟩ | ⟨h1, h2⟩
  · simp (disch := omega) only [li_0, li_1, li_2, li_3, li_4, li_5, li_6, li_7, li_8, li_9, li_10, li_11, li_12, li_13, li_14, li_15, li_16, li_18, li_19, li_20, li_24, li_28, li_29, li_30, li_31, li_32, li_36, li_40, li_41, li_42, li_43, li_45, li_48, li_49, li_50, li_56, li_57, li_59, li_60, li_61, li_62, li_63, li_64, li_97, li_99, li_100, li_120, li_121, li_122, li_255, li_270, li_300, li_400, li_500, li_540, li_1000, li_1024, li_1440, li_9999, li_11264, li_32768, li_268435456, li_1073741824, li_m, li_o, iN_add, iN_mul, iN_lt, iN_in, iN_cl, iN_inj, iM_ne, iM_ne', iN_or, iN_xor, iN_bd, sh31n, iN_shl2, iN_shr2, iN_bit2, Nat.one_mul]
    rw [h3]
    simp (disch := omega) only [li_0, li_1, li_2, li_3, li_4, li_5, li_6, li_7, li_8, li_9, li_10, li_11, li_12, li_13, li_14, li_15, li_16, li_18, li_19, li_20, li_24, li_28, li_29, li_30, li_31, li_32, li_36, li_40, li_41, li_42, li_43, li_45, li_48, li_49, li_50, li_56, li_57, li_59, li_60, li_61, li_62, li_63, li_64, li_97, li_99, li_100, li_120, li_121, li_122, li_255, li_270, li_300, li_400, li_500, li_540, li_1000, li_1024, li_1440, li_9999, li_11264, li_32768, li_268435456, li_1073741824, li_m, li_o, iN_add, iN_mul, iN_lt, iN_in, iN_cl, iN_inj, iM_ne, iM_ne', iN_or, iN_xor, iN_bd, sh31n, iN_shl2, iN_shr2, iN_bit2, Nat.one_mul, oB, iff_t, iff_f, if_true, if_false, g_up_ne, g_up_eq, g_z_ne, g_z_eq, gb1]
  · exact absurd rfl (h2 t ht)
theorem mtown_out {σ : gS} {M : gM} {T : Nat} {x : Int32} (hT : M 40 11 = iN T) (h6 : T ≤ 6) (hx : ∀ t, t < T → x ≠ iN t) : f_X12_isTown x σ M = some (iN 0) := by
  unfold f_X12_isTown b_X12_isTown_0
  rw [hT]
  rcases in_casesP x (P := T) (by omega) with ⟨n, h1, h2, h3⟩ | ⟨h1, h2⟩
  · exact absurd h1 (hx n h2)
  · simp (disch := omega) only [li_0, li_1, li_2, li_3, li_4, li_5, li_6, li_7, li_8, li_9, li_10, li_11, li_12, li_13, li_14, li_15, li_16, li_18, li_19, li_20, li_24, li_28, li_29, li_30, li_31, li_32, li_36, li_40, li_41, li_42, li_43, li_45, li_48, li_49, li_50, li_56, li_57, li_59, li_60, li_61, li_62, li_63, li_64, li_97, li_99, li_100, li_120, li_121, li_122, li_255, li_270, li_300, li_400, li_500, li_540, li_1000, li_1024, li_1440, li_9999, li_11264, li_32768, li_268435456, li_1073741824, li_m, li_o, iN_add, iN_mul, iN_lt, iN_in, iN_cl, iN_inj, iM_ne, iM_ne', iN_or, iN_xor, iN_bd, sh31n, iN_shl2, iN_shr2, iN_bit2, Nat.one_mul]
    rw [h1]
    simp (disch := omega) only [li_0, li_1, li_2, li_3, li_4, li_5, li_6, li_7, li_8, li_9, li_10, li_11, li_12, li_13, li_14, li_15, li_16, li_18, li_19, li_20, li_24, li_28, li_29, li_30, li_31, li_32, li_36, li_40, li_41, li_42, li_43, li_45, li_48, li_49, li_50, li_56, li_57, li_59, li_60, li_61, li_62, li_63, li_64, li_97, li_99, li_100, li_120, li_121, li_122, li_255, li_270, li_300, li_400, li_500, li_540, li_1000, li_1024, li_1440, li_9999, li_11264, li_32768, li_268435456, li_1073741824, li_m, li_o, iN_add, iN_mul, iN_lt, iN_in, iN_cl, iN_inj, iM_ne, iM_ne', iN_or, iN_xor, iN_bd, sh31n, iN_shl2, iN_shr2, iN_bit2, Nat.one_mul, oB, iff_t, iff_f, if_true, if_false, g_up_ne, g_up_eq, g_z_ne, g_z_eq, gb0]
/-- a town is over -/
def overB (F : Nat → Nat) (C t : Nat) : Bool := decide (F (t + 1) ≤ C)
theorem over_c {σ : gS} {M : gM} {T C t : Nat} {R F : Nat → Nat} (hs : lyT σ T) (hv : vT M T C R F) (ht : t < T) : f_X11_isOver (110 + t) σ M = some (bI (overB F C t)) := by
  have hF := hv.F (t + 1) (by omega)
  obtain ⟨h0, hF0, hC, h1, h2, h3, h4, h5, h6, h7, h8, h9, h10, h11⟩ := hv
  obtain ⟨a1, a2, a3, a4, a5⟩ := h7 t ht
  obtain ⟨b1, b2, b3, b4⟩ := h8 t ht
  have hFT : F T ≤ 30 := by have := (show vT M T C R F from ⟨h0, hF0, hC, h1, h2, h3, h4, h5, h6, h7, h8, h9, h10, h11⟩).F T (Nat.le_refl _); omega
  unfold f_X11_isOver b_X11_isOver_0
  by_cases h : F (t + 1) ≤ C
  · simp (disch := omega) only [li_0, li_1, li_2, li_3, li_4, li_5, li_6, li_7, li_8, li_9, li_10, li_11, li_12, li_13, li_14, li_15, li_16, li_18, li_19, li_20, li_24, li_28, li_29, li_30, li_31, li_32, li_36, li_40, li_41, li_42, li_43, li_45, li_48, li_49, li_50, li_56, li_57, li_59, li_60, li_61, li_62, li_63, li_64, li_97, li_99, li_100, li_120, li_121, li_122, li_255, li_270, li_300, li_400, li_500, li_540, li_1000, li_1024, li_1440, li_9999, li_11264, li_32768, li_268435456, li_1073741824, li_m, li_o, iN_add, iN_mul, iN_lt, iN_in, iN_cl, iN_inj, iM_ne, iM_ne', iN_or, iN_xor, iN_bd, sh31n, iN_shl2, iN_shr2, iN_bit2, Nat.one_mul, oB, iff_t, iff_f, if_true, if_false, g_up_ne, g_up_eq, g_z_ne, g_z_eq, is_of (hs.1 t ht).1.2.1, h5, a2, a3, b1, b4, overB, decide_eq_true h, bI_t]
  · simp (disch := omega) only [li_0, li_1, li_2, li_3, li_4, li_5, li_6, li_7, li_8, li_9, li_10, li_11, li_12, li_13, li_14, li_15, li_16, li_18, li_19, li_20, li_24, li_28, li_29, li_30, li_31, li_32, li_36, li_40, li_41, li_42, li_43, li_45, li_48, li_49, li_50, li_56, li_57, li_59, li_60, li_61, li_62, li_63, li_64, li_97, li_99, li_100, li_120, li_121, li_122, li_255, li_270, li_300, li_400, li_500, li_540, li_1000, li_1024, li_1440, li_9999, li_11264, li_32768, li_268435456, li_1073741824, li_m, li_o, iN_add, iN_mul, iN_lt, iN_in, iN_cl, iN_inj, iM_ne, iM_ne', iN_or, iN_xor, iN_bd, sh31n, iN_shl2, iN_shr2, iN_bit2, Nat.one_mul, oB, iff_t, iff_f, if_true, if_false, g_up_ne, g_up_eq, g_z_ne, g_z_eq, is_of (hs.1 t ht).1.2.1, h5, a2, a3, b1, b4, overB, decide_eq_false h, bI_f]
theorem over_m {σ : gS} {M : gM} {T C t : Nat} {R F : Nat → Nat} (hv : vT M T C R F) (ht : t < T) : f_X12_isOver (iN t) σ M = some (bI (overB F C t)) := by
  have hF := hv.F (t + 1) (by omega)
  have hF2 := hv.F T (Nat.le_refl _)
  obtain ⟨h0, hF0, hC, h1, h2, h3, h4, h5, h6, h7, h8, h9, h10, h11⟩ := hv
  obtain ⟨b1, b2, b3, b4⟩ := h8 t ht
  unfold f_X12_isOver b_X12_isOver_0
  by_cases h : F (t + 1) ≤ C
  · simp (disch := omega) only [li_0, li_1, li_2, li_3, li_4, li_5, li_6, li_7, li_8, li_9, li_10, li_11, li_12, li_13, li_14, li_15, li_16, li_18, li_19, li_20, li_24, li_28, li_29, li_30, li_31, li_32, li_36, li_40, li_41, li_42, li_43, li_45, li_48, li_49, li_50, li_56, li_57, li_59, li_60, li_61, li_62, li_63, li_64, li_97, li_99, li_100, li_120, li_121, li_122, li_255, li_270, li_300, li_400, li_500, li_540, li_1000, li_1024, li_1440, li_9999, li_11264, li_32768, li_268435456, li_1073741824, li_m, li_o, iN_add, iN_mul, iN_lt, iN_in, iN_cl, iN_inj, iM_ne, iM_ne', iN_or, iN_xor, iN_bd, sh31n, iN_shl2, iN_shr2, iN_bit2, Nat.one_mul, oB, iff_t, iff_f, if_true, if_false, g_up_ne, g_up_eq, g_z_ne, g_z_eq, h6, b1, b4, overB, decide_eq_true h, bI_t]
  · simp (disch := omega) only [li_0, li_1, li_2, li_3, li_4, li_5, li_6, li_7, li_8, li_9, li_10, li_11, li_12, li_13, li_14, li_15, li_16, li_18, li_19, li_20, li_24, li_28, li_29, li_30, li_31, li_32, li_36, li_40, li_41, li_42, li_43, li_45, li_48, li_49, li_50, li_56, li_57, li_59, li_60, li_61, li_62, li_63, li_64, li_97, li_99, li_100, li_120, li_121, li_122, li_255, li_270, li_300, li_400, li_500, li_540, li_1000, li_1024, li_1440, li_9999, li_11264, li_32768, li_268435456, li_1073741824, li_m, li_o, iN_add, iN_mul, iN_lt, iN_in, iN_cl, iN_inj, iM_ne, iM_ne', iN_or, iN_xor, iN_bd, sh31n, iN_shl2, iN_shr2, iN_bit2, Nat.one_mul, oB, iff_t, iff_f, if_true, if_false, g_up_ne, g_up_eq, g_z_ne, g_z_eq, h6, b1, b4, overB, decide_eq_false h, bI_f]
/-- a town that lasts: both sides -/
theorem lasts_in {σ : gS} {M : gM} {T C t : Nat} {R F : Nat → Nat} (hs : lyT σ T) (hv : vT M T C R F) (ht : t < T) : f_X11_townThatLasts (iN t) σ M = some (if overB F C t then 0 else 110 + t) ∧ f_X12_isOpen (iN t) σ M = some (bI (!overB F C t)) := by
  have h1 := over_c hs hv ht
  have h2 := over_m (σ := σ) hv ht
  unfold f_X11_townThatLasts b_X11_townThatLasts_0 f_X12_isOpen b_X12_isOpen_0 b_X11_townThatLasts_18
  rw [town_in hs hv.2.2.2.1 hv.1 ht, mtown_in hv.2.2.2.2.1 hv.1 ht]
  simp (disch := omega) only [li_0, li_1, li_2, li_3, li_4, li_5, li_6, li_7, li_8, li_9, li_10, li_11, li_12, li_13, li_14, li_15, li_16, li_18, li_19, li_20, li_24, li_28, li_29, li_30, li_31, li_32, li_36, li_40, li_41, li_42, li_43, li_45, li_48, li_49, li_50, li_56, li_57, li_59, li_60, li_61, li_62, li_63, li_64, li_97, li_99, li_100, li_120, li_121, li_122, li_255, li_270, li_300, li_400, li_500, li_540, li_1000, li_1024, li_1440, li_9999, li_11264, li_32768, li_268435456, li_1073741824, li_m, li_o, iN_add, iN_mul, iN_lt, iN_in, iN_cl, iN_inj, iM_ne, iM_ne', iN_or, iN_xor, iN_bd, sh31n, iN_shl2, iN_shr2, iN_bit2, Nat.one_mul, oB, iff_t, iff_f, if_true, if_false, g_up_ne, g_up_eq, g_z_ne, g_z_eq, h1, h2]
  cases overB F C t
  · constructor <;> rfl
  · constructor <;> rfl
theorem lasts_out {σ : gS} {M : gM} {T C : Nat} {R F : Nat → Nat} {x : Int32} (hv : vT M T C R F) (hx : ∀ t, t < T → x ≠ iN t) : f_X11_townThatLasts x σ M = some 0 ∧ f_X12_isOpen x σ M = some (iN 0) := by
  unfold f_X11_townThatLasts b_X11_townThatLasts_0 f_X12_isOpen b_X12_isOpen_0 b_X11_townThatLasts_18
  rw [town_out hv.2.2.2.1 hv.1 hx, mtown_out hv.2.2.2.2.1 hv.1 hx]
  constructor <;> rfl
/-- rooms -/
theorem room_in {σ : gS} {M : gM} {T C t r : Nat} {R F : Nat → Nat} (hs : lyT σ T) (hr : lyR σ T R) (hv : vT M T C R F) (ht : t < T) (h : r < R t) : f_X10_roomAt (110 + t) (iN r) σ M = some (200 + 10 * t + r) ∧ f_X12_isRoom (iN t) (iN r) σ M = some (iN 1) := by
  obtain ⟨h0, hF0, hC, h1, h2, h3, h4, h5, h6, h7, h8, h9, h10, h11⟩ := hv
  have e1 := (h7 t ht).2.2.2.1
  have e2 := (h9 t (by omega)).1
  have e3 := (hr.1 t (by omega)).1
  obtain ⟨c1, c2, c3, c4, c5, c6, c7⟩ := (hs.1 t ht).1
  constructor
  · unfold f_X10_roomAt b_X10_roomAt_0
    simp (disch := omega) only [li_0, li_1, li_2, li_3, li_4, li_5, li_6, li_7, li_8, li_9, li_10, li_11, li_12, li_13, li_14, li_15, li_16, li_18, li_19, li_20, li_24, li_28, li_29, li_30, li_31, li_32, li_36, li_40, li_41, li_42, li_43, li_45, li_48, li_49, li_50, li_56, li_57, li_59, li_60, li_61, li_62, li_63, li_64, li_97, li_99, li_100, li_120, li_121, li_122, li_255, li_270, li_300, li_400, li_500, li_540, li_1000, li_1024, li_1440, li_9999, li_11264, li_32768, li_268435456, li_1073741824, li_m, li_o, iN_add, iN_mul, iN_lt, iN_in, iN_cl, iN_inj, iM_ne, iM_ne', iN_or, iN_xor, iN_bd, sh31n, iN_shl2, iN_shr2, iN_bit2, Nat.one_mul, oB, iff_t, iff_f, if_true, if_false, g_up_ne, g_up_eq, g_z_ne, g_z_eq, is_of c2, c3, is_of c6, ln_of c6, e1, e2, (hr.2.1 t r (by omega) h).2]
  · unfold f_X12_isRoom b_X12_isRoom_0
    rcases in_casesP (iN r) (P := R t) (by omega) with ⟨n, g1, g2, g3⟩ | ⟨g1, g2⟩
    · simp (disch := omega) only [li_0, li_1, li_2, li_3, li_4, li_5, li_6, li_7, li_8, li_9, li_10, li_11, li_12, li_13, li_14, li_15, li_16, li_18, li_19, li_20, li_24, li_28, li_29, li_30, li_31, li_32, li_36, li_40, li_41, li_42, li_43, li_45, li_48, li_49, li_50, li_56, li_57, li_59, li_60, li_61, li_62, li_63, li_64, li_97, li_99, li_100, li_120, li_121, li_122, li_255, li_270, li_300, li_400, li_500, li_540, li_1000, li_1024, li_1440, li_9999, li_11264, li_32768, li_268435456, li_1073741824, li_m, li_o, iN_add, iN_mul, iN_lt, iN_in, iN_cl, iN_inj, iM_ne, iM_ne', iN_or, iN_xor, iN_bd, sh31n, iN_shl2, iN_shr2, iN_bit2, Nat.one_mul, oB, iff_t, iff_f, if_true, if_false, g_up_ne, g_up_eq, g_z_ne, g_z_eq, e2, g3, gb1]
    · exact absurd rfl (g2 r h)
theorem room_out {σ : gS} {M : gM} {T C t : Nat} {R F : Nat → Nat} {x : Int32} (hs : lyT σ T) (hr : lyR σ T R) (hv : vT M T C R F) (ht : t < T) (hx : ∀ r, r < R t → x ≠ iN r) : f_X10_roomAt (110 + t) x σ M = some 0 ∧ f_X12_isRoom (iN t) x σ M = some (iN 0) := by
  obtain ⟨h0, hF0, hC, h1, h2, h3, h4, h5, h6, h7, h8, h9, h10, h11⟩ := hv
  have e1 := (h7 t ht).2.2.2.1
  have e2 := (h9 t (by omega)).1
  have e3 := (hr.1 t (by omega)).1
  obtain ⟨c1, c2, c3, c4, c5, c6, c7⟩ := (hs.1 t ht).1
  constructor
  · unfold f_X10_roomAt b_X10_roomAt_0
    rcases neg_or x with h | ⟨n, hn, rfl⟩
    · rw [if_pos h]
    · have : ¬ n < R t := fun h => hx n h rfl
      simp (disch := omega) only [li_0, li_1, li_2, li_3, li_4, li_5, li_6, li_7, li_8, li_9, li_10, li_11, li_12, li_13, li_14, li_15, li_16, li_18, li_19, li_20, li_24, li_28, li_29, li_30, li_31, li_32, li_36, li_40, li_41, li_42, li_43, li_45, li_48, li_49, li_50, li_56, li_57, li_59, li_60, li_61, li_62, li_63, li_64, li_97, li_99, li_100, li_120, li_121, li_122, li_255, li_270, li_300, li_400, li_500, li_540, li_1000, li_1024, li_1440, li_9999, li_11264, li_32768, li_268435456, li_1073741824, li_m, li_o, iN_add, iN_mul, iN_lt, iN_in, iN_cl, iN_inj, iM_ne, iM_ne', iN_or, iN_xor, iN_bd, sh31n, iN_shl2, iN_shr2, iN_bit2, Nat.one_mul, oB, iff_t, iff_f, if_true, if_false, g_up_ne, g_up_eq, g_z_ne, g_z_eq, is_of c2, e1, e2]
  · unfold f_X12_isRoom b_X12_isRoom_0
    rcases in_casesP x (P := R t) (by omega) with ⟨n, g1, g2, g3⟩ | ⟨g1, g2⟩
    · exact absurd g1 (hx n g2)
    · simp (disch := omega) only [li_0, li_1, li_2, li_3, li_4, li_5, li_6, li_7, li_8, li_9, li_10, li_11, li_12, li_13, li_14, li_15, li_16, li_18, li_19, li_20, li_24, li_28, li_29, li_30, li_31, li_32, li_36, li_40, li_41, li_42, li_43, li_45, li_48, li_49, li_50, li_56, li_57, li_59, li_60, li_61, li_62, li_63, li_64, li_97, li_99, li_100, li_120, li_121, li_122, li_255, li_270, li_300, li_400, li_500, li_540, li_1000, li_1024, li_1440, li_9999, li_11264, li_32768, li_268435456, li_1073741824, li_m, li_o, iN_add, iN_mul, iN_lt, iN_in, iN_cl, iN_inj, iM_ne, iM_ne', iN_or, iN_xor, iN_bd, sh31n, iN_shl2, iN_shr2, iN_bit2, Nat.one_mul, oB, iff_t, iff_f, if_true, if_false, g_up_ne, g_up_eq, g_z_ne, g_z_eq, e2, g1, gb0]
/-- the room of a guest -/
theorem guest_c {σ : gS} {M : gM} {T t p : Nat} (hs : lyT σ T) (ht : t < T) (h1 : vT1 M t) (hp : p < 10) : f_X10_roomOfGuest (110 + t) (iN p) σ M = some (M 57 (10 * t + p)) := by
  obtain ⟨c1, c2, c3, c4, c5, c6, c7⟩ := (hs.1 t ht).1
  unfold f_X10_roomOfGuest b_X10_roomOfGuest_0
  simp (disch := omega) only [li_0, li_1, li_2, li_3, li_4, li_5, li_6, li_7, li_8, li_9, li_10, li_11, li_12, li_13, li_14, li_15, li_16, li_18, li_19, li_20, li_24, li_28, li_29, li_30, li_31, li_32, li_36, li_40, li_41, li_42, li_43, li_45, li_48, li_49, li_50, li_56, li_57, li_59, li_60, li_61, li_62, li_63, li_64, li_97, li_99, li_100, li_120, li_121, li_122, li_255, li_270, li_300, li_400, li_500, li_540, li_1000, li_1024, li_1440, li_9999, li_11264, li_32768, li_268435456, li_1073741824, li_m, li_o, iN_add, iN_mul, iN_lt, iN_in, iN_cl, iN_inj, iM_ne, iM_ne', iN_or, iN_xor, iN_bd, sh31n, iN_shl2, iN_shr2, iN_bit2, Nat.one_mul, oB, iff_t, iff_f, if_true, if_false, g_up_ne, g_up_eq, g_z_ne, g_z_eq, is_of c2, c4, is_of c7, ln_of c7, h1.2.2.2.2 p hp]
/-- who is there -/
def thereB (M : gM) (p t : Nat) : Bool := decide (M 47 p = iN 0) && decide (¬ iN t < M 45 p) && decide (¬ M 46 p < iN t)
theorem there_c {σ : gS} {M : gM} {P p t : Nat} (hs : lyP σ P) (hp : p < P) (h1 : vP1 M p) : f_X6_isThereIn (100 + p) (iN t) σ M = some (bI (thereB M p t)) := by
  obtain ⟨e0, e1, e2, e3, e4, e5, e6, e7, e8⟩ := h1
  unfold f_X6_isThereIn b_X6_isThereIn_0 thereB
  simp (disch := omega) only [li_0, li_1, li_2, li_3, li_4, li_5, li_6, li_7, li_8, li_9, li_10, li_11, li_12, li_13, li_14, li_15, li_16, li_18, li_19, li_20, li_24, li_28, li_29, li_30, li_31, li_32, li_36, li_40, li_41, li_42, li_43, li_45, li_48, li_49, li_50, li_56, li_57, li_59, li_60, li_61, li_62, li_63, li_64, li_97, li_99, li_100, li_120, li_121, li_122, li_255, li_270, li_300, li_400, li_500, li_540, li_1000, li_1024, li_1440, li_9999, li_11264, li_32768, li_268435456, li_1073741824, li_m, li_o, iN_add, iN_mul, iN_lt, iN_in, iN_cl, iN_inj, iM_ne, iM_ne', iN_or, iN_xor, iN_bd, sh31n, iN_shl2, iN_shr2, iN_bit2, Nat.one_mul, oB, iff_t, iff_f, if_true, if_false, g_up_ne, g_up_eq, g_z_ne, g_z_eq, is_of (hs.1 p hp).1, e4, e5, e6]
  split
  · split
    · simp [*, bI]
    · split
      · simp [*, bI]
      · simp [*, bI]
  · simp [*, bI]
theorem there_m {σ : gS} {M : gM} {p t : Nat} (hp : p < 10) : f_X12_isThere (iN p) (iN t) σ M = some (bI (thereB M p t)) := by
  unfold f_X12_isThere b_X12_isThere_0 thereB
  simp (disch := omega) only [li_0, li_1, li_2, li_3, li_4, li_5, li_6, li_7, li_8, li_9, li_10, li_11, li_12, li_13, li_14, li_15, li_16, li_18, li_19, li_20, li_24, li_28, li_29, li_30, li_31, li_32, li_36, li_40, li_41, li_42, li_43, li_45, li_48, li_49, li_50, li_56, li_57, li_59, li_60, li_61, li_62, li_63, li_64, li_97, li_99, li_100, li_120, li_121, li_122, li_255, li_270, li_300, li_400, li_500, li_540, li_1000, li_1024, li_1440, li_9999, li_11264, li_32768, li_268435456, li_1073741824, li_m, li_o, iN_add, iN_mul, iN_lt, iN_in, iN_cl, iN_inj, iM_ne, iM_ne', iN_or, iN_xor, iN_bd, sh31n, iN_shl2, iN_shr2, iN_bit2, Nat.one_mul, oB, iff_t, iff_f, if_true, if_false, g_up_ne, g_up_eq, g_z_ne, g_z_eq]
  split
  · split
    · simp [*, bI]
    · split
      · simp [*, bI]
      · simp [*, bI]
  · simp [*, bI]
