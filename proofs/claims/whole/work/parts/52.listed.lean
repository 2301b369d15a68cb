/-! listed. -/
theorem mask_7 (a : Nat) : iN a &&& iN 7 = iN (a % 8) := by rw [iN_and, show (7 : Nat) = 2 ^ 3 - 1 from rfl, Nat.and_two_pow_sub_one_eq_mod]
theorem mask_15 (a : Nat) : iN a &&& iN 15 = iN (a % 16) := by rw [iN_and, show (15 : Nat) = 2 ^ 4 - 1 from rfl, Nat.and_two_pow_sub_one_eq_mod]
theorem sub_1 (x : Int32) : x + iM = x - iN 1 := by rw [← li_m]; exact (Int32.sub_eq_add_neg x (iN 1)).symm
/-- the last room of a person in a town, by a day, of so many notes -/
def lastN (M : gM) (t p d : Nat) : Nat → Int32
  | 0 => iM
  | k + 1 => if M 59 k = iN (10 * t + p) ∧ ¬ iN d < M 58 k then M 60 k else lastN M t p d k
theorem l_lastM {σ : gS} {M : gM} {s t p d : Nat} (hs : s ≤ 500) (hS : M 40 26 = iN s) (ht : t < 6) (hp : p < 10) : ∀ k i n, i + k = s → k < n → l_X12_listed_36 n (iN t) (iN p) (iN d) (lastN M t p d i) (iN i) σ M = some (lastN M t p d s) := by
  refine up_ind (fun n => ?_) (fun i n hi ih => ?_)
  · rw [l_X12_listed_36]
    simp (disch := omega) only [li_0, li_1, li_2, li_3, li_4, li_5, li_6, li_7, li_8, li_9, li_10, li_11, li_12, li_13, li_14, li_15, li_16, li_18, li_19, li_20, li_24, li_28, li_29, li_30, li_31, li_32, li_36, li_40, li_41, li_42, li_43, li_45, li_48, li_49, li_50, li_56, li_57, li_59, li_60, li_61, li_62, li_63, li_64, li_97, li_99, li_100, li_120, li_121, li_122, li_255, li_270, li_300, li_400, li_500, li_540, li_1000, li_1024, li_1440, li_9999, li_11264, li_32768, li_268435456, li_1073741824, li_m, li_o, iN_add, iN_mul, iN_lt, iN_in, iN_cl, iN_inj, iM_ne, iM_ne', iN_or, iN_xor, iN_bd, sh31n, iN_shl2, iN_shr2, iN_bit2, Nat.one_mul, oB, iff_t, iff_f, if_true, if_false, g_up_ne, g_up_eq, g_z_ne, g_z_eq, hS]
  · rw [l_X12_listed_36]
    unfold b_X12_listed_81
    simp (disch := omega) only [li_0, li_1, li_2, li_3, li_4, li_5, li_6, li_7, li_8, li_9, li_10, li_11, li_12, li_13, li_14, li_15, li_16, li_18, li_19, li_20, li_24, li_28, li_29, li_30, li_31, li_32, li_36, li_40, li_41, li_42, li_43, li_45, li_48, li_49, li_50, li_56, li_57, li_59, li_60, li_61, li_62, li_63, li_64, li_97, li_99, li_100, li_120, li_121, li_122, li_255, li_270, li_300, li_400, li_500, li_540, li_1000, li_1024, li_1440, li_9999, li_11264, li_32768, li_268435456, li_1073741824, li_m, li_o, iN_add, iN_mul, iN_lt, iN_in, iN_cl, iN_inj, iM_ne, iM_ne', iN_or, iN_xor, iN_bd, sh31n, iN_shl2, iN_shr2, iN_bit2, Nat.one_mul, oB, iff_t, iff_f, if_true, if_false, g_up_ne, g_up_eq, g_z_ne, g_z_eq, hS]
    rw [lastN] at ih
    by_cases h1 : M 59 i = iN (10 * t + p)
    · by_cases h2 : iN d < M 58 i
      · rw [if_neg (fun h => h.2 h2)] at ih
        simp only [h1, h2, if_true]
        exact ih
      · rw [if_pos ⟨h1, h2⟩] at ih
        simp only [h1, h2, if_true, if_false]
        exact ih
    · rw [if_neg (fun h => h1 h.1)] at ih
      simp only [h1, if_false]
      exact ih
theorem l_lastC {σ : gS} {M : gM} {s t p d : Nat} (hs : s ≤ 500) (hn : ∀ k, k < s → vN1 M k) (ht : t < 6) (hp : p < 10) (hd : d ≤ 1000) : ∀ k n, k ≤ s → k < n → l_X4_latest_8 n (iN t) (iN p) (iN d) (iN k - iN 1) σ M = some (lastN M t p d k) := by
  intro k
  induction k with
  | zero =>
    intro n _ hn
    obtain ⟨n, rfl⟩ : ∃ m, n = m + 1 := ⟨n - 1, by omega⟩
    rw [l_X4_latest_8, iN_0_1, if_pos (by decide)]
    rfl
  | succ k ih =>
    intro n hk hn2
    obtain ⟨n, rfl⟩ : ∃ m, n = m + 1 := ⟨n - 1, by omega⟩
    have ih := ih n (by omega) (by omega)
    obtain ⟨d', t', p', r', q1, q2, q3, q4, q5, q6, q7, q8⟩ := hn k (by omega)
    have e1 : (2048 * d' + 256 * t' + 16 * p' + r') / 2 ^ 8 % 8 = t' := by omega
    have e2 : (2048 * d' + 256 * t' + 16 * p' + r') / 2 ^ 4 % 16 = p' := by omega
    have e3 : (2048 * d' + 256 * t' + 16 * p' + r') / 2 ^ 11 = d' := by omega
    have e4 : (2048 * d' + 256 * t' + 16 * p' + r') % 16 = r' := by omega
    rw [l_X4_latest_8, iN_sub (by omega), Nat.add_sub_cancel, lastN]
    unfold b_X4_latest_49 b_X4_latest_50 b_X4_latest_74
    simp (disch := omega) only [li_0, li_1, li_2, li_3, li_4, li_5, li_6, li_7, li_8, li_9, li_10, li_11, li_12, li_13, li_14, li_15, li_16, li_18, li_19, li_20, li_24, li_28, li_29, li_30, li_31, li_32, li_36, li_40, li_41, li_42, li_43, li_45, li_48, li_49, li_50, li_56, li_57, li_59, li_60, li_61, li_62, li_63, li_64, li_97, li_99, li_100, li_120, li_121, li_122, li_255, li_270, li_300, li_400, li_500, li_540, li_1000, li_1024, li_1440, li_9999, li_11264, li_32768, li_268435456, li_1073741824, li_m, li_o, iN_add, iN_mul, iN_lt, iN_in, iN_cl, iN_inj, iM_ne, iM_ne', iN_or, iN_xor, iN_bd, sh31n, iN_shl2, iN_shr2, iN_bit2, Nat.one_mul, oB, iff_t, iff_f, if_true, if_false, g_up_ne, g_up_eq, g_z_ne, g_z_eq, q5, mask_7, mask_15, e1, e2, e3, e4, q6, q7, q8]
    by_cases h1 : t' = t
    · by_cases h2 : p' = p
      · subst h1 h2
        by_cases h3 : d < d'
        · simp only [h3, if_true, not_true, and_false, if_false]
          rw [sub_1]
          exact ih
        · simp only [h3, if_true, not_false_eq_true, and_self, if_false]
      · have h4 : ¬ (10 * t' + p' = 10 * t + p ∧ ¬ d < d') := by omega
        simp only [h1, h2, h4, if_true, if_false]
        rw [sub_1]
        have h5 : ¬ (10 * t + p' = 10 * t + p ∧ ¬ d < d') := by omega
        rw [if_neg h5]
        exact ih
    · have h4 : ¬ (10 * t' + p' = 10 * t + p ∧ ¬ d < d') := by omega
      simp only [h1, h4, if_false]
      rw [sub_1]
      exact ih
theorem call_listed {σ : gS} {M : gM} (h : Inv σ M) (x y z : Int32) : ∃ r, f_X11_listed x y z σ M = some r ∧ f_X12_listed x y z σ M = some r := by
  obtain ⟨P, T, C, R, F, hL, hP, hT, hD, hN, hB, hK, hC, hX⟩ := h
  have hT6 := hT.1
  have hP10 := hP.1
  unfold f_X11_listed b_X11_listed_0 f_X12_listed b_X12_listed_0
  rcases idx_or x T (by omega) with ⟨t, ht, rfl⟩ | hx
  · rw [town_in hL.2.2.1 hT.2.2.2.1 hT6 ht, mtown_in hT.2.2.2.2.1 hT6 ht, oB, oB, if_neg (by omega), if_neg n10']
    rcases idx_or y P (by omega) with ⟨p, hp, rfl⟩ | hy
    · obtain ⟨⟨d, hd, d1, d2⟩, _⟩ := hD
      obtain ⟨s, hs, s1, s2, s3⟩ := hN
      rw [at_in hL.2.1 hP.2.1 hP10 hp, pers_in hP.2.2.1 hP10 hp, oB, oB, if_neg (by omega), if_neg n10', w_in, d1, d2, show (0 : Int32) = iN 0 from rfl]
      rcases in_cases z (a := 0) (b := d) (by omega) (by omega) with ⟨w, rfl, _, hw, e⟩ | ⟨e, _⟩
      · have k1 : f_X4_latest (iN t) (iN p) (iN w) σ M = some (lastN M t p w s) := by
          unfold f_X4_latest b_X4_latest_0
          rw [s1]
          exact l_lastC hs s3 (by omega) (by omega) (by omega) s g_FU (Nat.le_refl _) (by unfold g_FU; omega)
        have k2 := l_lastM (σ := σ) (d := w) hs s2 (show t < 6 by omega) (show p < 10 by omega) s 0 g_FU (by omega) (by unfold g_FU; omega)
        rw [e, oB, oB, if_neg n10, if_neg n10, k1]
        exact ⟨_, rfl, k2⟩
      · rw [e]
        exact ⟨_, rfl, rfl⟩
    · rw [at_out hP.2.1 hP10 hy, pers_out hP.2.2.1 hP10 hy]
      exact ⟨_, rfl, rfl⟩
  · rw [town_out hT.2.2.2.1 hT6 hx, mtown_out hT.2.2.2.2.1 hT6 hx]
    exact ⟨_, rfl, rfl⟩
