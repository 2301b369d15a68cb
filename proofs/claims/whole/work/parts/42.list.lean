/-! absent; who is in which room; notes. -/
theorem in_casesK (x : Int32) {a K : Nat} (hK : K < 2147483648) (ha : a ≤ K) : (∃ n, x = iN n ∧ a ≤ n ∧ n < K ∧ f_X12_in x (iN a) (iN K - iN 1) = some (iN 1)) ∨ f_X12_in x (iN a) (iN K - iN 1) = some (iN 0) := by
  by_cases h0 : K = 0
  · subst h0
    obtain rfl : a = 0 := by omega
    rcases in_casesP x (P := 0) (by omega) with ⟨n, _, h, _⟩ | ⟨e, _⟩
    · omega
    · exact Or.inr e
  · rw [iN_pre (by omega)]
    rcases in_cases x (a := a) (b := K - 1) (by omega) (by omega) with ⟨n, h1, h2, h3, h4⟩ | ⟨h1, h2⟩
    · exact Or.inl ⟨n, h1, h2, by omega, h4⟩
    · exact Or.inr h1
theorem call_absent {σ : gS} {M : gM} (h : Inv σ M) (x y : Int32) (is : Bool) : ∃ r M1 M2, f_X11_absent x y (bI is) σ M = some (r, M1) ∧ f_X12_absent x y (bI is) σ M1 = some (r, M2) ∧ Inv σ M2 := by
  have h0 := h
  obtain ⟨P, T, C, R, F, hL, hP, hT, hD, hN, hB, hK, hC, hX⟩ := h
  have hP' := hP
  obtain ⟨hP10, p1, p2, g3, g4, g5, g6, g7, g8⟩ := hP'
  have hFT := hT.F T (Nat.le_refl _)
  have hT6 := hT.1
  have hCF := hT.2.2.1
  have t3 := hT.2.2.2.2.2.1
  have t4 := hT.2.2.2.2.2.2.1
  have c1 := hT.2.2.2.2.2.2.2.1
  have c2 := hT.2.2.2.2.2.2.2.2.1
  rcases idx_or x P (by omega) with ⟨a, ha, rfl⟩ | hx
  · have ea := at_in hL.2.1 p1 hP10 ha
    have ia := is_of (hL.2.1.1 a ha).1
    have ma := pers_in (σ := σ) p2 hP10 ha
    unfold f_X11_absent b_X11_absent_0 b_X11_absent_69
    rw [ea]
    rcases in_casesK y (a := C) (K := F T) (by omega) hCF with ⟨n, rfl, hn1, hn2, e⟩ | e
    · obtain ⟨z1, ⟨b, lb, eb, nb⟩⟩ := g5 a ha
      obtain ⟨v, hv, hb, lv⟩ : ∃ v : Nat, (if is then iN b ||| iN (2 ^ n) else iN b &&& (iN (2 ^ n) ^^^ iM)) = iN v ∧ (∀ q, v.testBit q = if q = n then is else b.testBit q) ∧ v < 1073741824 := by
        cases is with
        | true =>
          refine ⟨b ||| 2 ^ n, iN_or _ _, fun q => ?_, Nat.or_lt_two_pow (n := 30) lb (by have : 2 ^ n < 2 ^ 30 := Nat.pow_lt_pow_right (by omega) (by omega); exact this)⟩
          rw [or_bit]
          by_cases hq : q = n
          · subst hq; simp
          · rw [decide_eq_false (fun e => hq e.symm), if_neg hq, Bool.or_false]
        | false =>
          refine ⟨bd b (2 ^ n), iN_bd, fun q => ?_, by have := bd_le b (2 ^ n); omega⟩
          rw [bd2_bit]
          by_cases hq : q = n
          · subst hq; simp
          · rw [decide_eq_false (fun e => hq e.symm), if_neg hq, Bool.not_false, Bool.and_true]
      refine ⟨iN 1, (g_up M (100 + a) 9 (iN v)), (g_up (g_up M (100 + a) 9 (iN v)) 61 (10 * n + a) (bI is)), ?_, ?_, ⟨P, T, C, R, F, hL, ?_, hT.keep (fun a j h => by simp (disch := omega) only [g_up_ne]) (fun t ht => (hL.2.2.2.1.1 t ht).1), hD.keep (fun a j h => by simp (disch := omega) only [g_up_ne]), hN.keep (fun a j h => by simp (disch := omega) only [g_up_ne]), hB.keep (fun a j h => by simp (disch := omega) only [g_up_ne]), hK.keep (fun a j h => by simp (disch := omega) only [g_up_ne]), hC.keep (fun a j h => by simp (disch := omega) only [g_up_ne]), hX.keep hL.2.2.2.2.1 hT.1 (fun a j h => by simp (disch := omega) only [g_up_ne])⟩⟩
      · rw [← hv]
        cases is
        · simp (disch := omega) only [li_0, li_1, li_2, li_3, li_4, li_5, li_6, li_7, li_8, li_9, li_10, li_11, li_12, li_13, li_14, li_15, li_16, li_18, li_19, li_20, li_24, li_28, li_29, li_30, li_31, li_32, li_36, li_40, li_41, li_42, li_43, li_45, li_48, li_49, li_50, li_56, li_57, li_59, li_60, li_61, li_62, li_63, li_64, li_97, li_99, li_100, li_120, li_121, li_122, li_255, li_270, li_300, li_400, li_500, li_540, li_1000, li_1024, li_1440, li_9999, li_11264, li_32768, li_268435456, li_1073741824, li_m, li_o, iN_add, iN_mul, iN_lt, iN_in, iN_cl, iN_inj, iM_ne, iM_ne', iN_or, iN_xor, iN_bd, sh31n, iN_shl2, iN_shr2, iN_bit2, Nat.one_mul, oB, iff_t, iff_f, if_true, if_false, g_up_ne, g_up_eq, g_z_ne, g_z_eq, w_in, e, c1, t3, ia, eb, bI_f]
          rfl
        · simp (disch := omega) only [li_0, li_1, li_2, li_3, li_4, li_5, li_6, li_7, li_8, li_9, li_10, li_11, li_12, li_13, li_14, li_15, li_16, li_18, li_19, li_20, li_24, li_28, li_29, li_30, li_31, li_32, li_36, li_40, li_41, li_42, li_43, li_45, li_48, li_49, li_50, li_56, li_57, li_59, li_60, li_61, li_62, li_63, li_64, li_97, li_99, li_100, li_120, li_121, li_122, li_255, li_270, li_300, li_400, li_500, li_540, li_1000, li_1024, li_1440, li_9999, li_11264, li_32768, li_268435456, li_1073741824, li_m, li_o, iN_add, iN_mul, iN_lt, iN_in, iN_cl, iN_inj, iM_ne, iM_ne', iN_or, iN_xor, iN_bd, sh31n, iN_shl2, iN_shr2, iN_bit2, Nat.one_mul, oB, iff_t, iff_f, if_true, if_false, g_up_ne, g_up_eq, g_z_ne, g_z_eq, w_in, e, c1, t3, ia, eb, bI_t]
      · unfold f_X12_absent b_X12_absent_0
        rw [pers_in (P := P) (by simp (disch := omega) only [li_0, li_1, li_2, li_3, li_4, li_5, li_6, li_7, li_8, li_9, li_10, li_11, li_12, li_13, li_14, li_15, li_16, li_18, li_19, li_20, li_24, li_28, li_29, li_30, li_31, li_32, li_36, li_40, li_41, li_42, li_43, li_45, li_48, li_49, li_50, li_56, li_57, li_59, li_60, li_61, li_62, li_63, li_64, li_97, li_99, li_100, li_120, li_121, li_122, li_255, li_270, li_300, li_400, li_500, li_540, li_1000, li_1024, li_1440, li_9999, li_11264, li_32768, li_268435456, li_1073741824, li_m, li_o, iN_add, iN_mul, iN_lt, iN_in, iN_cl, iN_inj, iM_ne, iM_ne', iN_or, iN_xor, iN_bd, sh31n, iN_shl2, iN_shr2, iN_bit2, Nat.one_mul, oB, iff_t, iff_f, if_true, if_false, g_up_ne, g_up_eq, g_z_ne, g_z_eq, p2]) hP10 ha]
        simp (disch := omega) only [li_0, li_1, li_2, li_3, li_4, li_5, li_6, li_7, li_8, li_9, li_10, li_11, li_12, li_13, li_14, li_15, li_16, li_18, li_19, li_20, li_24, li_28, li_29, li_30, li_31, li_32, li_36, li_40, li_41, li_42, li_43, li_45, li_48, li_49, li_50, li_56, li_57, li_59, li_60, li_61, li_62, li_63, li_64, li_97, li_99, li_100, li_120, li_121, li_122, li_255, li_270, li_300, li_400, li_500, li_540, li_1000, li_1024, li_1440, li_9999, li_11264, li_32768, li_268435456, li_1073741824, li_m, li_o, iN_add, iN_mul, iN_lt, iN_in, iN_cl, iN_inj, iM_ne, iM_ne', iN_or, iN_xor, iN_bd, sh31n, iN_shl2, iN_shr2, iN_bit2, Nat.one_mul, oB, iff_t, iff_f, if_true, if_false, g_up_ne, g_up_eq, g_z_ne, g_z_eq, e, c2, t4, nar_bI]
      · refine ⟨hP10, by simp (disch := omega) only [li_0, li_1, li_2, li_3, li_4, li_5, li_6, li_7, li_8, li_9, li_10, li_11, li_12, li_13, li_14, li_15, li_16, li_18, li_19, li_20, li_24, li_28, li_29, li_30, li_31, li_32, li_36, li_40, li_41, li_42, li_43, li_45, li_48, li_49, li_50, li_56, li_57, li_59, li_60, li_61, li_62, li_63, li_64, li_97, li_99, li_100, li_120, li_121, li_122, li_255, li_270, li_300, li_400, li_500, li_540, li_1000, li_1024, li_1440, li_9999, li_11264, li_32768, li_268435456, li_1073741824, li_m, li_o, iN_add, iN_mul, iN_lt, iN_in, iN_cl, iN_inj, iM_ne, iM_ne', iN_or, iN_xor, iN_bd, sh31n, iN_shl2, iN_shr2, iN_bit2, Nat.one_mul, oB, iff_t, iff_f, if_true, if_false, g_up_ne, g_up_eq, g_z_ne, g_z_eq, p1], by simp (disch := omega) only [li_0, li_1, li_2, li_3, li_4, li_5, li_6, li_7, li_8, li_9, li_10, li_11, li_12, li_13, li_14, li_15, li_16, li_18, li_19, li_20, li_24, li_28, li_29, li_30, li_31, li_32, li_36, li_40, li_41, li_42, li_43, li_45, li_48, li_49, li_50, li_56, li_57, li_59, li_60, li_61, li_62, li_63, li_64, li_97, li_99, li_100, li_120, li_121, li_122, li_255, li_270, li_300, li_400, li_500, li_540, li_1000, li_1024, li_1440, li_9999, li_11264, li_32768, li_268435456, li_1073741824, li_m, li_o, iN_add, iN_mul, iN_lt, iN_in, iN_cl, iN_inj, iM_ne, iM_ne', iN_or, iN_xor, iN_bd, sh31n, iN_shl2, iN_shr2, iN_bit2, Nat.one_mul, oB, iff_t, iff_f, if_true, if_false, g_up_ne, g_up_eq, g_z_ne, g_z_eq, p2], fun p hp => ?_, fun p hp => ?_, fun p hp => ?_, fun p hp => ?_, fun p hp hq => ?_, fun q r hq hr => ?_⟩
        · have := g3 p hp
          unfold vP1 at *
          simp (disch := omega) only [li_0, li_1, li_2, li_3, li_4, li_5, li_6, li_7, li_8, li_9, li_10, li_11, li_12, li_13, li_14, li_15, li_16, li_18, li_19, li_20, li_24, li_28, li_29, li_30, li_31, li_32, li_36, li_40, li_41, li_42, li_43, li_45, li_48, li_49, li_50, li_56, li_57, li_59, li_60, li_61, li_62, li_63, li_64, li_97, li_99, li_100, li_120, li_121, li_122, li_255, li_270, li_300, li_400, li_500, li_540, li_1000, li_1024, li_1440, li_9999, li_11264, li_32768, li_268435456, li_1073741824, li_m, li_o, iN_add, iN_mul, iN_lt, iN_in, iN_cl, iN_inj, iM_ne, iM_ne', iN_or, iN_xor, iN_bd, sh31n, iN_shl2, iN_shr2, iN_bit2, Nat.one_mul, oB, iff_t, iff_f, if_true, if_false, g_up_ne, g_up_eq, g_z_ne, g_z_eq]
          exact this
        · have := g4 p hp
          unfold vP2 at *
          simp (disch := omega) only [li_0, li_1, li_2, li_3, li_4, li_5, li_6, li_7, li_8, li_9, li_10, li_11, li_12, li_13, li_14, li_15, li_16, li_18, li_19, li_20, li_24, li_28, li_29, li_30, li_31, li_32, li_36, li_40, li_41, li_42, li_43, li_45, li_48, li_49, li_50, li_56, li_57, li_59, li_60, li_61, li_62, li_63, li_64, li_97, li_99, li_100, li_120, li_121, li_122, li_255, li_270, li_300, li_400, li_500, li_540, li_1000, li_1024, li_1440, li_9999, li_11264, li_32768, li_268435456, li_1073741824, li_m, li_o, iN_add, iN_mul, iN_lt, iN_in, iN_cl, iN_inj, iM_ne, iM_ne', iN_or, iN_xor, iN_bd, sh31n, iN_shl2, iN_shr2, iN_bit2, Nat.one_mul, oB, iff_t, iff_f, if_true, if_false, g_up_ne, g_up_eq, g_z_ne, g_z_eq]
          exact this
        · obtain ⟨w, ⟨d, l1, l2, l3⟩⟩ := g5 p hp
          refine ⟨?_, ?_⟩
          · simp (disch := omega) only [li_0, li_1, li_2, li_3, li_4, li_5, li_6, li_7, li_8, li_9, li_10, li_11, li_12, li_13, li_14, li_15, li_16, li_18, li_19, li_20, li_24, li_28, li_29, li_30, li_31, li_32, li_36, li_40, li_41, li_42, li_43, li_45, li_48, li_49, li_50, li_56, li_57, li_59, li_60, li_61, li_62, li_63, li_64, li_97, li_99, li_100, li_120, li_121, li_122, li_255, li_270, li_300, li_400, li_500, li_540, li_1000, li_1024, li_1440, li_9999, li_11264, li_32768, li_268435456, li_1073741824, li_m, li_o, iN_add, iN_mul, iN_lt, iN_in, iN_cl, iN_inj, iM_ne, iM_ne', iN_or, iN_xor, iN_bd, sh31n, iN_shl2, iN_shr2, iN_bit2, Nat.one_mul, oB, iff_t, iff_f, if_true, if_false, g_up_ne, g_up_eq, g_z_ne, g_z_eq]
            exact w
          · by_cases hpa : p = a
            · subst hpa
              refine ⟨v, lv, by simp (disch := omega) only [li_0, li_1, li_2, li_3, li_4, li_5, li_6, li_7, li_8, li_9, li_10, li_11, li_12, li_13, li_14, li_15, li_16, li_18, li_19, li_20, li_24, li_28, li_29, li_30, li_31, li_32, li_36, li_40, li_41, li_42, li_43, li_45, li_48, li_49, li_50, li_56, li_57, li_59, li_60, li_61, li_62, li_63, li_64, li_97, li_99, li_100, li_120, li_121, li_122, li_255, li_270, li_300, li_400, li_500, li_540, li_1000, li_1024, li_1440, li_9999, li_11264, li_32768, li_268435456, li_1073741824, li_m, li_o, iN_add, iN_mul, iN_lt, iN_in, iN_cl, iN_inj, iM_ne, iM_ne', iN_or, iN_xor, iN_bd, sh31n, iN_shl2, iN_shr2, iN_bit2, Nat.one_mul, oB, iff_t, iff_f, if_true, if_false, g_up_ne, g_up_eq, g_z_ne, g_z_eq], fun q hq => ?_⟩
              rw [hb q]
              by_cases hqn : q = n
              · subst hqn
                rw [if_pos rfl]
                simp (disch := omega) only [li_0, li_1, li_2, li_3, li_4, li_5, li_6, li_7, li_8, li_9, li_10, li_11, li_12, li_13, li_14, li_15, li_16, li_18, li_19, li_20, li_24, li_28, li_29, li_30, li_31, li_32, li_36, li_40, li_41, li_42, li_43, li_45, li_48, li_49, li_50, li_56, li_57, li_59, li_60, li_61, li_62, li_63, li_64, li_97, li_99, li_100, li_120, li_121, li_122, li_255, li_270, li_300, li_400, li_500, li_540, li_1000, li_1024, li_1440, li_9999, li_11264, li_32768, li_268435456, li_1073741824, li_m, li_o, iN_add, iN_mul, iN_lt, iN_in, iN_cl, iN_inj, iM_ne, iM_ne', iN_or, iN_xor, iN_bd, sh31n, iN_shl2, iN_shr2, iN_bit2, Nat.one_mul, oB, iff_t, iff_f, if_true, if_false, g_up_ne, g_up_eq, g_z_ne, g_z_eq]
              · rw [if_neg hqn]
                simp (disch := omega) only [li_0, li_1, li_2, li_3, li_4, li_5, li_6, li_7, li_8, li_9, li_10, li_11, li_12, li_13, li_14, li_15, li_16, li_18, li_19, li_20, li_24, li_28, li_29, li_30, li_31, li_32, li_36, li_40, li_41, li_42, li_43, li_45, li_48, li_49, li_50, li_56, li_57, li_59, li_60, li_61, li_62, li_63, li_64, li_97, li_99, li_100, li_120, li_121, li_122, li_255, li_270, li_300, li_400, li_500, li_540, li_1000, li_1024, li_1440, li_9999, li_11264, li_32768, li_268435456, li_1073741824, li_m, li_o, iN_add, iN_mul, iN_lt, iN_in, iN_cl, iN_inj, iM_ne, iM_ne', iN_or, iN_xor, iN_bd, sh31n, iN_shl2, iN_shr2, iN_bit2, Nat.one_mul, oB, iff_t, iff_f, if_true, if_false, g_up_ne, g_up_eq, g_z_ne, g_z_eq, nb q hq]
            · refine ⟨d, l1, by simp (disch := omega) only [li_0, li_1, li_2, li_3, li_4, li_5, li_6, li_7, li_8, li_9, li_10, li_11, li_12, li_13, li_14, li_15, li_16, li_18, li_19, li_20, li_24, li_28, li_29, li_30, li_31, li_32, li_36, li_40, li_41, li_42, li_43, li_45, li_48, li_49, li_50, li_56, li_57, li_59, li_60, li_61, li_62, li_63, li_64, li_97, li_99, li_100, li_120, li_121, li_122, li_255, li_270, li_300, li_400, li_500, li_540, li_1000, li_1024, li_1440, li_9999, li_11264, li_32768, li_268435456, li_1073741824, li_m, li_o, iN_add, iN_mul, iN_lt, iN_in, iN_cl, iN_inj, iM_ne, iM_ne', iN_or, iN_xor, iN_bd, sh31n, iN_shl2, iN_shr2, iN_bit2, Nat.one_mul, oB, iff_t, iff_f, if_true, if_false, g_up_ne, g_up_eq, g_z_ne, g_z_eq, l2], fun q hq => ?_⟩
              simp (disch := omega) only [li_0, li_1, li_2, li_3, li_4, li_5, li_6, li_7, li_8, li_9, li_10, li_11, li_12, li_13, li_14, li_15, li_16, li_18, li_19, li_20, li_24, li_28, li_29, li_30, li_31, li_32, li_36, li_40, li_41, li_42, li_43, li_45, li_48, li_49, li_50, li_56, li_57, li_59, li_60, li_61, li_62, li_63, li_64, li_97, li_99, li_100, li_120, li_121, li_122, li_255, li_270, li_300, li_400, li_500, li_540, li_1000, li_1024, li_1440, li_9999, li_11264, li_32768, li_268435456, li_1073741824, li_m, li_o, iN_add, iN_mul, iN_lt, iN_in, iN_cl, iN_inj, iM_ne, iM_ne', iN_or, iN_xor, iN_bd, sh31n, iN_shl2, iN_shr2, iN_bit2, Nat.one_mul, oB, iff_t, iff_f, if_true, if_false, g_up_ne, g_up_eq, g_z_ne, g_z_eq, l3 q hq]
        · have := g6 p hp
          unfold vP4 at *
          simp (disch := omega) only [li_0, li_1, li_2, li_3, li_4, li_5, li_6, li_7, li_8, li_9, li_10, li_11, li_12, li_13, li_14, li_15, li_16, li_18, li_19, li_20, li_24, li_28, li_29, li_30, li_31, li_32, li_36, li_40, li_41, li_42, li_43, li_45, li_48, li_49, li_50, li_56, li_57, li_59, li_60, li_61, li_62, li_63, li_64, li_97, li_99, li_100, li_120, li_121, li_122, li_255, li_270, li_300, li_400, li_500, li_540, li_1000, li_1024, li_1440, li_9999, li_11264, li_32768, li_268435456, li_1073741824, li_m, li_o, iN_add, iN_mul, iN_lt, iN_in, iN_cl, iN_inj, iM_ne, iM_ne', iN_or, iN_xor, iN_bd, sh31n, iN_shl2, iN_shr2, iN_bit2, Nat.one_mul, oB, iff_t, iff_f, if_true, if_false, g_up_ne, g_up_eq, g_z_ne, g_z_eq]
          exact this
        · obtain ⟨v1, v2, v3, v4, v5⟩ := g7 p hp hq
          refine ⟨?_, ?_, ?_, fun q hq => ?_, ?_⟩
          · simp (disch := omega) only [li_0, li_1, li_2, li_3, li_4, li_5, li_6, li_7, li_8, li_9, li_10, li_11, li_12, li_13, li_14, li_15, li_16, li_18, li_19, li_20, li_24, li_28, li_29, li_30, li_31, li_32, li_36, li_40, li_41, li_42, li_43, li_45, li_48, li_49, li_50, li_56, li_57, li_59, li_60, li_61, li_62, li_63, li_64, li_97, li_99, li_100, li_120, li_121, li_122, li_255, li_270, li_300, li_400, li_500, li_540, li_1000, li_1024, li_1440, li_9999, li_11264, li_32768, li_268435456, li_1073741824, li_m, li_o, iN_add, iN_mul, iN_lt, iN_in, iN_cl, iN_inj, iM_ne, iM_ne', iN_or, iN_xor, iN_bd, sh31n, iN_shl2, iN_shr2, iN_bit2, Nat.one_mul, oB, iff_t, iff_f, if_true, if_false, g_up_ne, g_up_eq, g_z_ne, g_z_eq, v1]
          · simp (disch := omega) only [li_0, li_1, li_2, li_3, li_4, li_5, li_6, li_7, li_8, li_9, li_10, li_11, li_12, li_13, li_14, li_15, li_16, li_18, li_19, li_20, li_24, li_28, li_29, li_30, li_31, li_32, li_36, li_40, li_41, li_42, li_43, li_45, li_48, li_49, li_50, li_56, li_57, li_59, li_60, li_61, li_62, li_63, li_64, li_97, li_99, li_100, li_120, li_121, li_122, li_255, li_270, li_300, li_400, li_500, li_540, li_1000, li_1024, li_1440, li_9999, li_11264, li_32768, li_268435456, li_1073741824, li_m, li_o, iN_add, iN_mul, iN_lt, iN_in, iN_cl, iN_inj, iM_ne, iM_ne', iN_or, iN_xor, iN_bd, sh31n, iN_shl2, iN_shr2, iN_bit2, Nat.one_mul, oB, iff_t, iff_f, if_true, if_false, g_up_ne, g_up_eq, g_z_ne, g_z_eq, v2]
          · simp (disch := omega) only [li_0, li_1, li_2, li_3, li_4, li_5, li_6, li_7, li_8, li_9, li_10, li_11, li_12, li_13, li_14, li_15, li_16, li_18, li_19, li_20, li_24, li_28, li_29, li_30, li_31, li_32, li_36, li_40, li_41, li_42, li_43, li_45, li_48, li_49, li_50, li_56, li_57, li_59, li_60, li_61, li_62, li_63, li_64, li_97, li_99, li_100, li_120, li_121, li_122, li_255, li_270, li_300, li_400, li_500, li_540, li_1000, li_1024, li_1440, li_9999, li_11264, li_32768, li_268435456, li_1073741824, li_m, li_o, iN_add, iN_mul, iN_lt, iN_in, iN_cl, iN_inj, iM_ne, iM_ne', iN_or, iN_xor, iN_bd, sh31n, iN_shl2, iN_shr2, iN_bit2, Nat.one_mul, oB, iff_t, iff_f, if_true, if_false, g_up_ne, g_up_eq, g_z_ne, g_z_eq]
            exact v3
          · simp (disch := omega) only [li_0, li_1, li_2, li_3, li_4, li_5, li_6, li_7, li_8, li_9, li_10, li_11, li_12, li_13, li_14, li_15, li_16, li_18, li_19, li_20, li_24, li_28, li_29, li_30, li_31, li_32, li_36, li_40, li_41, li_42, li_43, li_45, li_48, li_49, li_50, li_56, li_57, li_59, li_60, li_61, li_62, li_63, li_64, li_97, li_99, li_100, li_120, li_121, li_122, li_255, li_270, li_300, li_400, li_500, li_540, li_1000, li_1024, li_1440, li_9999, li_11264, li_32768, li_268435456, li_1073741824, li_m, li_o, iN_add, iN_mul, iN_lt, iN_in, iN_cl, iN_inj, iM_ne, iM_ne', iN_or, iN_xor, iN_bd, sh31n, iN_shl2, iN_shr2, iN_bit2, Nat.one_mul, oB, iff_t, iff_f, if_true, if_false, g_up_ne, g_up_eq, g_z_ne, g_z_eq, v4 q hq]
          · simp (disch := omega) only [li_0, li_1, li_2, li_3, li_4, li_5, li_6, li_7, li_8, li_9, li_10, li_11, li_12, li_13, li_14, li_15, li_16, li_18, li_19, li_20, li_24, li_28, li_29, li_30, li_31, li_32, li_36, li_40, li_41, li_42, li_43, li_45, li_48, li_49, li_50, li_56, li_57, li_59, li_60, li_61, li_62, li_63, li_64, li_97, li_99, li_100, li_120, li_121, li_122, li_255, li_270, li_300, li_400, li_500, li_540, li_1000, li_1024, li_1440, li_9999, li_11264, li_32768, li_268435456, li_1073741824, li_m, li_o, iN_add, iN_mul, iN_lt, iN_in, iN_cl, iN_inj, iM_ne, iM_ne', iN_or, iN_xor, iN_bd, sh31n, iN_shl2, iN_shr2, iN_bit2, Nat.one_mul, oB, iff_t, iff_f, if_true, if_false, g_up_ne, g_up_eq, g_z_ne, g_z_eq]
            exact v5
        · have := g8 q r hq hr
          simp (disch := omega) only [li_0, li_1, li_2, li_3, li_4, li_5, li_6, li_7, li_8, li_9, li_10, li_11, li_12, li_13, li_14, li_15, li_16, li_18, li_19, li_20, li_24, li_28, li_29, li_30, li_31, li_32, li_36, li_40, li_41, li_42, li_43, li_45, li_48, li_49, li_50, li_56, li_57, li_59, li_60, li_61, li_62, li_63, li_64, li_97, li_99, li_100, li_120, li_121, li_122, li_255, li_270, li_300, li_400, li_500, li_540, li_1000, li_1024, li_1440, li_9999, li_11264, li_32768, li_268435456, li_1073741824, li_m, li_o, iN_add, iN_mul, iN_lt, iN_in, iN_cl, iN_inj, iM_ne, iM_ne', iN_or, iN_xor, iN_bd, sh31n, iN_shl2, iN_shr2, iN_bit2, Nat.one_mul, oB, iff_t, iff_f, if_true, if_false, g_up_ne, g_up_eq, g_z_ne, g_z_eq]
          exact this
    · refine ⟨iN 0, M, M, ?_, ?_, h0⟩
      · simp (disch := omega) only [li_0, li_1, li_2, li_3, li_4, li_5, li_6, li_7, li_8, li_9, li_10, li_11, li_12, li_13, li_14, li_15, li_16, li_18, li_19, li_20, li_24, li_28, li_29, li_30, li_31, li_32, li_36, li_40, li_41, li_42, li_43, li_45, li_48, li_49, li_50, li_56, li_57, li_59, li_60, li_61, li_62, li_63, li_64, li_97, li_99, li_100, li_120, li_121, li_122, li_255, li_270, li_300, li_400, li_500, li_540, li_1000, li_1024, li_1440, li_9999, li_11264, li_32768, li_268435456, li_1073741824, li_m, li_o, iN_add, iN_mul, iN_lt, iN_in, iN_cl, iN_inj, iM_ne, iM_ne', iN_or, iN_xor, iN_bd, sh31n, iN_shl2, iN_shr2, iN_bit2, Nat.one_mul, oB, iff_t, iff_f, if_true, if_false, g_up_ne, g_up_eq, g_z_ne, g_z_eq, w_in, e, c1, t3]
      · unfold f_X12_absent b_X12_absent_0
        simp (disch := omega) only [li_0, li_1, li_2, li_3, li_4, li_5, li_6, li_7, li_8, li_9, li_10, li_11, li_12, li_13, li_14, li_15, li_16, li_18, li_19, li_20, li_24, li_28, li_29, li_30, li_31, li_32, li_36, li_40, li_41, li_42, li_43, li_45, li_48, li_49, li_50, li_56, li_57, li_59, li_60, li_61, li_62, li_63, li_64, li_97, li_99, li_100, li_120, li_121, li_122, li_255, li_270, li_300, li_400, li_500, li_540, li_1000, li_1024, li_1440, li_9999, li_11264, li_32768, li_268435456, li_1073741824, li_m, li_o, iN_add, iN_mul, iN_lt, iN_in, iN_cl, iN_inj, iM_ne, iM_ne', iN_or, iN_xor, iN_bd, sh31n, iN_shl2, iN_shr2, iN_bit2, Nat.one_mul, oB, iff_t, iff_f, if_true, if_false, g_up_ne, g_up_eq, g_z_ne, g_z_eq, ma, e, c2, t4]
  · refine ⟨iN 0, M, M, ?_, ?_, h0⟩
    · unfold f_X11_absent b_X11_absent_0
      rw [at_out p1 hP10 hx]
      simp (disch := omega) only [li_0, li_1, li_2, li_3, li_4, li_5, li_6, li_7, li_8, li_9, li_10, li_11, li_12, li_13, li_14, li_15, li_16, li_18, li_19, li_20, li_24, li_28, li_29, li_30, li_31, li_32, li_36, li_40, li_41, li_42, li_43, li_45, li_48, li_49, li_50, li_56, li_57, li_59, li_60, li_61, li_62, li_63, li_64, li_97, li_99, li_100, li_120, li_121, li_122, li_255, li_270, li_300, li_400, li_500, li_540, li_1000, li_1024, li_1440, li_9999, li_11264, li_32768, li_268435456, li_1073741824, li_m, li_o, iN_add, iN_mul, iN_lt, iN_in, iN_cl, iN_inj, iM_ne, iM_ne', iN_or, iN_xor, iN_bd, sh31n, iN_shl2, iN_shr2, iN_bit2, Nat.one_mul, oB, iff_t, iff_f, if_true, if_false, g_up_ne, g_up_eq, g_z_ne, g_z_eq]
    · unfold f_X12_absent b_X12_absent_0
      simp (disch := omega) only [li_0, li_1, li_2, li_3, li_4, li_5, li_6, li_7, li_8, li_9, li_10, li_11, li_12, li_13, li_14, li_15, li_16, li_18, li_19, li_20, li_24, li_28, li_29, li_30, li_31, li_32, li_36, li_40, li_41, li_42, li_43, li_45, li_48, li_49, li_50, li_56, li_57, li_59, li_60, li_61, li_62, li_63, li_64, li_97, li_99, li_100, li_120, li_121, li_122, li_255, li_270, li_300, li_400, li_500, li_540, li_1000, li_1024, li_1440, li_9999, li_11264, li_32768, li_268435456, li_1073741824, li_m, li_o, iN_add, iN_mul, iN_lt, iN_in, iN_cl, iN_inj, iM_ne, iM_ne', iN_or, iN_xor, iN_bd, sh31n, iN_shl2, iN_shr2, iN_bit2, Nat.one_mul, oB, iff_t, iff_f, if_true, if_false, g_up_ne, g_up_eq, g_z_ne, g_z_eq, pers_out (σ := σ) p2 hP10 hx]
/-! sets of guests: both sides -/
/-- who is in a room, as bits -/
def inR (L : Nat → Int32) (t : Nat) (x : Int32) : Nat := setOf (fun p => decide (L (10 * t + p) = x)) 10
theorem l_guestsOf {σ : gS} {M : gM} {T t : Nat} {x : Int32} (hs : lyT σ T) (ht : t < T) (h1 : vT1 M t) : ∀ k i n, i + k = 10 → k < n →
    l_X10_guestsOf_4 n (110 + t) x (iN (setOf (fun p => decide (M 57 (10 * t + p) = x)) i)) (iN i) σ M = some (iN (inR (M 57) t x)) := by
  obtain ⟨c1, c2, c3, c4, c5, c6, c7⟩ := (hs.1 t ht).1
  refine up_ind (fun n => ?_) (fun i n hi ih => ?_)
  · rw [l_X10_guestsOf_4]
    simp (disch := omega) only [li_0, li_1, li_2, li_3, li_4, li_5, li_6, li_7, li_8, li_9, li_10, li_11, li_12, li_13, li_14, li_15, li_16, li_18, li_19, li_20, li_24, li_28, li_29, li_30, li_31, li_32, li_36, li_40, li_41, li_42, li_43, li_45, li_48, li_49, li_50, li_56, li_57, li_59, li_60, li_61, li_62, li_63, li_64, li_97, li_99, li_100, li_120, li_121, li_122, li_255, li_270, li_300, li_400, li_500, li_540, li_1000, li_1024, li_1440, li_9999, li_11264, li_32768, li_268435456, li_1073741824, li_m, li_o, iN_add, iN_mul, iN_lt, iN_in, iN_cl, iN_inj, iM_ne, iM_ne', iN_or, iN_xor, iN_bd, sh31n, iN_shl2, iN_shr2, iN_bit2, Nat.one_mul, oB, iff_t, iff_f, if_true, if_false, g_up_ne, g_up_eq, g_z_ne, g_z_eq, inR]
  · rw [l_X10_guestsOf_4]
    unfold b_X10_guestsOf_26
    simp (disch := omega) only [li_0, li_1, li_2, li_3, li_4, li_5, li_6, li_7, li_8, li_9, li_10, li_11, li_12, li_13, li_14, li_15, li_16, li_18, li_19, li_20, li_24, li_28, li_29, li_30, li_31, li_32, li_36, li_40, li_41, li_42, li_43, li_45, li_48, li_49, li_50, li_56, li_57, li_59, li_60, li_61, li_62, li_63, li_64, li_97, li_99, li_100, li_120, li_121, li_122, li_255, li_270, li_300, li_400, li_500, li_540, li_1000, li_1024, li_1440, li_9999, li_11264, li_32768, li_268435456, li_1073741824, li_m, li_o, iN_add, iN_mul, iN_lt, iN_in, iN_cl, iN_inj, iM_ne, iM_ne', iN_or, iN_xor, iN_bd, sh31n, iN_shl2, iN_shr2, iN_bit2, Nat.one_mul, oB, iff_t, iff_f, if_true, if_false, g_up_ne, g_up_eq, g_z_ne, g_z_eq, is_of c2, c4, is_of c7, ln_of c7, h1.2.2.2.2 i hi]
    rw [setOf] at ih
    by_cases h : M 57 (10 * t + i) = x
    · rw [if_pos (decide_eq_true h)] at ih
      simp only [h, if_true]
      exact ih
    · rw [if_neg (by rw [decide_eq_true_iff]; exact h), Nat.or_zero] at ih
      simp only [h, if_false]
      exact ih
theorem guests_c {σ : gS} {M : gM} {T t : Nat} {x : Int32} (hs : lyT σ T) (ht : t < T) (h1 : vT1 M t) : f_X10_guestsOf (110 + t) x σ M = some (iN (inR (M 57) t x)) := by
  unfold f_X10_guestsOf b_X10_guestsOf_0
  exact l_guestsOf hs ht h1 10 0 g_FU (by omega) (by unfold g_FU; omega)
theorem inR_lt (L : Nat → Int32) (t : Nat) (x : Int32) : inR L t x < 1024 := setOf_lt _ 10
theorem inR_bit (L : Nat → Int32) (t : Nat) (x : Int32) (p : Nat) : (inR L t x).testBit p = (decide (p < 10) && decide (L (10 * t + p) = x)) := setOf_bit _ _ _
theorem setIn_m {σ : gS} {M : gM} {P t : Nat} {x : Int32} (ht : t < 6) (hP : M 40 1 = iN P) (h10 : P ≤ 10) (hn : ∀ p, P ≤ p → p < 10 → M 57 (10 * t + p) = iM) (hx : x ≠ iM) : f_X12_setIn (iN t) x σ M = some (iN (inR (M 57) t x)) := by
  rw [f_setIn ht hP h10]
  unfold inR
  rw [setOf_more h10 (fun i h1 h2 => decide_eq_false (fun e => hx (by rw [← e, hn i h1 h2])))]
/-! a room's change on a list, and its note -/
theorem or_add {a b n : Nat} (h : b < 2 ^ n) : a * 2 ^ n ||| b = a * 2 ^ n + b := by
  rw [Nat.mul_comm, Nat.two_pow_add_eq_or_of_lt h]
theorem note_pack {d t p r : Nat} (ht : t < 8) (hp : p < 16) (hr : r < 16) : ((d * 2 ^ 11 ||| t * 2 ^ 8) ||| p * 2 ^ 4) ||| r = 2048 * d + 256 * t + 16 * p + r := by
  have e1 : d * 2 ^ 11 ||| t * 2 ^ 8 = (8 * d + t) * 2 ^ 8 := by
    rw [or_add (n := 11) (by omega)]; omega
  have e2 : (8 * d + t) * 2 ^ 8 ||| p * 2 ^ 4 = (128 * d + 16 * t + p) * 2 ^ 4 := by
    rw [or_add (n := 8) (by omega)]; omega
  rw [e1, e2, or_add (n := 4) (by omega)]
  omega
/-- the class's writing of a change -/
def wrC (M : gM) (t p s : Nat) (x y : Int32) : gM := (g_up (g_up (g_up M (130 + t) p x) 6 s y) 5 1 (iN (s + 1)))
def wrM (M : gM) (t p s : Nat) (x d : Int32) : gM := (g_up (g_up (g_up (g_up (g_up M 57 (10 * t + p) x) 58 s d) 59 s (iN (10 * t + p))) 60 s x) 40 26 (iN (s + 1)))
theorem oN_succ {x : Int32} {n : Nat} (h : oN x n) : ∃ r, r ≤ n ∧ x = iN r - iN 1 ∧ x + iN 1 = iN r := by
  rcases h with h | ⟨r, h1, h2⟩
  · exact ⟨0, by omega, by rw [h]; rfl, by rw [h]; rfl⟩
  · refine ⟨r + 1, by omega, by rw [h2, iN_sub (by omega), Nat.add_sub_cancel], by rw [h2, iN_add]⟩
theorem list_c {σ : gS} {M : gM} {T t p s d r : Nat} {x : Int32} (hs : lyT σ T) (hT6 : T ≤ 6) (ht : t < T) (h1 : vT1 M t) (hp : p < 10) (hS : M 5 1 = iN s) (hs5 : s < 500) (hD : M 1 10 = iN d) (hd : d ≤ 1000) (hr : r ≤ 10) (hx : x + iN 1 = iN r) (hne : ¬ M 57 (10 * t + p) = x) : f_X11_list (110 + t) (iN p) x σ M = some (wrC M t p s x (iN (2048 * d + 256 * t + 16 * p + r))) := by
  have e := guest_c hs ht h1 hp
  obtain ⟨c1, c2, c3, c4, c5, c6, c7⟩ := (hs.1 t ht).1
  unfold f_X11_list b_X11_list_0
  rw [e]
  unfold f_X10_move b_X10_move_0 f_X4_add b_X4_add_0 wrC
  have e2 : iN (d * 2 ^ 11) ||| iN (t * 2 ^ 8) ||| iN (p * 2 ^ 4) ||| iN r = iN (2048 * d + 256 * t + 16 * p + r) := by
    rw [iN_or, iN_or, iN_or, note_pack (by omega) (by omega) (by omega)]
  simp (disch := omega) only [is_of c2, oB, hne, if_false, if_true]
  simp (disch := omega) only [li_0, li_10, li_500, li_1, iN_lt, if_true, iff_t, iff_f, iN_in, iN_cl, oB, c4, is_of c7, ln_of c7, g_up_ne, g_up_eq, hS, h1.1, hD, hx, iN_add]
  simp (disch := omega) only [li_11, li_8, li_4, li_31, sh31n, iN_shl2, e2, oB, hS, h1.1, hD, hx, iN_add, g_up_ne, iN_lt, iN_in, iN_cl, iff_t, if_true]
theorem list_c0 {σ : gS} {M : gM} {T t p : Nat} {x : Int32} (hs : lyT σ T) (ht : t < T) (h1 : vT1 M t) (hp : p < 10) (hne : M 57 (10 * t + p) = x) : f_X11_list (110 + t) (iN p) x σ M = some M := by
  have e := guest_c hs ht h1 hp
  obtain ⟨c1, c2, c3, c4, c5, c6, c7⟩ := (hs.1 t ht).1
  unfold f_X11_list b_X11_list_0
  rw [e]
  simp (disch := omega) only [is_of c2, oB, hne, if_true]
theorem list_m {σ : gS} {M : gM} {t p s : Nat} {x d : Int32} (ht : t < 6) (hp : p < 10) (hS : M 40 26 = iN s) (hs5 : s < 500) (hD : M 40 14 = d) (hne : ¬ M 57 (10 * t + p) = x) : f_X12_notes (iN t) (iN p) x σ M = some (wrM M t p s x d) := by
  unfold f_X12_notes b_X12_notes_0 b_X12_notes_52 wrM
  simp (disch := omega) only [li_0, li_1, li_2, li_3, li_4, li_5, li_6, li_7, li_8, li_9, li_10, li_11, li_12, li_13, li_14, li_15, li_16, li_18, li_19, li_20, li_24, li_28, li_29, li_30, li_31, li_32, li_36, li_40, li_41, li_42, li_43, li_45, li_48, li_49, li_50, li_56, li_57, li_59, li_60, li_61, li_62, li_63, li_64, li_97, li_99, li_100, li_120, li_121, li_122, li_255, li_270, li_300, li_400, li_500, li_540, li_1000, li_1024, li_1440, li_9999, li_11264, li_32768, li_268435456, li_1073741824, li_m, li_o, iN_add, iN_mul, iN_lt, iN_in, iN_cl, iN_inj, iM_ne, iM_ne', iN_or, iN_xor, iN_bd, sh31n, iN_shl2, iN_shr2, iN_bit2, Nat.one_mul, oB, iff_t, iff_f, if_true, if_false, g_up_ne, g_up_eq, g_z_ne, g_z_eq, hne, hS, hD]
theorem list_m0 {σ : gS} {M : gM} {t p : Nat} {x : Int32} (ht : t < 6) (hp : p < 10) (hne : M 57 (10 * t + p) = x) : f_X12_notes (iN t) (iN p) x σ M = some M := by
  unfold f_X12_notes b_X12_notes_0
  simp (disch := omega) only [li_0, li_1, li_2, li_3, li_4, li_5, li_6, li_7, li_8, li_9, li_10, li_11, li_12, li_13, li_14, li_15, li_16, li_18, li_19, li_20, li_24, li_28, li_29, li_30, li_31, li_32, li_36, li_40, li_41, li_42, li_43, li_45, li_48, li_49, li_50, li_56, li_57, li_59, li_60, li_61, li_62, li_63, li_64, li_97, li_99, li_100, li_120, li_121, li_122, li_255, li_270, li_300, li_400, li_500, li_540, li_1000, li_1024, li_1440, li_9999, li_11264, li_32768, li_268435456, li_1073741824, li_m, li_o, iN_add, iN_mul, iN_lt, iN_in, iN_cl, iN_inj, iM_ne, iM_ne', iN_or, iN_xor, iN_bd, sh31n, iN_shl2, iN_shr2, iN_bit2, Nat.one_mul, oB, iff_t, iff_f, if_true, if_false, g_up_ne, g_up_eq, g_z_ne, g_z_eq, hne]
