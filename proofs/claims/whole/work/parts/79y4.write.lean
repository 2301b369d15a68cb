/-! settle: what is kept; the writing. -/
theorem lockS {M : gM} {fc : Option (Int32 × gS × gM × gN)} {fm : gS → gM → Option (Int32 × gM)} (H : ∀ Mm, mg M Mm = M → ∃ r σ1 Mc' N1 Mm', fc = some (r, σ1, Mc', N1) ∧ g_layL σ1 ∧ fm σ1 Mm = some (r, Mm') ∧ (∀ a k, 40 ≤ a → a < 100 → Mc' a k = M a k) ∧ (∀ a k, a < 40 ∨ 100 ≤ a → Mm' a k = Mm a k) ∧ Inv σ1 (mg Mc' Mm')) : ∃ r σ1 M1 N1 M2, fc = some (r, σ1, M1, N1) ∧ g_layL σ1 ∧ fm σ1 M1 = some (r, M2) ∧ Inv σ1 M2 := by
  obtain ⟨r, σ1, M1, N1, _, h1, hl, _, h3, _, _⟩ := H M mg_self
  obtain ⟨r', σ1', M1', N1', M2, g1, gl, g2, _, g4, g5⟩ := H M1 (mg_eq' (fun a k _ => rfl) (fun a k h h' => (h3 a k h h').symm))
  rw [h1] at g1
  injection g1 with e1
  injection e1 with e1 e2
  injection e2 with e2 e3
  injection e3 with e3 e4
  subst e1 e2 e3 e4
  refine ⟨r, σ1, M1, N1, M2, h1, hl, g2, ?_⟩
  rw [mg_eq g4] at g5
  exact g5
theorem iv_sc {σ σ' : gS} {M M' : gM} {P T C : Nat} {R F : Nat → Nat} (h : Iv σ M P T C R F) (s1 : ∀ a, ¬ (10000 ≤ a ∧ a ≤ 21264) → σ'.1 a = σ.1 a) (s2 : ∀ a j, a ≠ 18 → ¬ (10000 ≤ a ∧ a ≤ 21264) → ¬ (a = 12 ∧ j = 13) → σ'.2 a j = σ.2 a j) (hB' : lyB σ') (hC' : g_layC σ') (k : ∀ a j, ¬ (12 ≤ a ∧ a ≤ 19) → a ≠ 36 → ¬ (65 ≤ a ∧ a ≤ 69) → ¬ (10000 ≤ a ∧ a ≤ 21264) → M' a j = M a j) : Iv σ' M' P T C R F := by
  obtain ⟨hL, hP, hT, hD, hN, hB, hK, hC, hX⟩ := h
  obtain ⟨l0, lP, lT, lR, lD, lB⟩ := hL
  have hT6 := hT.1
  have hL' : Lay σ' P T R := by
    refine ⟨⟨hC', ⟨fun q hq => ?_, fun q hq => ?_⟩, ?_⟩, lP.keep hP.1 (fun a h1 h2 => s1 a (by omega)) (fun j => s2 _ _ (by omega) (by omega) (by omega)), lT.keep hT6 (fun a h1 h2 => s1 a (by omega)) (fun a j h => s2 a j (by omega) (by omega) (by omega)), lR.keep (fun a h1 h2 => s1 a (by omega)) (fun a j h1 h2 => s2 a j (by omega) (by omega) (by omega)), lD.keep hT6 (fun a h => s1 a (by omega)) (fun a h1 h2 => s2 a _ (by omega) (by omega) (by omega)), hB'⟩
    · rw [s1 _ (by have := lSM_lt q hq; omega)]; exact l0.2.1.1 q hq
    · have e := lRM_ok q hq
      rw [s2 _ _ (by omega) (by omega) (by omega)]; exact l0.2.1.2 q hq
    · rw [s1 _ (by omega)]; exact l0.2.2
  refine ⟨hL', hP.keep (fun a j h => k a j (by omega) (by omega) (by omega) (by omega)), hT.keep (fun a j h => k a j (by omega) (by omega) (by omega) (by omega)) (fun t ht => (lR.1 t ht).1), hD.keep (fun a j h => k a j (by omega) (by omega) (by omega) (by omega)), hN.keep (fun a j h => k a j (by omega) (by omega) (by omega) (by omega)), hB.keep (fun a j h => k a j (by omega) (by omega) (by omega) (by omega)), hK.keep (fun a j h => k a j (by omega) (by omega) (by omega) (by omega)), hC.keep (fun a j h => k a j (by omega) (by omega) (by omega) (by omega)), ?_⟩
  refine (hX.lay (σ' := σ') (fun t ht => s2 _ _ (by omega) (by omega) (by omega)) (fun t ht => ?_)).keep hL'.2.2.2.2.1 hT6 (fun a j h => k a j (by omega) (by omega) (by omega) (by omega))
  have := lD.at ht
  exact s1 _ (by omega)
/-! how many change -/
theorem l_chgC {σ : gS} {M : gM} {T t : Nat} (hs : lyT σ T) (ht : t < T) : ∀ k i n, i + k = 10 → k < n → l_X9_changes_4 n (110 + t) (iN (cf (fun p => !decide (M (130 + t) p = M 13 p)) i)) (iN i) σ M = some (iN (cf (fun p => !decide (M (130 + t) p = M 13 p)) 10)) := by
  intro k
  induction k with
  | zero =>
    intro i n hi hn
    obtain ⟨n, rfl⟩ : ∃ m, n = m + 1 := ⟨n - 1, by omega⟩
    obtain rfl : i = 10 := by omega
    rw [l_X9_changes_4, if_neg (by decide)]
  | succ k ih =>
    intro i n hi hn
    obtain ⟨n, rfl⟩ : ∃ m, n = m + 1 := ⟨n - 1, by omega⟩
    have e := ih (i + 1) n (by omega) (by omega)
    obtain ⟨y1, y2⟩ := hs.1 t ht
    rw [l_X9_changes_4, if_pos (show iN i < (10 : Int32) by rw [show (10 : Int32) = iN 10 from rfl, iN_lt (by omega) (by omega)]; omega), if_pos (show g_is σ (110 + t) 10 = true by rw [is_of y1.2.1]; trivial), guest_c2 hs ht (by omega), oB, if_pos (by rw [iN_in (by omega)]; omega), iN_cl (by omega)]
    unfold b_X9_changes_27
    rw [eS, eS]
    by_cases c : M (130 + t) i = M 13 i
    · rw [cf_f (by rw [decide_eq_true c]; rfl)] at e
      rw [if_pos c]; exact e
    · rw [cf_t (by rw [decide_eq_false c]; rfl)] at e
      rw [if_neg c]; exact e
theorem l_chgM {σ : gS} {M : gM} {P t : Nat} {x5 x6 : Int32} (hP10 : P ≤ 10) (ht : t < 6) (hP : M 40 1 = iN P) : ∀ k i n, i + k = P → k < n → l_X12_takes_208 n (iN t) x5 x6 (iN (cf (fun p => !decide (M 57 (10 * t + p) = M 68 p)) i)) (iN i) σ M = if (500 : Int32) < M 40 26 + iN (cf (fun p => !decide (M 57 (10 * t + p) = M 68 p)) P) then some (-1, M) else l_X12_takes_273 g_FU (iN t) x5 x6 0 σ M := by
  intro k
  induction k with
  | zero =>
    intro i n hi hn
    obtain ⟨n, rfl⟩ : ∃ m, n = m + 1 := ⟨n - 1, by omega⟩
    obtain rfl : i = P := by omega
    rw [l_X12_takes_208, hP, if_neg (by rw [iN_lt (by omega) (by omega)]; omega)]
  | succ k ih =>
    intro i n hi hn
    obtain ⟨n, rfl⟩ : ∃ m, n = m + 1 := ⟨n - 1, by omega⟩
    have e := ih (i + 1) n (by omega) (by omega)
    rw [l_X12_takes_208, hP, if_pos (by rw [iN_lt (by omega) (by omega)]; omega), if_pos (by rw [iN_in (by omega)]; omega), show (10 : Int32) * iN t + iN i = iN (10 * t + i) from by rw [show (10 : Int32) = iN 10 from rfl, iN_mul, iN_add], if_pos (by rw [iN_in (by omega)]; omega), iN_cl (by omega), iN_cl (by omega)]
    unfold b_X12_takes_246
    rw [eS, eS]
    by_cases c : M 57 (10 * t + i) = M 68 i
    · rw [cf_f (by rw [decide_eq_true c]; rfl)] at e
      rw [if_pos c.symm, show iN (cf (fun p => !decide (M 57 (10 * t + p) = M 68 p)) i) + (0 : Int32) = _ from Int32.add_zero _]; exact e
    · rw [cf_t (by rw [decide_eq_false c]; rfl)] at e
      rw [if_neg (fun q => c q.symm)]; exact e
/-- both sides write their lists -/
theorem l_setW {σ : gS} {N : gN} {P T C t : Nat} {R F : Nat → Nat} {x5 x6 : Int32} {L Fp : Nat → Int32} (ht : t < T) (hFo : ∀ p, p < P → oN (Fp p) (R t)) : ∀ k i n1 n2, i + k = P → ∀ (Mc Mm : gM) (s : Nat), Iv σ (mg Mc Mm) P T C R F → Mc 5 1 = iN s → s + cf (fun p => !decide (L p = Fp p)) P ≤ 500 + cf (fun p => !decide (L p = Fp p)) i → (∀ p, i ≤ p → p < P → Mm 57 (10 * t + p) = L p) → (∀ p, p < 10 → Mc 13 p = Fp p) → (∀ p, p < P → Mm 68 p = Fp p) →
    ∃ Mc' Mm', l_X11_settle_60 (n1 + k) (110 + t) (iN i) σ Mc N = l_X11_settle_60 n1 (110 + t) (iN P) σ Mc' N ∧ l_X12_takes_273 (n2 + k) (iN t) x5 x6 (iN i) σ Mm = l_X12_takes_273 n2 (iN t) x5 x6 (iN P) σ Mm' ∧ Iv σ (mg Mc' Mm') P T C R F ∧ (∀ a j, a ≠ 5 → a ≠ 6 → ¬ (a = 130 + t ∧ j < P) → Mc' a j = Mc a j) ∧ ∀ a j, ¬ (57 ≤ a ∧ a ≤ 60) → ¬ (a = 40 ∧ j = 26) → Mm' a j = Mm a j := by
  intro k
  induction k with
  | zero =>
    intro i n1 n2 hi Mc Mm s h hS hle hL hc hm
    obtain rfl : i = P := by omega
    exact ⟨Mc, Mm, rfl, rfl, h, fun _ _ _ _ _ => rfl, fun _ _ _ _ => rfl⟩
  | succ k ih =>
    intro i n1 n2 hi Mc Mm s h hS hle hL hc hm
    have h0 := h
    obtain ⟨hLy, hP, hT, hD, hN, hB, hK, hC, hX⟩ := h
    have hT6 := hT.1
    have hP10 := hP.1
    have v1 := (hT.2.2.2.2.2.2.2.2.2.1 t ht)
    have w0 := v1.1
    have w1 := v1.2.2.2.2 i (by omega)
    rw [mg_c (by omega)] at w0
    rw [mg_c (by omega), mg_m (by omega), hL i (Nat.le_refl _) (by omega)] at w1
    have mP : Mm 40 1 = iN P := by
      have := hP.2.2.1
      rw [mg_m (by omega)] at this
      exact this
    have hcf := cf_mono (fun p => !decide (L p = Fp p)) (show i + 1 ≤ P by omega)
    have hc10 := cf_le (fun p => !decide (L p = Fp p)) P
    rw [show n1 + (k + 1) = (n1 + k) + 1 from rfl, show n2 + (k + 1) = (n2 + k) + 1 from rfl, l_X11_settle_60, l_X12_takes_273, if_pos (show iN i < (10 : Int32) by rw [show (10 : Int32) = iN 10 from rfl, iN_lt (by omega) (by omega)]; omega), if_pos (show g_in (iN i) 10 = true by rw [iN_in (by omega)]; omega), mP, if_pos (show iN i < iN P by rw [iN_lt (by omega) (by omega)]; omega), if_pos (show g_in (iN i) 10 = true by rw [iN_in (by omega)]; omega), iN_cl (by omega), hc i (by omega), hm i (by omega), eS]
    by_cases c : L i = Fp i
    · rw [list_c20 hLy.2.2.1 ht (by omega) (by rw [w1, c]), oB, list_m0 (by omega) (by omega) (by rw [hL i (Nat.le_refl _) (by omega), c]), oB]
      exact ih (i + 1) n1 n2 (by omega) Mc Mm s h0 hS (by rw [cf_f (by rw [decide_eq_true c]; rfl)]; exact hle) (fun p h1 h2 => hL p (by omega) h2) hc hm
    · have ct : cf (fun p => !decide (L p = Fp p)) (i + 1) = cf (fun p => !decide (L p = Fp p)) i + 1 := cf_t (by rw [decide_eq_false c]; rfl)
      rw [ct] at hcf
      have ci10 := cf_le (fun p => !decide (L p = Fp p)) i
      obtain ⟨s', n1', n2', n3, n4⟩ := hN
      rw [mg_c (by omega), hS, iN_inj (by omega) (by omega)] at n2'
      subst n2'
      rw [mg_m (by omega)] at n3
      obtain ⟨⟨d, hd, d1, d2⟩, hD2⟩ := hD
      rw [mg_c (by omega)] at d1
      rw [mg_m (by omega)] at d2
      have hs5 : s < 500 := by omega
      have hR10 := (hLy.2.2.2.1.1 t (by omega)).1
      obtain ⟨r, r1, r2, r3⟩ := oN_succ (hFo i (by omega))
      rw [list_c2 (r := r) hLy.2.2.1 hT6 ht w0 (by omega) hS hs5 d1 hd (by omega) r3 (by rw [w1]; exact c), oB, list_m (by omega) (by omega) n3 hs5 d2 (by rw [hL i (Nat.le_refl _) (by omega)]; exact c), oB]
      have hwr : Iv σ (mg (wrC Mc t i s (Fp i) (iN (2048 * d + 256 * t + 16 * i + r))) (wrM Mm t i s (Fp i) (iN d))) P T C R F := by
        refine iv_wr (s := s) (d := d) (r := r) h0 (show i < P by omega) ht (hFo i (by omega)) (by rw [mg_c (by omega)]; exact hS) hs5 hd (by omega) r2 ?_ ?_ ?_ ?_ ?_ ?_ ?_ ?_ ?_
        · rw [mg_c (by omega)]; unfold wrC; simp (disch := omega) only [li_0, li_1, li_2, li_3, li_4, li_5, li_6, li_7, li_8, li_9, li_10, li_11, li_12, li_13, li_14, li_15, li_16, li_18, li_19, li_20, li_24, li_28, li_29, li_30, li_31, li_32, li_36, li_40, li_41, li_42, li_43, li_45, li_48, li_49, li_50, li_56, li_57, li_59, li_60, li_61, li_62, li_63, li_64, li_97, li_99, li_100, li_120, li_121, li_122, li_255, li_270, li_300, li_400, li_500, li_540, li_1000, li_1024, li_1440, li_9999, li_11264, li_32768, li_268435456, li_1073741824, li_m, li_o, iN_add, iN_mul, iN_lt, iN_in, iN_cl, iN_inj, iM_ne, iM_ne', iN_or, iN_xor, iN_bd, sh31n, iN_shl2, iN_shr2, iN_bit2, Nat.one_mul, oB, iff_t, iff_f, if_true, if_false, g_up_ne, g_up_eq, g_z_ne, g_z_eq]
        · rw [mg_m (by omega)]; unfold wrM; simp (disch := omega) only [li_0, li_1, li_2, li_3, li_4, li_5, li_6, li_7, li_8, li_9, li_10, li_11, li_12, li_13, li_14, li_15, li_16, li_18, li_19, li_20, li_24, li_28, li_29, li_30, li_31, li_32, li_36, li_40, li_41, li_42, li_43, li_45, li_48, li_49, li_50, li_56, li_57, li_59, li_60, li_61, li_62, li_63, li_64, li_97, li_99, li_100, li_120, li_121, li_122, li_255, li_270, li_300, li_400, li_500, li_540, li_1000, li_1024, li_1440, li_9999, li_11264, li_32768, li_268435456, li_1073741824, li_m, li_o, iN_add, iN_mul, iN_lt, iN_in, iN_cl, iN_inj, iM_ne, iM_ne', iN_or, iN_xor, iN_bd, sh31n, iN_shl2, iN_shr2, iN_bit2, Nat.one_mul, oB, iff_t, iff_f, if_true, if_false, g_up_ne, g_up_eq, g_z_ne, g_z_eq]
        · rw [mg_c (by omega)]; unfold wrC; simp (disch := omega) only [li_0, li_1, li_2, li_3, li_4, li_5, li_6, li_7, li_8, li_9, li_10, li_11, li_12, li_13, li_14, li_15, li_16, li_18, li_19, li_20, li_24, li_28, li_29, li_30, li_31, li_32, li_36, li_40, li_41, li_42, li_43, li_45, li_48, li_49, li_50, li_56, li_57, li_59, li_60, li_61, li_62, li_63, li_64, li_97, li_99, li_100, li_120, li_121, li_122, li_255, li_270, li_300, li_400, li_500, li_540, li_1000, li_1024, li_1440, li_9999, li_11264, li_32768, li_268435456, li_1073741824, li_m, li_o, iN_add, iN_mul, iN_lt, iN_in, iN_cl, iN_inj, iM_ne, iM_ne', iN_or, iN_xor, iN_bd, sh31n, iN_shl2, iN_shr2, iN_bit2, Nat.one_mul, oB, iff_t, iff_f, if_true, if_false, g_up_ne, g_up_eq, g_z_ne, g_z_eq]
        · rw [mg_m (by omega)]; unfold wrM; simp (disch := omega) only [li_0, li_1, li_2, li_3, li_4, li_5, li_6, li_7, li_8, li_9, li_10, li_11, li_12, li_13, li_14, li_15, li_16, li_18, li_19, li_20, li_24, li_28, li_29, li_30, li_31, li_32, li_36, li_40, li_41, li_42, li_43, li_45, li_48, li_49, li_50, li_56, li_57, li_59, li_60, li_61, li_62, li_63, li_64, li_97, li_99, li_100, li_120, li_121, li_122, li_255, li_270, li_300, li_400, li_500, li_540, li_1000, li_1024, li_1440, li_9999, li_11264, li_32768, li_268435456, li_1073741824, li_m, li_o, iN_add, iN_mul, iN_lt, iN_in, iN_cl, iN_inj, iM_ne, iM_ne', iN_or, iN_xor, iN_bd, sh31n, iN_shl2, iN_shr2, iN_bit2, Nat.one_mul, oB, iff_t, iff_f, if_true, if_false, g_up_ne, g_up_eq, g_z_ne, g_z_eq]
        · rw [mg_m (by omega)]; unfold wrM; simp (disch := omega) only [li_0, li_1, li_2, li_3, li_4, li_5, li_6, li_7, li_8, li_9, li_10, li_11, li_12, li_13, li_14, li_15, li_16, li_18, li_19, li_20, li_24, li_28, li_29, li_30, li_31, li_32, li_36, li_40, li_41, li_42, li_43, li_45, li_48, li_49, li_50, li_56, li_57, li_59, li_60, li_61, li_62, li_63, li_64, li_97, li_99, li_100, li_120, li_121, li_122, li_255, li_270, li_300, li_400, li_500, li_540, li_1000, li_1024, li_1440, li_9999, li_11264, li_32768, li_268435456, li_1073741824, li_m, li_o, iN_add, iN_mul, iN_lt, iN_in, iN_cl, iN_inj, iM_ne, iM_ne', iN_or, iN_xor, iN_bd, sh31n, iN_shl2, iN_shr2, iN_bit2, Nat.one_mul, oB, iff_t, iff_f, if_true, if_false, g_up_ne, g_up_eq, g_z_ne, g_z_eq]
        · rw [mg_m (by omega)]; unfold wrM; simp (disch := omega) only [li_0, li_1, li_2, li_3, li_4, li_5, li_6, li_7, li_8, li_9, li_10, li_11, li_12, li_13, li_14, li_15, li_16, li_18, li_19, li_20, li_24, li_28, li_29, li_30, li_31, li_32, li_36, li_40, li_41, li_42, li_43, li_45, li_48, li_49, li_50, li_56, li_57, li_59, li_60, li_61, li_62, li_63, li_64, li_97, li_99, li_100, li_120, li_121, li_122, li_255, li_270, li_300, li_400, li_500, li_540, li_1000, li_1024, li_1440, li_9999, li_11264, li_32768, li_268435456, li_1073741824, li_m, li_o, iN_add, iN_mul, iN_lt, iN_in, iN_cl, iN_inj, iM_ne, iM_ne', iN_or, iN_xor, iN_bd, sh31n, iN_shl2, iN_shr2, iN_bit2, Nat.one_mul, oB, iff_t, iff_f, if_true, if_false, g_up_ne, g_up_eq, g_z_ne, g_z_eq]
        · rw [mg_c (by omega)]; unfold wrC; simp (disch := omega) only [li_0, li_1, li_2, li_3, li_4, li_5, li_6, li_7, li_8, li_9, li_10, li_11, li_12, li_13, li_14, li_15, li_16, li_18, li_19, li_20, li_24, li_28, li_29, li_30, li_31, li_32, li_36, li_40, li_41, li_42, li_43, li_45, li_48, li_49, li_50, li_56, li_57, li_59, li_60, li_61, li_62, li_63, li_64, li_97, li_99, li_100, li_120, li_121, li_122, li_255, li_270, li_300, li_400, li_500, li_540, li_1000, li_1024, li_1440, li_9999, li_11264, li_32768, li_268435456, li_1073741824, li_m, li_o, iN_add, iN_mul, iN_lt, iN_in, iN_cl, iN_inj, iM_ne, iM_ne', iN_or, iN_xor, iN_bd, sh31n, iN_shl2, iN_shr2, iN_bit2, Nat.one_mul, oB, iff_t, iff_f, if_true, if_false, g_up_ne, g_up_eq, g_z_ne, g_z_eq]
        · rw [mg_m (by omega)]; unfold wrM; simp (disch := omega) only [li_0, li_1, li_2, li_3, li_4, li_5, li_6, li_7, li_8, li_9, li_10, li_11, li_12, li_13, li_14, li_15, li_16, li_18, li_19, li_20, li_24, li_28, li_29, li_30, li_31, li_32, li_36, li_40, li_41, li_42, li_43, li_45, li_48, li_49, li_50, li_56, li_57, li_59, li_60, li_61, li_62, li_63, li_64, li_97, li_99, li_100, li_120, li_121, li_122, li_255, li_270, li_300, li_400, li_500, li_540, li_1000, li_1024, li_1440, li_9999, li_11264, li_32768, li_268435456, li_1073741824, li_m, li_o, iN_add, iN_mul, iN_lt, iN_in, iN_cl, iN_inj, iM_ne, iM_ne', iN_or, iN_xor, iN_bd, sh31n, iN_shl2, iN_shr2, iN_bit2, Nat.one_mul, oB, iff_t, iff_f, if_true, if_false, g_up_ne, g_up_eq, g_z_ne, g_z_eq]
        · intro a j q1 q2 q3 q4 q5 q6
          unfold mg
          split
          · unfold wrM; simp (disch := omega) only [li_0, li_1, li_2, li_3, li_4, li_5, li_6, li_7, li_8, li_9, li_10, li_11, li_12, li_13, li_14, li_15, li_16, li_18, li_19, li_20, li_24, li_28, li_29, li_30, li_31, li_32, li_36, li_40, li_41, li_42, li_43, li_45, li_48, li_49, li_50, li_56, li_57, li_59, li_60, li_61, li_62, li_63, li_64, li_97, li_99, li_100, li_120, li_121, li_122, li_255, li_270, li_300, li_400, li_500, li_540, li_1000, li_1024, li_1440, li_9999, li_11264, li_32768, li_268435456, li_1073741824, li_m, li_o, iN_add, iN_mul, iN_lt, iN_in, iN_cl, iN_inj, iM_ne, iM_ne', iN_or, iN_xor, iN_bd, sh31n, iN_shl2, iN_shr2, iN_bit2, Nat.one_mul, oB, iff_t, iff_f, if_true, if_false, g_up_ne, g_up_eq, g_z_ne, g_z_eq]
          · unfold wrC; simp (disch := omega) only [li_0, li_1, li_2, li_3, li_4, li_5, li_6, li_7, li_8, li_9, li_10, li_11, li_12, li_13, li_14, li_15, li_16, li_18, li_19, li_20, li_24, li_28, li_29, li_30, li_31, li_32, li_36, li_40, li_41, li_42, li_43, li_45, li_48, li_49, li_50, li_56, li_57, li_59, li_60, li_61, li_62, li_63, li_64, li_97, li_99, li_100, li_120, li_121, li_122, li_255, li_270, li_300, li_400, li_500, li_540, li_1000, li_1024, li_1440, li_9999, li_11264, li_32768, li_268435456, li_1073741824, li_m, li_o, iN_add, iN_mul, iN_lt, iN_in, iN_cl, iN_inj, iM_ne, iM_ne', iN_or, iN_xor, iN_bd, sh31n, iN_shl2, iN_shr2, iN_bit2, Nat.one_mul, oB, iff_t, iff_f, if_true, if_false, g_up_ne, g_up_eq, g_z_ne, g_z_eq]
      obtain ⟨Mc', Mm', u1, u2, u3, u4, u5⟩ := ih (i + 1) n1 n2 (by omega) _ _ (s + 1) hwr (by unfold wrC; simp (disch := omega) only [li_0, li_1, li_2, li_3, li_4, li_5, li_6, li_7, li_8, li_9, li_10, li_11, li_12, li_13, li_14, li_15, li_16, li_18, li_19, li_20, li_24, li_28, li_29, li_30, li_31, li_32, li_36, li_40, li_41, li_42, li_43, li_45, li_48, li_49, li_50, li_56, li_57, li_59, li_60, li_61, li_62, li_63, li_64, li_97, li_99, li_100, li_120, li_121, li_122, li_255, li_270, li_300, li_400, li_500, li_540, li_1000, li_1024, li_1440, li_9999, li_11264, li_32768, li_268435456, li_1073741824, li_m, li_o, iN_add, iN_mul, iN_lt, iN_in, iN_cl, iN_inj, iM_ne, iM_ne', iN_or, iN_xor, iN_bd, sh31n, iN_shl2, iN_shr2, iN_bit2, Nat.one_mul, oB, iff_t, iff_f, if_true, if_false, g_up_ne, g_up_eq, g_z_ne, g_z_eq]) (by rw [ct]; omega) (fun p h1 h2 => by
        have := hL p (by omega) h2
        unfold wrM; simp (disch := omega) only [li_0, li_1, li_2, li_3, li_4, li_5, li_6, li_7, li_8, li_9, li_10, li_11, li_12, li_13, li_14, li_15, li_16, li_18, li_19, li_20, li_24, li_28, li_29, li_30, li_31, li_32, li_36, li_40, li_41, li_42, li_43, li_45, li_48, li_49, li_50, li_56, li_57, li_59, li_60, li_61, li_62, li_63, li_64, li_97, li_99, li_100, li_120, li_121, li_122, li_255, li_270, li_300, li_400, li_500, li_540, li_1000, li_1024, li_1440, li_9999, li_11264, li_32768, li_268435456, li_1073741824, li_m, li_o, iN_add, iN_mul, iN_lt, iN_in, iN_cl, iN_inj, iM_ne, iM_ne', iN_or, iN_xor, iN_bd, sh31n, iN_shl2, iN_shr2, iN_bit2, Nat.one_mul, oB, iff_t, iff_f, if_true, if_false, g_up_ne, g_up_eq, g_z_ne, g_z_eq]
        exact this) (fun p hp => by
        have := hc p hp
        unfold wrC; simp (disch := omega) only [li_0, li_1, li_2, li_3, li_4, li_5, li_6, li_7, li_8, li_9, li_10, li_11, li_12, li_13, li_14, li_15, li_16, li_18, li_19, li_20, li_24, li_28, li_29, li_30, li_31, li_32, li_36, li_40, li_41, li_42, li_43, li_45, li_48, li_49, li_50, li_56, li_57, li_59, li_60, li_61, li_62, li_63, li_64, li_97, li_99, li_100, li_120, li_121, li_122, li_255, li_270, li_300, li_400, li_500, li_540, li_1000, li_1024, li_1440, li_9999, li_11264, li_32768, li_268435456, li_1073741824, li_m, li_o, iN_add, iN_mul, iN_lt, iN_in, iN_cl, iN_inj, iM_ne, iM_ne', iN_or, iN_xor, iN_bd, sh31n, iN_shl2, iN_shr2, iN_bit2, Nat.one_mul, oB, iff_t, iff_f, if_true, if_false, g_up_ne, g_up_eq, g_z_ne, g_z_eq]
        exact this) (fun p hp => by
        have := hm p hp
        unfold wrM; simp (disch := omega) only [li_0, li_1, li_2, li_3, li_4, li_5, li_6, li_7, li_8, li_9, li_10, li_11, li_12, li_13, li_14, li_15, li_16, li_18, li_19, li_20, li_24, li_28, li_29, li_30, li_31, li_32, li_36, li_40, li_41, li_42, li_43, li_45, li_48, li_49, li_50, li_56, li_57, li_59, li_60, li_61, li_62, li_63, li_64, li_97, li_99, li_100, li_120, li_121, li_122, li_255, li_270, li_300, li_400, li_500, li_540, li_1000, li_1024, li_1440, li_9999, li_11264, li_32768, li_268435456, li_1073741824, li_m, li_o, iN_add, iN_mul, iN_lt, iN_in, iN_cl, iN_inj, iM_ne, iM_ne', iN_or, iN_xor, iN_bd, sh31n, iN_shl2, iN_shr2, iN_bit2, Nat.one_mul, oB, iff_t, iff_f, if_true, if_false, g_up_ne, g_up_eq, g_z_ne, g_z_eq]
        exact this)
      refine ⟨Mc', Mm', u1, u2, u3, fun a j h1 h2 h3 => ?_, fun a j h1 h2 => ?_⟩
      · rw [u4 a j h1 h2 h3]; unfold wrC; simp (disch := omega) only [li_0, li_1, li_2, li_3, li_4, li_5, li_6, li_7, li_8, li_9, li_10, li_11, li_12, li_13, li_14, li_15, li_16, li_18, li_19, li_20, li_24, li_28, li_29, li_30, li_31, li_32, li_36, li_40, li_41, li_42, li_43, li_45, li_48, li_49, li_50, li_56, li_57, li_59, li_60, li_61, li_62, li_63, li_64, li_97, li_99, li_100, li_120, li_121, li_122, li_255, li_270, li_300, li_400, li_500, li_540, li_1000, li_1024, li_1440, li_9999, li_11264, li_32768, li_268435456, li_1073741824, li_m, li_o, iN_add, iN_mul, iN_lt, iN_in, iN_cl, iN_inj, iM_ne, iM_ne', iN_or, iN_xor, iN_bd, sh31n, iN_shl2, iN_shr2, iN_bit2, Nat.one_mul, oB, iff_t, iff_f, if_true, if_false, g_up_ne, g_up_eq, g_z_ne, g_z_eq]
      · rw [u5 a j h1 h2]; unfold wrM; simp (disch := omega) only [li_0, li_1, li_2, li_3, li_4, li_5, li_6, li_7, li_8, li_9, li_10, li_11, li_12, li_13, li_14, li_15, li_16, li_18, li_19, li_20, li_24, li_28, li_29, li_30, li_31, li_32, li_36, li_40, li_41, li_42, li_43, li_45, li_48, li_49, li_50, li_56, li_57, li_59, li_60, li_61, li_62, li_63, li_64, li_97, li_99, li_100, li_120, li_121, li_122, li_255, li_270, li_300, li_400, li_500, li_540, li_1000, li_1024, li_1440, li_9999, li_11264, li_32768, li_268435456, li_1073741824, li_m, li_o, iN_add, iN_mul, iN_lt, iN_in, iN_cl, iN_inj, iM_ne, iM_ne', iN_or, iN_xor, iN_bd, sh31n, iN_shl2, iN_shr2, iN_bit2, Nat.one_mul, oB, iff_t, iff_f, if_true, if_false, g_up_ne, g_up_eq, g_z_ne, g_z_eq]
/-- those who aren't there yet -/
theorem l_setZ {σ : gS} {N : gN} {M : gM} {T t P : Nat} (hs : lyT σ T) (ht : t < T) (hz : ∀ p, P ≤ p → p < 10 → M (130 + t) p = M 13 p) : ∀ k i n, i + k = 10 → P ≤ i → k < n → l_X11_settle_60 n (110 + t) (iN i) σ M N = some (M 12 2, σ, g_up M 1 14 (M 12 1), N) := by
  intro k
  induction k with
  | zero =>
    intro i n hi hp hn
    obtain ⟨n, rfl⟩ : ∃ m, n = m + 1 := ⟨n - 1, by omega⟩
    obtain rfl : i = 10 := by omega
    rw [l_X11_settle_60, if_neg (by decide), g_up_ne _ _ (by omega)]
  | succ k ih =>
    intro i n hi hp hn
    obtain ⟨n, rfl⟩ : ∃ m, n = m + 1 := ⟨n - 1, by omega⟩
    rw [l_X11_settle_60, if_pos (show iN i < (10 : Int32) by rw [show (10 : Int32) = iN 10 from rfl, iN_lt (by omega) (by omega)]; omega), if_pos (show g_in (iN i) 10 = true by rw [iN_in (by omega)]; omega), iN_cl (by omega), list_c20 hs ht (by omega) (hz i hp (by omega)), oB, eS]
    exact ih (i + 1) n (by omega) (by omega) (by omega)
/-- the model's plan, before it is made -/
theorem l_t12 {σ : gS} {P t how : Nat} {x4 x5 x6 : Int32} (hP10 : P ≤ 10) : ∀ k i n M, i + k = P → k < n → M 40 1 = iN P → (∀ p, p < i → M 68 p = -1) → ∃ M', l_X12_takes_12 n (iN t) (iN how) x4 x5 x6 (iN i) σ M = l_X12_takes_38 g_FU (iN t) (iN how) x4 x5 x6 0 σ M' ∧ (∀ p, p < P → M' 68 p = -1) ∧ ∀ a j, a ≠ 68 → M' a j = M a j := by
  intro k
  induction k with
  | zero =>
    intro i n M hi hn hP hd
    obtain ⟨n, rfl⟩ : ∃ m, n = m + 1 := ⟨n - 1, by omega⟩
    refine ⟨M, ?_, fun p hp => hd p (by omega), fun _ _ _ => rfl⟩
    rw [l_X12_takes_12, hP, if_neg (by rw [iN_lt (by omega) (by omega)]; omega)]
  | succ k ih =>
    intro i n M hi hn hP hd
    obtain ⟨n, rfl⟩ : ∃ m, n = m + 1 := ⟨n - 1, by omega⟩
    obtain ⟨M', q1, q2, q3⟩ := ih (i + 1) n (g_up M 68 i (-1)) (by omega) (by omega) (by rw [g_up_ne _ _ (by omega)]; exact hP) (fun p hp => by
      by_cases c : p = i
      · exact g_up_eq _ _ ⟨rfl, c⟩
      · rw [g_up_ne _ _ (by omega)]; exact hd p (by omega))
    refine ⟨M', ?_, q2, fun a j h => by rw [q3 a j h, g_up_ne _ _ (by omega)]⟩
    rw [l_X12_takes_12, hP, if_pos (by rw [iN_lt (by omega) (by omega)]; omega), if_pos (by rw [iN_in (by omega)]; omega), eS, iN_cl (by omega)]
    exact q1
theorem l_rp2 {σ : gS} : ∀ k i n M, i + k = 10 → k < n → (∀ p, p < i → M 13 p = -1) → ∃ M', l_X9_readPlan_2 n (iN i) σ M = l_X9_readPlan_32 g_FU (((1 : Int32) <<< ((M 12 9) &&& 31)) - (1 : Int32)) 0 σ M' ∧ (∀ p, p < 10 → M' 13 p = -1) ∧ ∀ a j, a ≠ 13 → M' a j = M a j := by
  intro k
  induction k with
  | zero =>
    intro i n M hi hn hd
    obtain ⟨n, rfl⟩ : ∃ m, n = m + 1 := ⟨n - 1, by omega⟩
    obtain rfl : i = 10 := by omega
    refine ⟨M, ?_, hd, fun _ _ _ => rfl⟩
    rw [l_X9_readPlan_2, if_neg (by decide)]
  | succ k ih =>
    intro i n M hi hn hd
    obtain ⟨n, rfl⟩ : ∃ m, n = m + 1 := ⟨n - 1, by omega⟩
    obtain ⟨M', q1, q2, q3⟩ := ih (i + 1) n (g_up M 13 i (-1)) (by omega) (by omega) (fun p hp => by
      by_cases c : p = i
      · exact g_up_eq _ _ ⟨rfl, c⟩
      · rw [g_up_ne _ _ (by omega)]; exact hd p (by omega))
    refine ⟨M', ?_, q2, fun a j h => by rw [q3 a j h, g_up_ne _ _ (by omega)]⟩
    rw [g_up_ne (b := 12) _ _ (by omega)] at q1
    rw [l_X9_readPlan_2, if_pos (show iN i < (10 : Int32) by rw [show (10 : Int32) = iN 10 from rfl, iN_lt (by omega) (by omega)]; omega), if_pos (by rw [iN_in (by omega)]; omega), eS, iN_cl (by omega)]
    exact q1
