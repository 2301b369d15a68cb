/-! Prices: sums, the cheapest; townOf, roomOf, personOf, meals, listed. -/
/-- the sum of the prices of a set of rooms -/
def sumS (pr : Nat → Int32) (s : Nat) : Nat → Int32
  | 0 => iN 0
  | n + 1 => if s.testBit n then sumS pr s n + pr n else sumS pr s n
theorem sumS_t {pr : Nat → Int32} {s n : Nat} (h : s.testBit n = true) : sumS pr s (n + 1) = sumS pr s n + pr n := by rw [sumS, if_pos h]
theorem sumS_f {pr : Nat → Int32} {s n : Nat} (h : s.testBit n = false) : sumS pr s (n + 1) = sumS pr s n := by rw [sumS, if_neg (by rw [h]; exact Bool.false_ne_true)]
theorem l_sumC {σ : gS} {M : gM} {P T C t s : Nat} {R F : Nat → Nat} (hL : Lay σ P T R) (hT : vT M T C R F) (ht : t < T) (hs : s < 1024) : ∀ k i n, i + k = R t → k < n → l_X10_billBut_39 n (110 + t) (iN s) (sumS (fun r => M 55 (10 * t + r)) s i) (iN i) σ M = some (sumS (fun r => M 55 (10 * t + r)) s (R t)) := by
  have hT6 := hT.1
  have hR := (hL.2.2.2.1.1 t (by omega)).1
  obtain ⟨c1, c2, c3, c4, c5, c6, c7⟩ := (hL.2.2.1.1 t ht).1
  have e1 : M (110 + t) 6 = iN (R t) := (hT.2.2.2.2.2.2.2.2.2.1 t ht).2.2.2.1.trans (hT.2.2.2.2.2.2.2.2.2.2.2.1 t (by omega)).1
  refine up_ind (fun n => ?_) (fun i n hi ih => ?_)
  · rw [l_X10_billBut_39]
    simp (disch := omega) only [li_0, li_1, li_2, li_3, li_4, li_5, li_6, li_7, li_8, li_9, li_10, li_11, li_12, li_13, li_14, li_15, li_16, li_18, li_19, li_20, li_24, li_28, li_29, li_30, li_31, li_32, li_36, li_40, li_41, li_42, li_43, li_45, li_48, li_49, li_50, li_56, li_57, li_59, li_60, li_61, li_62, li_63, li_64, li_97, li_99, li_100, li_120, li_121, li_122, li_255, li_270, li_300, li_400, li_500, li_540, li_1000, li_1024, li_1440, li_9999, li_11264, li_32768, li_268435456, li_1073741824, li_m, li_o, iN_add, iN_mul, iN_lt, iN_in, iN_cl, iN_inj, iM_ne, iM_ne', iN_or, iN_xor, iN_bd, sh31n, iN_shl2, iN_shr2, iN_bit2, Nat.one_mul, oB, iff_t, iff_f, if_true, if_false, g_up_ne, g_up_eq, g_z_ne, g_z_eq, is_of c2, e1]
  · have h2 := hL.2.2.2.1.2.1 t i (by omega) hi
    have h3 := (hT.2.2.2.2.2.2.2.2.2.2.2.2.1 t i (by omega) hi).2.2.1
    rw [l_X10_billBut_39]
    unfold b_X10_billBut_70
    simp (disch := omega) only [li_0, li_1, li_2, li_3, li_4, li_5, li_6, li_7, li_8, li_9, li_10, li_11, li_12, li_13, li_14, li_15, li_16, li_18, li_19, li_20, li_24, li_28, li_29, li_30, li_31, li_32, li_36, li_40, li_41, li_42, li_43, li_45, li_48, li_49, li_50, li_56, li_57, li_59, li_60, li_61, li_62, li_63, li_64, li_97, li_99, li_100, li_120, li_121, li_122, li_255, li_270, li_300, li_400, li_500, li_540, li_1000, li_1024, li_1440, li_9999, li_11264, li_32768, li_268435456, li_1073741824, li_m, li_o, iN_add, iN_mul, iN_lt, iN_in, iN_cl, iN_inj, iM_ne, iM_ne', iN_or, iN_xor, iN_bd, sh31n, iN_shl2, iN_shr2, iN_bit2, Nat.one_mul, oB, iff_t, iff_f, if_true, if_false, g_up_ne, g_up_eq, g_z_ne, g_z_eq, is_of c2, e1, c3, is_of c6, ln_of c6, h2.2, is_of h2.1, h3, bI_0]
    cases h : s.testBit i with
    | false =>
      rw [sumS_f h] at ih
      simp only [if_true]
      exact ih
    | true =>
      rw [sumS_t h] at ih
      simp only [Bool.true_eq_false, if_false]
      exact ih
theorem sum_c {σ : gS} {M : gM} {P T C t s : Nat} {R F : Nat → Nat} (hL : Lay σ P T R) (hT : vT M T C R F) (ht : t < T) (hs : s < 1024) : b_X10_billBut_34 (110 + t) (iN s) σ M = some (sumS (fun r => M 55 (10 * t + r)) s (R t)) := by
  have hR := (hL.2.2.2.1.1 t (by have := hT.1; omega)).1
  unfold b_X10_billBut_34
  exact l_sumC hL hT ht hs (R t) 0 g_FU (by omega) (by unfold g_FU; omega)
theorem l_costM {σ : gS} {M : gM} {P T C t : Nat} {R F : Nat → Nat} (hv : mT M T C R F) (hP : M 40 1 = iN P) (h10 : P ≤ 10) (hn : ∀ p, P ≤ p → p < 10 → M 57 (10 * t + p) = iM) (ht : t < 6) : ∀ k i n, i + k = R t → k < n → l_X12_costOf_4 n (iN t) (sumS (fun r => M 55 (10 * t + r)) (usedS M t 10) i) (iN i) σ M = some (sumS (fun r => M 55 (10 * t + r)) (usedS M t 10) (R t)) := by
  have hR := hv.2.2.2.2.2.2.2.2.2.2 t ht
  have e2 := (hv.2.2.2.2.2.2.2.2.1 t ht).1
  refine up_ind (fun n => ?_) (fun i n hi ih => ?_)
  · rw [l_X12_costOf_4]
    simp (disch := omega) only [li_0, li_1, li_2, li_3, li_4, li_5, li_6, li_7, li_8, li_9, li_10, li_11, li_12, li_13, li_14, li_15, li_16, li_18, li_19, li_20, li_24, li_28, li_29, li_30, li_31, li_32, li_36, li_40, li_41, li_42, li_43, li_45, li_48, li_49, li_50, li_56, li_57, li_59, li_60, li_61, li_62, li_63, li_64, li_97, li_99, li_100, li_120, li_121, li_122, li_255, li_270, li_300, li_400, li_500, li_540, li_1000, li_1024, li_1440, li_9999, li_11264, li_32768, li_268435456, li_1073741824, li_m, li_o, iN_add, iN_mul, iN_lt, iN_in, iN_cl, iN_inj, iM_ne, iM_ne', iN_or, iN_xor, iN_bd, sh31n, iN_shl2, iN_shr2, iN_bit2, Nat.one_mul, oB, iff_t, iff_f, if_true, if_false, g_up_ne, g_up_eq, g_z_ne, g_z_eq, e2]
  · have hlt := inR_lt (M 57) t (iN i)
    have hbit : (usedS M t 10).testBit i = usedF M t i := by rw [usedS_bit, used_iff, decide_eq_true (by omega), Bool.true_and]
    rw [l_X12_costOf_4, setIn_m ht hP h10 hn (fun e => by rw [iM_ne (by omega)] at e; exact e)]
    unfold b_X12_costOf_39
    simp (disch := omega) only [li_0, li_1, li_2, li_3, li_4, li_5, li_6, li_7, li_8, li_9, li_10, li_11, li_12, li_13, li_14, li_15, li_16, li_18, li_19, li_20, li_24, li_28, li_29, li_30, li_31, li_32, li_36, li_40, li_41, li_42, li_43, li_45, li_48, li_49, li_50, li_56, li_57, li_59, li_60, li_61, li_62, li_63, li_64, li_97, li_99, li_100, li_120, li_121, li_122, li_255, li_270, li_300, li_400, li_500, li_540, li_1000, li_1024, li_1440, li_9999, li_11264, li_32768, li_268435456, li_1073741824, li_m, li_o, iN_add, iN_mul, iN_lt, iN_in, iN_cl, iN_inj, iM_ne, iM_ne', iN_or, iN_xor, iN_bd, sh31n, iN_shl2, iN_shr2, iN_bit2, Nat.one_mul, oB, iff_t, iff_f, if_true, if_false, g_up_ne, g_up_eq, g_z_ne, g_z_eq, e2, zI]
    by_cases h : inR (M 57) t (iN i) = 0
    · rw [sumS_f (by rw [hbit]; unfold usedF; rw [decide_eq_true h]; rfl)] at ih
      simp only [h, if_true]
      exact ih
    · rw [sumS_t (by rw [hbit]; unfold usedF; rw [decide_eq_false h]; rfl)] at ih
      simp only [h, if_false]
      exact ih
theorem cost_m {σ : gS} {M : gM} {P T C t : Nat} {R F : Nat → Nat} (hv : mT M T C R F) (hP : M 40 1 = iN P) (h10 : P ≤ 10) (hn : ∀ p, P ≤ p → p < 10 → M 57 (10 * t + p) = iM) (ht : t < 6) : f_X12_costOf (iN t) σ M = some (sumS (fun r => M 55 (10 * t + r)) (usedS M t 10) (R t)) := by
  have hR := hv.2.2.2.2.2.2.2.2.2.2 t ht
  unfold f_X12_costOf b_X12_costOf_0
  exact l_costM hv hP h10 hn ht (R t) 0 g_FU (by omega) (by unfold g_FU; omega)
theorem cost_c {σ : gS} {M : gM} {P T C t : Nat} {R F : Nat → Nat} (hL : Lay σ P T R) (hT : vT M T C R F) (ht : t < T) : f_X10_billBut (110 + t) 0 σ M = some (sumS (fun r => M 55 (10 * t + r)) (usedS M t 10) (R t)) := by
  unfold f_X10_billBut b_X10_billBut_0
  rw [if_pos (by rw [is_of (hL.2.2.1.1 t ht).1.2.1]; trivial), used_c hL hT ht, oB, show g_FU = 99999 + 1 from rfl, l_X10_billBut_7, if_neg (by decide)]
  exact sum_c hL hT ht (usedS_lt _ _ _)
theorem none_P {M : gM} {P t : Nat} (hP : vP M P) (ht : t < 6) : ∀ p, P ≤ p → p < 10 → M 57 (10 * t + p) = iM := fun p h1 h2 => (hP.2.2.2.2.2.2.2.1 p h1 h2).2.2.2.2 t ht
theorem call_townOf {σ : gS} {M : gM} (h : Inv σ M) (x y : Int32) : ∃ r, f_X11_townOf x y σ M = some r ∧ f_X12_townOf x y σ M = some r := by
  obtain ⟨P, T, C, R, F, hL, hP, hT, hD, hN, hB, hK, hC, hX⟩ := h
  have hT6 := hT.1
  have hP10 := hP.1
  have hv := mT.of hL hT (fun _ _ _ _ => rfl)
  unfold f_X11_townOf b_X11_townOf_0 f_X12_townOf b_X12_townOf_0
  rcases idx_or x T (by omega) with ⟨t, ht, rfl⟩ | hx
  · obtain ⟨c1, c2, c3, c4, c5, c6, c7⟩ := (hL.2.2.1.1 t ht).1
    obtain ⟨v1, v2, v3, v4, v5⟩ := hT.2.2.2.2.2.2.2.2.2.1 t ht
    have hR := (hL.2.2.2.1.1 t (by omega)).1
    have ig : g_in (iN t) 6 = true := by rw [iN_in (by omega)]; omega
    obtain ⟨rs, _, _, _, x4, x5, _⟩ := hX.1 t ht
    rw [town_in hL.2.2.1 hT.2.2.2.1 hT6 ht, mtown_in hT.2.2.2.2.1 hT6 ht, oB, oB, if_neg (by omega), if_neg n10', held_c hL hT ht, used_c hL hT ht, ppl_c hL hT ht, cost_c hL hT ht, over_c hL.2.2.1 hT ht, held_m hv (by omega), used_m hv hP.2.2.1 hP10 (none_P hP (by omega)) (by omega), ppl_m hP.2.2.1 hP10 (none_P hP (by omega)) (by omega), cost_m hv hP.2.2.1 hP10 (none_P hP (by omega)) (by omega), over_m hT ht, iN_cl (by omega), c5, v2, v3, v4, x4, x5]
    simp only [is_of c2, is_of (hL.2.2.1.1 t ht).2.1, ig, if_true]
    by_cases k0 : y = 0
    · rw [if_pos k0]; (try rw [if_pos k0]); exact ⟨_, rfl, rfl⟩
    rw [if_neg k0]; (try rw [if_neg k0])
    by_cases k1 : y = 1
    · rw [if_pos k1]; (try rw [if_pos k1]); exact ⟨_, rfl, rfl⟩
    rw [if_neg k1]; (try rw [if_neg k1])
    by_cases k2 : y = 2
    · rw [if_pos k2]; (try rw [if_pos k2]); exact ⟨_, rfl, rfl⟩
    rw [if_neg k2]; (try rw [if_neg k2])
    by_cases k3 : y = 3
    · rw [if_pos k3]; (try rw [if_pos k3]); exact ⟨_, rfl, rfl⟩
    rw [if_neg k3]; (try rw [if_neg k3])
    by_cases k4 : y = 4
    · rw [if_pos k4, if_pos k4, oB, used_bc hT (by omega) hR]; exact ⟨_, rfl, rfl⟩
    rw [if_neg k4]; (try rw [if_neg k4])
    by_cases k5 : y = 5
    · rw [if_pos k5]; (try rw [if_pos k5]); exact ⟨_, rfl, rfl⟩
    rw [if_neg k5]; (try rw [if_neg k5])
    by_cases k6 : y = 6
    · rw [if_pos k6]; (try rw [if_pos k6]); exact ⟨_, rfl, rfl⟩
    rw [if_neg k6]; (try rw [if_neg k6])
    by_cases k7 : y = 7
    · rw [if_pos k7]; (try rw [if_pos k7])
      cases overB F C t <;> exact ⟨_, rfl, rfl⟩
    rw [if_neg k7]; (try rw [if_neg k7])
    by_cases k8 : y = 8
    · rw [if_pos k8]; (try rw [if_pos k8]); exact ⟨_, rfl, rfl⟩
    rw [if_neg k8]; (try rw [if_neg k8])
    exact ⟨_, rfl, rfl⟩
  · rw [town_out hT.2.2.2.1 hT6 hx, mtown_out hT.2.2.2.2.1 hT6 hx]
    exact ⟨_, rfl, rfl⟩
theorem call_roomOf {σ : gS} {M : gM} (h : Inv σ M) (x y z : Int32) : ∃ r, f_X11_roomOf x y z σ M = some r ∧ f_X12_roomOf x y z σ M = some r := by
  obtain ⟨P, T, C, R, F, hL, hP, hT, hD, hN, hB, hK, hC, hX⟩ := h
  have hT6 := hT.1
  have hP10 := hP.1
  unfold f_X11_roomOf b_X11_roomOf_0 b_X11_roomOf_22 f_X12_roomOf b_X12_roomOf_0
  rcases idx_or x T (by omega) with ⟨t, ht, rfl⟩ | hx
  · obtain ⟨c1, c2, c3, c4, c5, c6, c7⟩ := (hL.2.2.1.1 t ht).1
    have hR := (hL.2.2.2.1.1 t (by omega)).1
    rw [town_in hL.2.2.1 hT.2.2.2.1 hT6 ht, mtown_in hT.2.2.2.2.1 hT6 ht, oB, oB, if_neg (by omega), if_neg n10']
    simp only [is_of c2, if_true]
    rcases idx_or y (R t) (by omega) with ⟨r, hr, rfl⟩ | hy
    · obtain ⟨o1, o2⟩ := room_in hL.2.2.1 hL.2.2.2.1 hT ht hr
      obtain ⟨w1, w2, w3, w4⟩ := hT.2.2.2.2.2.2.2.2.2.2.2.2.1 t r (by omega) hr
      have e10 : (10 : Int32) * iN t + iN r = iN (10 * t + r) := by rw [show (10 : Int32) = iN 10 from rfl, iN_mul, iN_add]
      have ig : g_in (iN (10 * t + r)) 60 = true := by rw [iN_in (by omega)]; omega
      rw [o1, o2, oB, oB, if_neg (by omega), if_neg n10', guests_c hL.2.2.1 ht (hT.2.2.2.2.2.2.2.2.2.1 t ht), setIn_m (by omega) hP.2.2.1 hP10 (none_P hP (by omega)) (fun e => by rw [iM_ne (by omega)] at e; exact e), e10, w1, w2, w3, w4]
      simp only [is_of (hL.2.2.2.1.2.1 t r (by omega) hr).1, ig, if_true]
      rw [iN_cl (by omega)]
      by_cases k0 : z = 0
      · rw [if_pos k0]; (try rw [if_pos k0]); exact ⟨_, rfl, rfl⟩
      rw [if_neg k0]; (try rw [if_neg k0])
      by_cases k1 : z = 1
      · rw [if_pos k1]; (try rw [if_pos k1])
        rcases (hT.2.2.2.2.2.2.2.2.2.2.2.2.2 t r (by omega) hr).1 with q | q <;> (rw [q]; exact ⟨_, rfl, rfl⟩)
      rw [if_neg k1]; (try rw [if_neg k1])
      by_cases k2 : z = 2
      · rw [if_pos k2]; (try rw [if_pos k2]); exact ⟨_, rfl, rfl⟩
      rw [if_neg k2]; (try rw [if_neg k2])
      by_cases k3 : z = 3
      · rw [if_pos k3]; (try rw [if_pos k3])
        rcases (hT.2.2.2.2.2.2.2.2.2.2.2.2.2 t r (by omega) hr).2.1 with q | q <;> (rw [q]; exact ⟨_, rfl, rfl⟩)
      rw [if_neg k3]; (try rw [if_neg k3])
      by_cases k4 : z = 4
      · rw [if_pos k4]; (try rw [if_pos k4]); exact ⟨_, rfl, rfl⟩
      rw [if_neg k4]; (try rw [if_neg k4])
      exact ⟨_, rfl, rfl⟩
    · obtain ⟨o1, o2⟩ := room_out hL.2.2.1 hL.2.2.2.1 hT ht hy
      rw [o1, o2]
      exact ⟨_, rfl, rfl⟩
  · rw [town_out hT.2.2.2.1 hT6 hx, mtown_out hT.2.2.2.2.1 hT6 hx]
    exact ⟨_, rfl, rfl⟩
theorem l_sharersC {σ : gS} {M : gM} {P p : Nat} (hs : lyP σ P) (hP : vP M P) (hp : p < P) : ∀ k i n, i + k = P → k < n → l_X5_sharersFor_4 n (iN p) (iN (cf (fun q => !decide (q = p) && decide (M 47 q = iN 0) && shareB M p q) i)) (iN i) σ M = some (iN (cf (fun q => !decide (q = p) && decide (M 47 q = iN 0) && shareB M p q) P)) := by
  have hP10 := hP.1
  refine up_ind (fun n => ?_) (fun i n hi ih => ?_)
  · rw [l_X5_sharersFor_4]
    simp (disch := omega) only [li_0, li_1, li_2, li_3, li_4, li_5, li_6, li_7, li_8, li_9, li_10, li_11, li_12, li_13, li_14, li_15, li_16, li_18, li_19, li_20, li_24, li_28, li_29, li_30, li_31, li_32, li_36, li_40, li_41, li_42, li_43, li_45, li_48, li_49, li_50, li_56, li_57, li_59, li_60, li_61, li_62, li_63, li_64, li_97, li_99, li_100, li_120, li_121, li_122, li_255, li_270, li_300, li_400, li_500, li_540, li_1000, li_1024, li_1440, li_9999, li_11264, li_32768, li_268435456, li_1073741824, li_m, li_o, iN_add, iN_mul, iN_lt, iN_in, iN_cl, iN_inj, iM_ne, iM_ne', iN_or, iN_xor, iN_bd, sh31n, iN_shl2, iN_shr2, iN_bit2, Nat.one_mul, oB, iff_t, iff_f, if_true, if_false, g_up_ne, g_up_eq, g_z_ne, g_z_eq, hP.2.1]
  · obtain ⟨_, _, _, _, _, _, a6, a7, _⟩ := hP.2.2.2.1 i hi
    have hsh : f_X5_mayShare (iN p) (iN i) σ M = some (bI (!decide (i = p) && shareB M p i)) := by
      by_cases e : i = p
      · subst e
        unfold f_X5_mayShare b_X5_mayShare_0
        rw [at_in hs hP.2.1 hP10 hi, oB, oB, if_neg (by omega), if_neg (by omega), if_pos rfl, decide_eq_true rfl]
        rfl
      · rw [share_c hs hP hp hi (fun e2 => e e2.symm), decide_eq_false e, Bool.not_false, Bool.true_and]
    rw [l_X5_sharersFor_4]
    unfold b_X5_sharersFor_36
    simp (disch := omega) only [li_0, li_1, li_2, li_3, li_4, li_5, li_6, li_7, li_8, li_9, li_10, li_11, li_12, li_13, li_14, li_15, li_16, li_18, li_19, li_20, li_24, li_28, li_29, li_30, li_31, li_32, li_36, li_40, li_41, li_42, li_43, li_45, li_48, li_49, li_50, li_56, li_57, li_59, li_60, li_61, li_62, li_63, li_64, li_97, li_99, li_100, li_120, li_121, li_122, li_255, li_270, li_300, li_400, li_500, li_540, li_1000, li_1024, li_1440, li_9999, li_11264, li_32768, li_268435456, li_1073741824, li_m, li_o, iN_add, iN_mul, iN_lt, iN_in, iN_cl, iN_inj, iM_ne, iM_ne', iN_or, iN_xor, iN_bd, sh31n, iN_shl2, iN_shr2, iN_bit2, Nat.one_mul, oB, iff_t, iff_f, if_true, if_false, g_up_ne, g_up_eq, g_z_ne, g_z_eq, hP.2.1, (hs.1 i hi).2, is_of (hs.1 i hi).1, a6, hsh, bI_0]
    by_cases h : M 47 i = iN 0
    · simp only [h, if_true]
      cases hc : (!decide (i = p) && shareB M p i) with
      | false =>
        rw [cf_f (by rw [decide_eq_true h, Bool.and_true]; exact hc)] at ih
        simp only [if_true]
        exact ih
      | true =>
        rw [cf_t (by rw [decide_eq_true h, Bool.and_true]; exact hc)] at ih
        simp only [Bool.true_eq_false, if_false]
        exact ih
    · rw [cf_f (by rw [decide_eq_false h, Bool.and_false, Bool.false_and])] at ih
      simp only [h, if_false]
      exact ih
theorem l_sharersM {σ : gS} {M : gM} {P p : Nat} (hP : M 40 1 = iN P) (h10 : P ≤ 10) (hp : p < P) : ∀ k i n, i + k = P → k < n → l_X12_personOf_145 n (iN p) (iN (cf (fun q => !decide (q = p) && decide (M 47 q = iN 0) && shareB M p q) i)) (iN i) σ M = some (iN (cf (fun q => !decide (q = p) && decide (M 47 q = iN 0) && shareB M p q) P)) := by
  refine up_ind (fun n => ?_) (fun i n hi ih => ?_)
  · rw [l_X12_personOf_145]
    simp (disch := omega) only [li_0, li_1, li_2, li_3, li_4, li_5, li_6, li_7, li_8, li_9, li_10, li_11, li_12, li_13, li_14, li_15, li_16, li_18, li_19, li_20, li_24, li_28, li_29, li_30, li_31, li_32, li_36, li_40, li_41, li_42, li_43, li_45, li_48, li_49, li_50, li_56, li_57, li_59, li_60, li_61, li_62, li_63, li_64, li_97, li_99, li_100, li_120, li_121, li_122, li_255, li_270, li_300, li_400, li_500, li_540, li_1000, li_1024, li_1440, li_9999, li_11264, li_32768, li_268435456, li_1073741824, li_m, li_o, iN_add, iN_mul, iN_lt, iN_in, iN_cl, iN_inj, iM_ne, iM_ne', iN_or, iN_xor, iN_bd, sh31n, iN_shl2, iN_shr2, iN_bit2, Nat.one_mul, oB, iff_t, iff_f, if_true, if_false, g_up_ne, g_up_eq, g_z_ne, g_z_eq, hP]
  · rw [l_X12_personOf_145]
    unfold b_X12_personOf_185 b_X12_personOf_186
    simp (disch := omega) only [li_0, li_1, li_2, li_3, li_4, li_5, li_6, li_7, li_8, li_9, li_10, li_11, li_12, li_13, li_14, li_15, li_16, li_18, li_19, li_20, li_24, li_28, li_29, li_30, li_31, li_32, li_36, li_40, li_41, li_42, li_43, li_45, li_48, li_49, li_50, li_56, li_57, li_59, li_60, li_61, li_62, li_63, li_64, li_97, li_99, li_100, li_120, li_121, li_122, li_255, li_270, li_300, li_400, li_500, li_540, li_1000, li_1024, li_1440, li_9999, li_11264, li_32768, li_268435456, li_1073741824, li_m, li_o, iN_add, iN_mul, iN_lt, iN_in, iN_cl, iN_inj, iM_ne, iM_ne', iN_or, iN_xor, iN_bd, sh31n, iN_shl2, iN_shr2, iN_bit2, Nat.one_mul, oB, iff_t, iff_f, if_true, if_false, g_up_ne, g_up_eq, g_z_ne, g_z_eq, hP, share_m (σ := σ) (M := M) (show p < 10 by omega) (show i < 10 by omega), bI_0]
    by_cases e : i = p
    · rw [cf_f (by rw [decide_eq_true e]; rfl)] at ih
      simp only [e, if_true]
      rw [e] at ih
      exact ih
    · simp only [e, if_false]
      by_cases h : M 47 i = iN 0
      · simp only [h, if_true]
        cases hc : shareB M p i with
        | false =>
          rw [cf_f (by rw [hc, Bool.and_false])] at ih
          simp only [if_true]
          exact ih
        | true =>
          rw [cf_t (by rw [hc, decide_eq_true h, decide_eq_false e]; rfl)] at ih
          simp only [Bool.true_eq_false, if_false]
          exact ih
      · rw [cf_f (by rw [decide_eq_false h, Bool.and_false, Bool.false_and])] at ih
        simp only [h, if_false]
        exact ih
theorem call_personOf {σ : gS} {M : gM} (h : Inv σ M) (x y : Int32) : ∃ r, f_X11_personOf x y σ M = some r ∧ f_X12_personOf x y σ M = some r := by
  obtain ⟨P, T, C, R, F, hL, hP, hT, hD, hN, hB, hK, hC, hX⟩ := h
  have hP10 := hP.1
  unfold f_X11_personOf b_X11_personOf_0 f_X12_personOf b_X12_personOf_0
  rcases idx_or x P (by omega) with ⟨p, hp, rfl⟩ | hx
  · obtain ⟨w0, w1, w2, w3, w4, w5, w6, w7, w8⟩ := hP.2.2.2.1 p hp
    obtain ⟨b1, b2, b3, _⟩ := hP.2.2.2.2.1 p hp
    have ig : g_in (iN p) 10 = true := by rw [iN_in (by omega)]; omega
    rw [at_in hL.2.1 hP.2.1 hP10 hp, pers_in hP.2.2.1 hP10 hp, oB, oB, if_neg (by omega), if_neg n10', w0, w1, w2, w3, w4, w5, w6, w7]
    simp only [is_of (hL.2.1.1 p hp).1, ig, if_true]
    rw [iN_cl (by omega)]
    have s1 : f_X5_sharersFor (iN p) σ M = some (iN (cf (fun q => !decide (q = p) && decide (M 47 q = iN 0) && shareB M p q) P)) := by
      unfold f_X5_sharersFor b_X5_sharersFor_0
      exact l_sharersC hL.2.1 hP hp P 0 g_FU (by omega) (by unfold g_FU; omega)
    have s2 : l_X12_personOf_145 g_FU (iN p) 0 0 σ M = some (iN (cf (fun q => !decide (q = p) && decide (M 47 q = iN 0) && shareB M p q) P)) := l_sharersM hP.2.2.1 hP10 hp P 0 g_FU (by omega) (by unfold g_FU; omega)
    rw [s1, s2]
    by_cases k0 : y = 0
    · rw [if_pos k0]; (try rw [if_pos k0])
      rcases b1 with q | q <;> (rw [q]; exact ⟨_, rfl, rfl⟩)
    rw [if_neg k0]; (try rw [if_neg k0])
    by_cases k1 : y = 1
    · rw [if_pos k1]; (try rw [if_pos k1]); exact ⟨_, rfl, rfl⟩
    rw [if_neg k1]; (try rw [if_neg k1])
    by_cases k2 : y = 2
    · rw [if_pos k2]; (try rw [if_pos k2])
      rcases b2 with q | q <;> (rw [q]; exact ⟨_, rfl, rfl⟩)
    rw [if_neg k2]; (try rw [if_neg k2])
    by_cases k3 : y = 3
    · rw [if_pos k3]; (try rw [if_pos k3]); exact ⟨_, rfl, rfl⟩
    rw [if_neg k3]; (try rw [if_neg k3])
    by_cases k4 : y = 4
    · rw [if_pos k4]; (try rw [if_pos k4]); exact ⟨_, rfl, rfl⟩
    rw [if_neg k4]; (try rw [if_neg k4])
    by_cases k5 : y = 5
    · rw [if_pos k5]; (try rw [if_pos k5]); exact ⟨_, rfl, rfl⟩
    rw [if_neg k5]; (try rw [if_neg k5])
    by_cases k6 : y = 6
    · rw [if_pos k6]; (try rw [if_pos k6])
      rcases b3 with q | q <;> (rw [q]; exact ⟨_, rfl, rfl⟩)
    rw [if_neg k6]; (try rw [if_neg k6])
    by_cases k7 : y = 7
    · rw [if_pos k7]; (try rw [if_pos k7]); exact ⟨_, rfl, rfl⟩
    rw [if_neg k7]; (try rw [if_neg k7])
    by_cases k8 : y = 8
    · rw [if_pos k8]; (try rw [if_pos k8]); exact ⟨_, rfl, rfl⟩
    rw [if_neg k8]; (try rw [if_neg k8])
    exact ⟨_, rfl, rfl⟩
  · rw [at_out hP.2.1 hP10 hx, pers_out hP.2.2.1 hP10 hx]
    exact ⟨_, rfl, rfl⟩
theorem l_mealsC {σ : gS} {M : gM} {P T C t d : Nat} {R F : Nat → Nat} (hL : Lay σ P T R) (hP : vP M P) (hT : vT M T C R F) (ht : t < T) : ∀ k i n, i + k = P → k < n → l_X5_eaters_5 n (110 + t) (iN d) (iN (cf (fun p => pplF M t p && decide (M 44 p = iN d)) i)) (iN i) σ M = some (iN (cf (fun p => pplF M t p && decide (M 44 p = iN d)) P)) := by
  have hP10 := hP.1
  refine up_ind (fun n => ?_) (fun i n hi ih => ?_)
  · rw [l_X5_eaters_5]
    simp (disch := omega) only [li_0, li_1, li_2, li_3, li_4, li_5, li_6, li_7, li_8, li_9, li_10, li_11, li_12, li_13, li_14, li_15, li_16, li_18, li_19, li_20, li_24, li_28, li_29, li_30, li_31, li_32, li_36, li_40, li_41, li_42, li_43, li_45, li_48, li_49, li_50, li_56, li_57, li_59, li_60, li_61, li_62, li_63, li_64, li_97, li_99, li_100, li_120, li_121, li_122, li_255, li_270, li_300, li_400, li_500, li_540, li_1000, li_1024, li_1440, li_9999, li_11264, li_32768, li_268435456, li_1073741824, li_m, li_o, iN_add, iN_mul, iN_lt, iN_in, iN_cl, iN_inj, iM_ne, iM_ne', iN_or, iN_xor, iN_bd, sh31n, iN_shl2, iN_shr2, iN_bit2, Nat.one_mul, oB, iff_t, iff_f, if_true, if_false, g_up_ne, g_up_eq, g_z_ne, g_z_eq, hP.2.1]
  · have a3 := (hP.2.2.2.1 i hi).2.2.2.1
    rw [l_X5_eaters_5, guest_c hL.2.2.1 ht (hT.2.2.2.2.2.2.2.2.2.1 t ht) (by omega)]
    unfold b_X5_eaters_41
    simp (disch := omega) only [li_0, li_1, li_2, li_3, li_4, li_5, li_6, li_7, li_8, li_9, li_10, li_11, li_12, li_13, li_14, li_15, li_16, li_18, li_19, li_20, li_24, li_28, li_29, li_30, li_31, li_32, li_36, li_40, li_41, li_42, li_43, li_45, li_48, li_49, li_50, li_56, li_57, li_59, li_60, li_61, li_62, li_63, li_64, li_97, li_99, li_100, li_120, li_121, li_122, li_255, li_270, li_300, li_400, li_500, li_540, li_1000, li_1024, li_1440, li_9999, li_11264, li_32768, li_268435456, li_1073741824, li_m, li_o, iN_add, iN_mul, iN_lt, iN_in, iN_cl, iN_inj, iM_ne, iM_ne', iN_or, iN_xor, iN_bd, sh31n, iN_shl2, iN_shr2, iN_bit2, Nat.one_mul, oB, iff_t, iff_f, if_true, if_false, g_up_ne, g_up_eq, g_z_ne, g_z_eq, hP.2.1, is_of (hL.2.2.1.1 t ht).1.2.1, (hL.2.1.1 i hi).2, is_of (hL.2.1.1 i hi).1, a3]
    by_cases h : M 57 (10 * t + i) = iM
    · rw [cf_f (by unfold pplF; rw [decide_eq_true h]; rfl)] at ih
      simp only [h, if_true]
      exact ih
    · simp only [h, if_false]
      by_cases h2 : M 44 i = iN d
      · rw [cf_t (by unfold pplF; rw [decide_eq_false h, decide_eq_true h2]; rfl)] at ih
        simp only [h2, if_true]
        exact ih
      · rw [cf_f (by rw [decide_eq_false h2, Bool.and_false])] at ih
        simp only [h2, if_false]
        exact ih
theorem l_mealsM {σ : gS} {M : gM} {P t d : Nat} (hP : M 40 1 = iN P) (h10 : P ≤ 10) (ht : t < 6) : ∀ k i n, i + k = P → k < n → l_X12_meals_24 n (iN t) (iN d) (iN (cf (fun p => pplF M t p && decide (M 44 p = iN d)) i)) (iN i) σ M = some (iN (cf (fun p => pplF M t p && decide (M 44 p = iN d)) P)) := by
  refine up_ind (fun n => ?_) (fun i n hi ih => ?_)
  · rw [l_X12_meals_24]
    simp (disch := omega) only [li_0, li_1, li_2, li_3, li_4, li_5, li_6, li_7, li_8, li_9, li_10, li_11, li_12, li_13, li_14, li_15, li_16, li_18, li_19, li_20, li_24, li_28, li_29, li_30, li_31, li_32, li_36, li_40, li_41, li_42, li_43, li_45, li_48, li_49, li_50, li_56, li_57, li_59, li_60, li_61, li_62, li_63, li_64, li_97, li_99, li_100, li_120, li_121, li_122, li_255, li_270, li_300, li_400, li_500, li_540, li_1000, li_1024, li_1440, li_9999, li_11264, li_32768, li_268435456, li_1073741824, li_m, li_o, iN_add, iN_mul, iN_lt, iN_in, iN_cl, iN_inj, iM_ne, iM_ne', iN_or, iN_xor, iN_bd, sh31n, iN_shl2, iN_shr2, iN_bit2, Nat.one_mul, oB, iff_t, iff_f, if_true, if_false, g_up_ne, g_up_eq, g_z_ne, g_z_eq, hP]
  · rw [l_X12_meals_24]
    unfold b_X12_meals_65 b_X12_meals_66
    simp (disch := omega) only [li_0, li_1, li_2, li_3, li_4, li_5, li_6, li_7, li_8, li_9, li_10, li_11, li_12, li_13, li_14, li_15, li_16, li_18, li_19, li_20, li_24, li_28, li_29, li_30, li_31, li_32, li_36, li_40, li_41, li_42, li_43, li_45, li_48, li_49, li_50, li_56, li_57, li_59, li_60, li_61, li_62, li_63, li_64, li_97, li_99, li_100, li_120, li_121, li_122, li_255, li_270, li_300, li_400, li_500, li_540, li_1000, li_1024, li_1440, li_9999, li_11264, li_32768, li_268435456, li_1073741824, li_m, li_o, iN_add, iN_mul, iN_lt, iN_in, iN_cl, iN_inj, iM_ne, iM_ne', iN_or, iN_xor, iN_bd, sh31n, iN_shl2, iN_shr2, iN_bit2, Nat.one_mul, oB, iff_t, iff_f, if_true, if_false, g_up_ne, g_up_eq, g_z_ne, g_z_eq, hP]
    by_cases h : M 57 (10 * t + i) = iM
    · rw [cf_f (by unfold pplF; rw [decide_eq_true h]; rfl)] at ih
      simp only [h, if_true]
      exact ih
    · simp only [h, if_false]
      by_cases h2 : M 44 i = iN d
      · rw [cf_t (by unfold pplF; rw [decide_eq_false h, decide_eq_true h2]; rfl)] at ih
        simp only [h2, if_true]
        exact ih
      · rw [cf_f (by rw [decide_eq_false h2, Bool.and_false])] at ih
        simp only [h2, if_false]
        exact ih
theorem call_meals {σ : gS} {M : gM} (h : Inv σ M) (x y : Int32) : ∃ r, f_X11_meals x y σ M = some r ∧ f_X12_meals x y σ M = some r := by
  obtain ⟨P, T, C, R, F, hL, hP, hT, hD, hN, hB, hK, hC, hX⟩ := h
  have hT6 := hT.1
  have hP10 := hP.1
  unfold f_X11_meals b_X11_meals_0 b_X11_meals_19 f_X12_meals b_X12_meals_0
  rcases idx_or x T (by omega) with ⟨t, ht, rfl⟩ | hx
  · rw [town_in hL.2.2.1 hT.2.2.2.1 hT6 ht, mtown_in hT.2.2.2.2.1 hT6 ht, oB, oB, if_neg (by omega), if_neg n10', w_in, show (0 : Int32) = iN 0 from rfl, show (3 : Int32) = iN 3 from rfl]
    rcases in_cases y (a := 0) (b := 3) (by omega) (by omega) with ⟨d, rfl, _, hd, e⟩ | ⟨e, _⟩
    · have s1 : f_X5_eaters (110 + t) (iN d) σ M = _ := l_mealsC hL hP hT ht P 0 g_FU (by omega) (by unfold g_FU; omega)
      have s2 := l_mealsM (σ := σ) (d := d) hP.2.2.1 hP10 (show t < 6 by omega) P 0 g_FU (by omega) (by unfold g_FU; omega)
      rw [e, oB, oB, if_neg n10, if_neg n10, s1]
      exact ⟨_, rfl, s2⟩
    · rw [e]
      exact ⟨_, rfl, rfl⟩
  · rw [town_out hT.2.2.2.1 hT6 hx, mtown_out hT.2.2.2.2.1 hT6 hx]
    exact ⟨_, rfl, rfl⟩
