/-! Counting rooms and people. -/
theorem cnt_cf (s n : Nat) : cnt s n = cf (fun i => s.testBit i) n := by
  induction n with
  | zero => rfl
  | succ n ih => rw [cnt, cf, ih]
theorem cf_congr {f g : Nat → Bool} {n : Nat} (h : ∀ i, i < n → f i = g i) : cf f n = cf g n := by
  induction n with
  | zero => rfl
  | succ n ih => rw [cf, cf, h n (by omega), ih (fun i hi => h i (by omega))]
theorem cf_more {f : Nat → Bool} {n m : Nat} (hm : n ≤ m) (h : ∀ p, n ≤ p → p < m → f p = false) : cf f m = cf f n := by
  induction m with
  | zero => rw [show n = 0 by omega]
  | succ m ih =>
    by_cases hn : n = m + 1
    · subst hn; rfl
    · rw [cf_f (h m (by omega) (by omega))]
      exact ih (by omega) (fun p h1 h2 => h p h1 (by omega))
theorem cf_not (f : Nat → Bool) (n : Nat) : cf f n + cf (fun i => !f i) n = n := by
  induction n with
  | zero => rfl
  | succ n ih =>
    rw [cf, cf]
    cases f n <;> simp <;> omega
theorem zI (x : Int32) : x + iN 0 = x := Int32.add_zero x
def heldF (M : gM) (t r : Nat) : Bool := !decide (M 56 (10 * t + r) = iN 0)
def usedF (M : gM) (t r : Nat) : Bool := !decide (inR (M 57) t (iN r) = 0)
def pplF (M : gM) (t p : Nat) : Bool := !decide (M 57 (10 * t + p) = iM)
theorem l_heldC {σ : gS} {M : gM} {P T C t : Nat} {R F : Nat → Nat} (hL : Lay σ P T R) (hT : vT M T C R F) (ht : t < T) : ∀ k i n, i + k = R t → k < n → l_X10_heldRooms_4 n (110 + t) (iN (cf (heldF M t) i)) (iN i) σ M = some (iN (cf (heldF M t) (R t))) := by
  have hT6 := hT.1
  have hR := (hL.2.2.2.1.1 t (by omega)).1
  obtain ⟨c1, c2, c3, c4, c5, c6, c7⟩ := (hL.2.2.1.1 t ht).1
  have e1 : M (110 + t) 6 = iN (R t) := (hT.2.2.2.2.2.2.2.2.2.1 t ht).2.2.2.1.trans (hT.2.2.2.2.2.2.2.2.2.2.2.1 t (by omega)).1
  refine up_ind (fun n => ?_) (fun i n hi ih => ?_)
  · rw [l_X10_heldRooms_4]
    simp (disch := omega) only [li_0, li_1, li_2, li_3, li_4, li_5, li_6, li_7, li_8, li_9, li_10, li_11, li_12, li_13, li_14, li_15, li_16, li_18, li_19, li_20, li_24, li_28, li_29, li_30, li_31, li_32, li_36, li_40, li_41, li_42, li_43, li_45, li_48, li_49, li_50, li_56, li_57, li_59, li_60, li_61, li_62, li_63, li_64, li_97, li_99, li_100, li_120, li_121, li_122, li_255, li_270, li_300, li_400, li_500, li_540, li_1000, li_1024, li_1440, li_9999, li_11264, li_32768, li_268435456, li_1073741824, li_m, li_o, iN_add, iN_mul, iN_lt, iN_in, iN_cl, iN_inj, iM_ne, iM_ne', iN_or, iN_xor, iN_bd, sh31n, iN_shl2, iN_shr2, iN_bit2, Nat.one_mul, oB, iff_t, iff_f, if_true, if_false, g_up_ne, g_up_eq, g_z_ne, g_z_eq, is_of c2, e1]
  · have h2 := hL.2.2.2.1.2.1 t i (by omega) hi
    have h3 := (hT.2.2.2.2.2.2.2.2.2.2.2.2.1 t i (by omega) hi).2.2.2
    rw [l_X10_heldRooms_4]
    unfold b_X10_heldRooms_27
    simp (disch := omega) only [li_0, li_1, li_2, li_3, li_4, li_5, li_6, li_7, li_8, li_9, li_10, li_11, li_12, li_13, li_14, li_15, li_16, li_18, li_19, li_20, li_24, li_28, li_29, li_30, li_31, li_32, li_36, li_40, li_41, li_42, li_43, li_45, li_48, li_49, li_50, li_56, li_57, li_59, li_60, li_61, li_62, li_63, li_64, li_97, li_99, li_100, li_120, li_121, li_122, li_255, li_270, li_300, li_400, li_500, li_540, li_1000, li_1024, li_1440, li_9999, li_11264, li_32768, li_268435456, li_1073741824, li_m, li_o, iN_add, iN_mul, iN_lt, iN_in, iN_cl, iN_inj, iM_ne, iM_ne', iN_or, iN_xor, iN_bd, sh31n, iN_shl2, iN_shr2, iN_bit2, Nat.one_mul, oB, iff_t, iff_f, if_true, if_false, g_up_ne, g_up_eq, g_z_ne, g_z_eq, is_of c2, e1, c3, is_of c6, ln_of c6, h2.2, is_of h2.1, h3]
    by_cases h : M 56 (10 * t + i) = iN 0
    · rw [cf_f (by unfold heldF; rw [decide_eq_true h]; rfl)] at ih
      simp only [h, if_true]
      exact ih
    · rw [cf_t (by unfold heldF; rw [decide_eq_false h]; rfl)] at ih
      simp only [h, if_false]
      exact ih
theorem held_c {σ : gS} {M : gM} {P T C t : Nat} {R F : Nat → Nat} (hL : Lay σ P T R) (hT : vT M T C R F) (ht : t < T) : f_X10_heldRooms (110 + t) σ M = some (iN (cf (heldF M t) (R t))) := by
  have hR := (hL.2.2.2.1.1 t (by have := hT.1; omega)).1
  unfold f_X10_heldRooms b_X10_heldRooms_0
  exact l_heldC hL hT ht (R t) 0 g_FU (by omega) (by unfold g_FU; omega)
theorem l_heldM {σ : gS} {M : gM} {T C t : Nat} {R F : Nat → Nat} (hv : mT M T C R F) (ht : t < 6) : ∀ k i n, i + k = R t → k < n → l_X12_heldIn_4 n (iN t) (iN (cf (heldF M t) i)) (iN i) σ M = some (iN (cf (heldF M t) (R t))) := by
  have hR := hv.2.2.2.2.2.2.2.2.2.2 t ht
  have e2 := (hv.2.2.2.2.2.2.2.2.1 t ht).1
  refine up_ind (fun n => ?_) (fun i n hi ih => ?_)
  · rw [l_X12_heldIn_4]
    simp (disch := omega) only [li_0, li_1, li_2, li_3, li_4, li_5, li_6, li_7, li_8, li_9, li_10, li_11, li_12, li_13, li_14, li_15, li_16, li_18, li_19, li_20, li_24, li_28, li_29, li_30, li_31, li_32, li_36, li_40, li_41, li_42, li_43, li_45, li_48, li_49, li_50, li_56, li_57, li_59, li_60, li_61, li_62, li_63, li_64, li_97, li_99, li_100, li_120, li_121, li_122, li_255, li_270, li_300, li_400, li_500, li_540, li_1000, li_1024, li_1440, li_9999, li_11264, li_32768, li_268435456, li_1073741824, li_m, li_o, iN_add, iN_mul, iN_lt, iN_in, iN_cl, iN_inj, iM_ne, iM_ne', iN_or, iN_xor, iN_bd, sh31n, iN_shl2, iN_shr2, iN_bit2, Nat.one_mul, oB, iff_t, iff_f, if_true, if_false, g_up_ne, g_up_eq, g_z_ne, g_z_eq, e2]
  · rw [l_X12_heldIn_4]
    unfold b_X12_heldIn_34
    simp (disch := omega) only [li_0, li_1, li_2, li_3, li_4, li_5, li_6, li_7, li_8, li_9, li_10, li_11, li_12, li_13, li_14, li_15, li_16, li_18, li_19, li_20, li_24, li_28, li_29, li_30, li_31, li_32, li_36, li_40, li_41, li_42, li_43, li_45, li_48, li_49, li_50, li_56, li_57, li_59, li_60, li_61, li_62, li_63, li_64, li_97, li_99, li_100, li_120, li_121, li_122, li_255, li_270, li_300, li_400, li_500, li_540, li_1000, li_1024, li_1440, li_9999, li_11264, li_32768, li_268435456, li_1073741824, li_m, li_o, iN_add, iN_mul, iN_lt, iN_in, iN_cl, iN_inj, iM_ne, iM_ne', iN_or, iN_xor, iN_bd, sh31n, iN_shl2, iN_shr2, iN_bit2, Nat.one_mul, oB, iff_t, iff_f, if_true, if_false, g_up_ne, g_up_eq, g_z_ne, g_z_eq, e2]
    by_cases h : M 56 (10 * t + i) = iN 0
    · rw [cf_f (by unfold heldF; rw [decide_eq_true h]; rfl)] at ih
      simp only [h, if_true]
      exact ih
    · rw [cf_t (by unfold heldF; rw [decide_eq_false h]; rfl)] at ih
      simp only [h, if_false]
      exact ih
theorem held_m {σ : gS} {M : gM} {T C t : Nat} {R F : Nat → Nat} (hv : mT M T C R F) (ht : t < 6) : f_X12_heldIn (iN t) σ M = some (iN (cf (heldF M t) (R t))) := by
  have hR := hv.2.2.2.2.2.2.2.2.2.2 t ht
  unfold f_X12_heldIn b_X12_heldIn_0
  exact l_heldM hv ht (R t) 0 g_FU (by omega) (by unfold g_FU; omega)
/-- the rooms with somebody, as bits -/
noncomputable def usedS (M : gM) (t i : Nat) : Nat := setOf (fun r => bP (∃ p, p < i ∧ M 57 (10 * t + p) = iN r)) 10
theorem usedS_lt (M : gM) (t i : Nat) : usedS M t i < 1024 := setOf_lt _ 10
theorem usedS_bit (M : gM) (t i r : Nat) : (usedS M t i).testBit r = (decide (r < 10) && bP (∃ p, p < i ∧ M 57 (10 * t + p) = iN r)) := setOf_bit _ _ _
theorem usedS_same {M : gM} {t i : Nat} (h : M 57 (10 * t + i) = iM) : usedS M t (i + 1) = usedS M t i := by
  apply Nat.eq_of_testBit_eq
  intro r
  rw [usedS_bit, usedS_bit]
  by_cases hr : r < 10
  · congr 1
    apply bP_iff
    constructor
    · rintro ⟨p, h1, h2⟩
      refine ⟨p, ?_, h2⟩
      by_cases e : p = i
      · subst e; rw [h, iM_ne' (by omega)] at h2; exact h2.elim
      · omega
    · rintro ⟨p, h1, h2⟩; exact ⟨p, by omega, h2⟩
  · rw [decide_eq_false hr, Bool.false_and, Bool.false_and]
theorem usedS_or {M : gM} {t i r0 : Nat} (hr0 : r0 < 10) (h : M 57 (10 * t + i) = iN r0) : usedS M t (i + 1) = usedS M t i ||| 2 ^ r0 := by
  apply Nat.eq_of_testBit_eq
  intro r
  rw [or_bit, usedS_bit, usedS_bit]
  by_cases hr : r < 10
  · rw [decide_eq_true hr, Bool.true_and, Bool.true_and]
    by_cases e : r0 = r
    · subst e
      rw [bP_t ⟨i, by omega, h⟩, decide_eq_true rfl, Bool.or_true]
    · rw [decide_eq_false e, Bool.or_false]
      apply bP_iff
      constructor
      · rintro ⟨p, h1, h2⟩
        refine ⟨p, ?_, h2⟩
        by_cases e2 : p = i
        · subst e2; rw [h, iN_inj (by omega) (by omega)] at h2; omega
        · omega
      · rintro ⟨p, h1, h2⟩; exact ⟨p, by omega, h2⟩
  · rw [decide_eq_false hr, Bool.false_and, Bool.false_and, decide_eq_false (by omega)]; rfl
theorem l_usedC {σ : gS} {M : gM} {P T C t : Nat} {R F : Nat → Nat} (hL : Lay σ P T R) (hT : vT M T C R F) (ht : t < T) : ∀ k i n, i + k = 10 → k < n → l_X10_usedRooms_4 n (110 + t) (iN (usedS M t i)) (iN i) σ M = some (iN (usedS M t 10)) := by
  have hT6 := hT.1
  have hR := (hL.2.2.2.1.1 t (by omega)).1
  obtain ⟨c1, c2, c3, c4, c5, c6, c7⟩ := (hL.2.2.1.1 t ht).1
  have v1 := (hT.2.2.2.2.2.2.2.2.2.1 t ht).2.2.2.2
  refine up_ind (fun n => ?_) (fun i n hi ih => ?_)
  · rw [l_X10_usedRooms_4]
    simp (disch := omega) only [li_0, li_1, li_2, li_3, li_4, li_5, li_6, li_7, li_8, li_9, li_10, li_11, li_12, li_13, li_14, li_15, li_16, li_18, li_19, li_20, li_24, li_28, li_29, li_30, li_31, li_32, li_36, li_40, li_41, li_42, li_43, li_45, li_48, li_49, li_50, li_56, li_57, li_59, li_60, li_61, li_62, li_63, li_64, li_97, li_99, li_100, li_120, li_121, li_122, li_255, li_270, li_300, li_400, li_500, li_540, li_1000, li_1024, li_1440, li_9999, li_11264, li_32768, li_268435456, li_1073741824, li_m, li_o, iN_add, iN_mul, iN_lt, iN_in, iN_cl, iN_inj, iM_ne, iM_ne', iN_or, iN_xor, iN_bd, sh31n, iN_shl2, iN_shr2, iN_bit2, Nat.one_mul, oB, iff_t, iff_f, if_true, if_false, g_up_ne, g_up_eq, g_z_ne, g_z_eq]
  · rw [l_X10_usedRooms_4]
    unfold b_X10_usedRooms_31
    simp (disch := omega) only [li_0, li_1, li_2, li_3, li_4, li_5, li_6, li_7, li_8, li_9, li_10, li_11, li_12, li_13, li_14, li_15, li_16, li_18, li_19, li_20, li_24, li_28, li_29, li_30, li_31, li_32, li_36, li_40, li_41, li_42, li_43, li_45, li_48, li_49, li_50, li_56, li_57, li_59, li_60, li_61, li_62, li_63, li_64, li_97, li_99, li_100, li_120, li_121, li_122, li_255, li_270, li_300, li_400, li_500, li_540, li_1000, li_1024, li_1440, li_9999, li_11264, li_32768, li_268435456, li_1073741824, li_m, li_o, iN_add, iN_mul, iN_lt, iN_in, iN_cl, iN_inj, iM_ne, iM_ne', iN_or, iN_xor, iN_bd, sh31n, iN_shl2, iN_shr2, iN_bit2, Nat.one_mul, oB, iff_t, iff_f, if_true, if_false, g_up_ne, g_up_eq, g_z_ne, g_z_eq, is_of c2, c4, is_of c7, ln_of c7, v1 i hi]
    rcases (hT.2.2.2.2.2.2.2.2.2.2.2.1 t (by omega)).2 i (by omega) with h | ⟨r, h1, h2⟩
    · rw [usedS_same h] at ih
      simp only [h, if_true]
      exact ih
    · have h3 : (iN r = iM) = False := iM_ne (by omega)
      rw [usedS_or (by omega) h2] at ih
      simp only [h2, h3, if_false]
      simp (disch := omega) only [sh31n, iN_shl2, Nat.one_mul, iN_or]
      exact ih
theorem used_iff {M : gM} {t r : Nat} : bP (∃ p, p < 10 ∧ M 57 (10 * t + p) = iN r) = usedF M t r := by
  unfold usedF
  by_cases h : inR (M 57) t (iN r) = 0
  · rw [decide_eq_true h, bP_f]
    · rfl
    · rintro ⟨p, h1, h2⟩
      have := inR_bit (M 57) t (iN r) p
      rw [h, Nat.zero_testBit, decide_eq_true h1, decide_eq_true h2] at this
      cases this
  · rw [decide_eq_false h, bP_t]
    · rfl
    · apply Classical.byContradiction
      intro hn
      apply h
      apply Nat.eq_of_testBit_eq
      intro p
      rw [inR_bit, Nat.zero_testBit]
      by_cases hp : p < 10
      · rw [decide_eq_false (show ¬ M 57 (10 * t + p) = iN r from fun e => hn ⟨p, hp, e⟩), Bool.and_false]
      · rw [decide_eq_false hp, Bool.false_and]
theorem usedF_hi {M : gM} {T C t r : Nat} {R F : Nat → Nat} (hT : vT M T C R F) (ht : t < 6) (h : R t ≤ r) (hr : r < 10) (hR : R t ≤ 10) : usedF M t r = false := by
  rw [← used_iff, bP_f]
  rintro ⟨p, h1, h2⟩
  rcases (hT.2.2.2.2.2.2.2.2.2.2.2.1 t ht).2 p h1 with e | ⟨q, e1, e2⟩
  · rw [e, iM_ne' (by omega)] at h2; exact h2
  · rw [e2, iN_inj (by omega) (by omega)] at h2; omega
theorem usedS_cnt {M : gM} {T C t : Nat} {R F : Nat → Nat} (hT : vT M T C R F) (ht : t < 6) (hR : R t ≤ 10) : cnt (usedS M t 10) 10 = cf (usedF M t) (R t) := by
  rw [cnt_cf, cf_congr (g := usedF M t) (fun i hi => by rw [usedS_bit, used_iff, decide_eq_true hi, Bool.true_and]), cf_more hR (fun p h1 h2 => usedF_hi hT ht h1 h2 hR)]
theorem used_c {σ : gS} {M : gM} {P T C t : Nat} {R F : Nat → Nat} (hL : Lay σ P T R) (hT : vT M T C R F) (ht : t < T) : f_X10_usedRooms (110 + t) σ M = some (iN (usedS M t 10)) := by
  have h0 : usedS M t 0 = 0 := by
    apply Nat.eq_of_testBit_eq
    intro r
    rw [usedS_bit, bP_f (by rintro ⟨p, h, _⟩; omega), Bool.and_false, Nat.zero_testBit]
  have := l_usedC hL hT ht 10 0 g_FU (by omega) (by unfold g_FU; omega)
  rw [h0] at this
  unfold f_X10_usedRooms b_X10_usedRooms_0
  exact this
theorem used_bc {M : gM} {T C t : Nat} {R F : Nat → Nat} (hT : vT M T C R F) (ht : t < 6) (hR : R t ≤ 10) : f_J_bitCount (iN (usedS M t 10)) = some (iN (cf (usedF M t) (R t))) := by
  rw [bc10 _ (usedS_lt M t 10), pc10_cnt, usedS_cnt hT ht hR]
theorem l_usedM {σ : gS} {M : gM} {P T C t : Nat} {R F : Nat → Nat} (hv : mT M T C R F) (hP : M 40 1 = iN P) (h10 : P ≤ 10) (hn : ∀ p, P ≤ p → p < 10 → M 57 (10 * t + p) = iM) (ht : t < 6) : ∀ k i n, i + k = R t → k < n → l_X12_usedIn_4 n (iN t) (iN (cf (usedF M t) i)) (iN i) σ M = some (iN (cf (usedF M t) (R t))) := by
  have hR := hv.2.2.2.2.2.2.2.2.2.2 t ht
  have e2 := (hv.2.2.2.2.2.2.2.2.1 t ht).1
  refine up_ind (fun n => ?_) (fun i n hi ih => ?_)
  · rw [l_X12_usedIn_4]
    simp (disch := omega) only [li_0, li_1, li_2, li_3, li_4, li_5, li_6, li_7, li_8, li_9, li_10, li_11, li_12, li_13, li_14, li_15, li_16, li_18, li_19, li_20, li_24, li_28, li_29, li_30, li_31, li_32, li_36, li_40, li_41, li_42, li_43, li_45, li_48, li_49, li_50, li_56, li_57, li_59, li_60, li_61, li_62, li_63, li_64, li_97, li_99, li_100, li_120, li_121, li_122, li_255, li_270, li_300, li_400, li_500, li_540, li_1000, li_1024, li_1440, li_9999, li_11264, li_32768, li_268435456, li_1073741824, li_m, li_o, iN_add, iN_mul, iN_lt, iN_in, iN_cl, iN_inj, iM_ne, iM_ne', iN_or, iN_xor, iN_bd, sh31n, iN_shl2, iN_shr2, iN_bit2, Nat.one_mul, oB, iff_t, iff_f, if_true, if_false, g_up_ne, g_up_eq, g_z_ne, g_z_eq, e2]
  · have hlt := inR_lt (M 57) t (iN i)
    rw [l_X12_usedIn_4, setIn_m ht hP h10 hn (fun e => by rw [iM_ne (by omega)] at e; exact e)]
    unfold b_X12_usedIn_29
    simp (disch := omega) only [li_0, li_1, li_2, li_3, li_4, li_5, li_6, li_7, li_8, li_9, li_10, li_11, li_12, li_13, li_14, li_15, li_16, li_18, li_19, li_20, li_24, li_28, li_29, li_30, li_31, li_32, li_36, li_40, li_41, li_42, li_43, li_45, li_48, li_49, li_50, li_56, li_57, li_59, li_60, li_61, li_62, li_63, li_64, li_97, li_99, li_100, li_120, li_121, li_122, li_255, li_270, li_300, li_400, li_500, li_540, li_1000, li_1024, li_1440, li_9999, li_11264, li_32768, li_268435456, li_1073741824, li_m, li_o, iN_add, iN_mul, iN_lt, iN_in, iN_cl, iN_inj, iM_ne, iM_ne', iN_or, iN_xor, iN_bd, sh31n, iN_shl2, iN_shr2, iN_bit2, Nat.one_mul, oB, iff_t, iff_f, if_true, if_false, g_up_ne, g_up_eq, g_z_ne, g_z_eq, e2]
    by_cases h : inR (M 57) t (iN i) = 0
    · rw [cf_f (by unfold usedF; rw [decide_eq_true h]; rfl)] at ih
      simp only [h, if_true]
      exact ih
    · rw [cf_t (by unfold usedF; rw [decide_eq_false h]; rfl)] at ih
      simp only [h, if_false]
      exact ih
theorem used_m {σ : gS} {M : gM} {P T C t : Nat} {R F : Nat → Nat} (hv : mT M T C R F) (hP : M 40 1 = iN P) (h10 : P ≤ 10) (hn : ∀ p, P ≤ p → p < 10 → M 57 (10 * t + p) = iM) (ht : t < 6) : f_X12_usedIn (iN t) σ M = some (iN (cf (usedF M t) (R t))) := by
  have hR := hv.2.2.2.2.2.2.2.2.2.2 t ht
  unfold f_X12_usedIn b_X12_usedIn_0
  exact l_usedM hv hP h10 hn ht (R t) 0 g_FU (by omega) (by unfold g_FU; omega)
theorem ppl_c {σ : gS} {M : gM} {P T C t : Nat} {R F : Nat → Nat} (hL : Lay σ P T R) (hT : vT M T C R F) (ht : t < T) : f_X10_guests (110 + t) σ M = some (iN (cf (pplF M t) 10)) := by
  have hg := guests_c (x := iM) hL.2.2.1 ht (hT.2.2.2.2.2.2.2.2.2.1 t ht)
  have hc : cnt (inR (M 57) t iM) 10 + cf (pplF M t) 10 = 10 := by
    have e1 := cf_not (fun i => (inR (M 57) t iM).testBit i) 10
    have e2 : cf (fun i => !(inR (M 57) t iM).testBit i) 10 = cf (pplF M t) 10 := cf_congr (fun i hi => by
      show (!(inR (M 57) t iM).testBit i) = pplF M t i
      unfold pplF; rw [inR_bit, decide_eq_true hi, Bool.true_and])
    rw [cnt_cf, ← e2]
    exact e1
  unfold f_X10_guests b_X10_guests_0
  rw [if_pos (by rw [is_of (hL.2.2.1.1 t ht).1.2.1]; trivial), show (-1 : Int32) = iM from rfl, hg, oB, bc10 _ (inR_lt _ _ _), oB, pc10_cnt, show (10 : Int32) = iN 10 from rfl, iN_sub (by omega), show 10 - cnt (inR (M 57) t iM) 10 = cf (pplF M t) 10 by omega]
theorem l_pplM {σ : gS} {M : gM} {P t : Nat} (hP : M 40 1 = iN P) (h10 : P ≤ 10) (ht : t < 6) : ∀ k i n, i + k = P → k < n → l_X12_peopleIn_4 n (iN t) (iN (cf (pplF M t) i)) (iN i) σ M = some (iN (cf (pplF M t) P)) := by
  refine up_ind (fun n => ?_) (fun i n hi ih => ?_)
  · rw [l_X12_peopleIn_4]
    simp (disch := omega) only [li_0, li_1, li_2, li_3, li_4, li_5, li_6, li_7, li_8, li_9, li_10, li_11, li_12, li_13, li_14, li_15, li_16, li_18, li_19, li_20, li_24, li_28, li_29, li_30, li_31, li_32, li_36, li_40, li_41, li_42, li_43, li_45, li_48, li_49, li_50, li_56, li_57, li_59, li_60, li_61, li_62, li_63, li_64, li_97, li_99, li_100, li_120, li_121, li_122, li_255, li_270, li_300, li_400, li_500, li_540, li_1000, li_1024, li_1440, li_9999, li_11264, li_32768, li_268435456, li_1073741824, li_m, li_o, iN_add, iN_mul, iN_lt, iN_in, iN_cl, iN_inj, iM_ne, iM_ne', iN_or, iN_xor, iN_bd, sh31n, iN_shl2, iN_shr2, iN_bit2, Nat.one_mul, oB, iff_t, iff_f, if_true, if_false, g_up_ne, g_up_eq, g_z_ne, g_z_eq, hP]
  · rw [l_X12_peopleIn_4]
    unfold b_X12_peopleIn_33
    simp (disch := omega) only [li_0, li_1, li_2, li_3, li_4, li_5, li_6, li_7, li_8, li_9, li_10, li_11, li_12, li_13, li_14, li_15, li_16, li_18, li_19, li_20, li_24, li_28, li_29, li_30, li_31, li_32, li_36, li_40, li_41, li_42, li_43, li_45, li_48, li_49, li_50, li_56, li_57, li_59, li_60, li_61, li_62, li_63, li_64, li_97, li_99, li_100, li_120, li_121, li_122, li_255, li_270, li_300, li_400, li_500, li_540, li_1000, li_1024, li_1440, li_9999, li_11264, li_32768, li_268435456, li_1073741824, li_m, li_o, iN_add, iN_mul, iN_lt, iN_in, iN_cl, iN_inj, iM_ne, iM_ne', iN_or, iN_xor, iN_bd, sh31n, iN_shl2, iN_shr2, iN_bit2, Nat.one_mul, oB, iff_t, iff_f, if_true, if_false, g_up_ne, g_up_eq, g_z_ne, g_z_eq, hP]
    by_cases h : M 57 (10 * t + i) = iM
    · rw [cf_f (by unfold pplF; rw [decide_eq_true h]; rfl)] at ih
      simp only [h, if_true]
      exact ih
    · rw [cf_t (by unfold pplF; rw [decide_eq_false h]; rfl)] at ih
      simp only [h, if_false]
      exact ih
theorem ppl_m {σ : gS} {M : gM} {P t : Nat} (hP : M 40 1 = iN P) (h10 : P ≤ 10) (hn : ∀ p, P ≤ p → p < 10 → M 57 (10 * t + p) = iM) (ht : t < 6) : f_X12_peopleIn (iN t) σ M = some (iN (cf (pplF M t) 10)) := by
  rw [cf_more h10 (fun p h1 h2 => by unfold pplF; rw [decide_eq_true (hn p h1 h2)]; rfl)]
  unfold f_X12_peopleIn b_X12_peopleIn_0
  exact l_pplM hP h10 ht P 0 g_FU (by omega) (by unfold g_FU; omega)
