/-! right. -/
/-- a list is right -/
def rightP (M : gM) (P t : Nat) : Prop := ∀ p, p < P → (¬ M 57 (10 * t + p) = iM ∨ thereB M p t = true) → ∃ r b, r < 10 ∧ b ≤ 2 ∧ M 57 (10 * t + p) = iN r ∧ M 53 (10 * t + r) = iN b ∧ fitP M P t p r b
theorem l_isRight {σ : gS} {M : gM} {P T C t : Nat} {R F : Nat → Nat} (hL : Lay σ P T R) (hP : vP M P) (hT : vT M T C R F) (ht : t < T) : ∀ k i n, i + k = P → k < n → (∀ p, p < i → (¬ M 57 (10 * t + p) = iM ∨ thereB M p t = true) → ∃ r b, r < 10 ∧ b ≤ 2 ∧ M 57 (10 * t + p) = iN r ∧ M 53 (10 * t + r) = iN b ∧ fitP M P t p r b) →
    l_X5_isRight_2 n (110 + t) (iN i) σ M = some (bI (bP (rightP M P t))) := by
  have hP10 := hP.1
  have hT6 := hT.1
  obtain ⟨c1, c2, c3, c4, c5, c6, c7⟩ := (hL.2.2.1.1 t ht).1
  have v1 := hT.2.2.2.2.2.2.2.2.2.1 t ht
  refine up_ind (fun n h => ?_) (fun i n hi ih h => ?_)
  · rw [l_X5_isRight_2, hP.2.1, if_neg (by rw [iN_lt (by omega) (by omega)]; omega), bP_t (show rightP M P t from h)]
    rfl
  · rw [l_X5_isRight_2]
    unfold b_X5_isRight_42 b_X5_isRight_37 b_X5_isRight_42 b_X5_isRight_61
    rw [guest_c hL.2.2.1 ht v1 (by omega), v1.1]
    simp (disch := omega) only [li_0, li_1, li_2, li_3, li_4, li_5, li_6, li_7, li_8, li_9, li_10, li_11, li_12, li_13, li_14, li_15, li_16, li_18, li_19, li_20, li_24, li_28, li_29, li_30, li_31, li_32, li_36, li_40, li_41, li_42, li_43, li_45, li_48, li_49, li_50, li_56, li_57, li_59, li_60, li_61, li_62, li_63, li_64, li_97, li_99, li_100, li_120, li_121, li_122, li_255, li_270, li_300, li_400, li_500, li_540, li_1000, li_1024, li_1440, li_9999, li_11264, li_32768, li_268435456, li_1073741824, li_m, li_o, iN_add, iN_mul, iN_lt, iN_in, iN_cl, iN_inj, iM_ne, iM_ne', iN_or, iN_xor, iN_bd, sh31n, iN_shl2, iN_shr2, iN_bit2, Nat.one_mul, oB, iff_t, iff_f, if_true, if_false, g_up_ne, g_up_eq, g_z_ne, g_z_eq, hP.2.1, is_of c2, (hL.2.1.1 i hi).2, is_of (hL.2.1.1 i hi).1, there_c hL.2.1 hi (hP.2.2.2.1 i hi), bI_0]
    have step : (¬ M 57 (10 * t + i) = iM ∨ thereB M i t = true) → ((f_X5_fits (110 + t) (iN i) (M 57 (10 * t + i)) σ M).bind fun q53 => if q53 = iN 0 then some (iN 0) else l_X5_isRight_2 n (110 + t) (iN (i + 1)) σ M) = some (bI (bP (rightP M P t))) := by
      intro hc
      rcases (hT.2.2.2.2.2.2.2.2.2.2.2.1 t (by omega)).2 i (by omega) with hM | ⟨r, hr, hre⟩
      · rw [fits_out hL hP hT ht hi (fun r hr => by rw [hM]; intro e; rw [iM_ne' (by have := (hL.2.2.2.1.1 t (by omega)).1; omega)] at e; exact e)]
        rw [bP_f (fun hm => by
          obtain ⟨r, b, a0, _, a1, a2, a3⟩ := hm i hi hc
          rw [hM, iM_ne' (by omega)] at a1; exact a1)]
        rfl
      · obtain ⟨b, hb, hb1, hb2⟩ := (hT.2.2.2.2.2.2.2.2.2.2.2.2.2 t r (by omega) hr).2.2.1
        rw [hre, fits_in hL hP hT ht hi hr hb hb2]
        simp only [oB, bI_0]
        cases hf : bP (fitP M P t i r b) with
        | false =>
          simp only [if_true]
          rw [bP_f (fun hm => by
            obtain ⟨r', b', a0, a0', a1, a2, a3⟩ := hm i hi hc
            have hR := (hL.2.2.2.1.1 t (by omega)).1
            rw [hre, iN_inj (by omega) (by omega)] at a1
            subst a1
            rw [hb, iN_inj (by omega) (by omega)] at a2
            subst a2
            rw [bP_t a3] at hf; cases hf)]
          rfl
        | true =>
          simp only [Bool.true_eq_false, if_false]
          refine ih (fun p hp hpc => ?_)
          by_cases e : p = i
          · subst e
            refine ⟨r, b, by have := (hL.2.2.2.1.1 t (by omega)).1; omega, hb2, hre, hb, ?_⟩
            apply Classical.byContradiction
            intro hn
            rw [bP_f hn] at hf; cases hf
          · exact h p (by omega) hpc
    by_cases k1 : M 57 (10 * t + i) = iM
    · simp only [k1, if_true]
      cases k2 : thereB M i t with
      | false =>
        simp only [if_true]
        refine ih (fun p hp hpc => ?_)
        by_cases e : p = i
        · subst e
          rcases hpc with g | g
          · exact absurd k1 g
          · rw [k2] at g; cases g
        · exact h p (by omega) hpc
      | true =>
        simp only [Bool.true_eq_false, if_false]
        have := step (Or.inr k2)
        rw [k1] at this
        exact this
    · simp only [k1, if_false]
      exact step (Or.inl k1)
theorem isRight_c {σ : gS} {M : gM} {P T C t : Nat} {R F : Nat → Nat} (hL : Lay σ P T R) (hP : vP M P) (hT : vT M T C R F) (ht : t < T) : f_X5_isRight (110 + t) σ M = some (bI (bP (rightP M P t))) := by
  have hP10 := hP.1
  unfold f_X5_isRight b_X5_isRight_0
  exact l_isRight hL hP hT ht P 0 g_FU (by omega) (by unfold g_FU; omega) (fun p hp => by omega)
/-- the model's word for it -/
def rightM (M : gM) (P t : Nat) (R : Nat → Nat) : Prop := (∀ p, p < P → thereB M p t = true → ¬ M 57 (10 * t + p) = iM) ∧ ∀ r, r < R t → ∀ b, b ≤ 2 → M 53 (10 * t + r) = iN b → mayP M P t r b (inR (M 57) t (iN r))
theorem l_mright2 {σ : gS} {M : gM} {P T C t : Nat} {R F : Nat → Nat} (hv : mT M T C R F) (hP : M 40 1 = iN P) (h10 : P ≤ 10) (hn : ∀ p, P ≤ p → p < 10 → M 57 (10 * t + p) = iM) (ht : t < 6) (h1 : ∀ p, p < P → thereB M p t = true → ¬ M 57 (10 * t + p) = iM) : ∀ k i n, i + k = R t → k < n → (∀ r, r < i → ∀ b, b ≤ 2 → M 53 (10 * t + r) = iN b → mayP M P t r b (inR (M 57) t (iN r))) →
    l_X12_right_54 n (iN t) (iN i) σ M = some (bI (bP (rightM M P t R))) := by
  have hR := hv.2.2.2.2.2.2.2.2.2.2 t ht
  have e2 := (hv.2.2.2.2.2.2.2.2.1 t ht).1
  refine up_ind (fun n h => ?_) (fun i n hi ih h => ?_)
  · rw [l_X12_right_54]
    simp (disch := omega) only [li_0, li_1, li_2, li_3, li_4, li_5, li_6, li_7, li_8, li_9, li_10, li_11, li_12, li_13, li_14, li_15, li_16, li_18, li_19, li_20, li_24, li_28, li_29, li_30, li_31, li_32, li_36, li_40, li_41, li_42, li_43, li_45, li_48, li_49, li_50, li_56, li_57, li_59, li_60, li_61, li_62, li_63, li_64, li_97, li_99, li_100, li_120, li_121, li_122, li_255, li_270, li_300, li_400, li_500, li_540, li_1000, li_1024, li_1440, li_9999, li_11264, li_32768, li_268435456, li_1073741824, li_m, li_o, iN_add, iN_mul, iN_lt, iN_in, iN_cl, iN_inj, iM_ne, iM_ne', iN_or, iN_xor, iN_bd, sh31n, iN_shl2, iN_shr2, iN_bit2, Nat.one_mul, oB, iff_t, iff_f, if_true, if_false, g_up_ne, g_up_eq, g_z_ne, g_z_eq, e2]
    rw [bP_t (show rightM M P t R from ⟨h1, h⟩)]
    rfl
  · rw [l_X12_right_54]
    obtain ⟨b, hb, hb1, hb2⟩ := (hv.2.2.2.2.2.2.2.2.2.1 t i ht hi).2.2.1
    rw [setIn_m ht hP h10 hn (fun e => by rw [iM_ne (by omega)] at e; exact e)]
    simp (disch := omega) only [li_0, li_1, li_2, li_3, li_4, li_5, li_6, li_7, li_8, li_9, li_10, li_11, li_12, li_13, li_14, li_15, li_16, li_18, li_19, li_20, li_24, li_28, li_29, li_30, li_31, li_32, li_36, li_40, li_41, li_42, li_43, li_45, li_48, li_49, li_50, li_56, li_57, li_59, li_60, li_61, li_62, li_63, li_64, li_97, li_99, li_100, li_120, li_121, li_122, li_255, li_270, li_300, li_400, li_500, li_540, li_1000, li_1024, li_1440, li_9999, li_11264, li_32768, li_268435456, li_1073741824, li_m, li_o, iN_add, iN_mul, iN_lt, iN_in, iN_cl, iN_inj, iM_ne, iM_ne', iN_or, iN_xor, iN_bd, sh31n, iN_shl2, iN_shr2, iN_bit2, Nat.one_mul, oB, iff_t, iff_f, if_true, if_false, g_up_ne, g_up_eq, g_z_ne, g_z_eq, e2]
    rw [mayBe_m ht (by omega) (inR_lt _ _ _) hP h10 hb hb1 hb2]
    simp only [oB, bI_0]
    cases hf : bP (mayP M P t i b (inR (M 57) t (iN i))) with
    | false =>
      simp only [if_true]
      rw [bP_f (fun hm => by rw [bP_t (hm.2 i hi b hb2 hb)] at hf; cases hf)]
      rfl
    | true =>
      simp only [Bool.true_eq_false, if_false]
      refine ih (fun r hr b' hb' hbe => ?_)
      by_cases e : r = i
      · subst e
        rw [hb, iN_inj (by omega) (by omega)] at hbe
        subst hbe
        apply Classical.byContradiction
        intro hno
        rw [bP_f hno] at hf; cases hf
      · exact h r (by omega) b' hb' hbe
theorem l_mright1 {σ : gS} {M : gM} {P T C t : Nat} {R F : Nat → Nat} (hv : mT M T C R F) (hP : M 40 1 = iN P) (h10 : P ≤ 10) (hn : ∀ p, P ≤ p → p < 10 → M 57 (10 * t + p) = iM) (ht : t < 6) : ∀ k i n, i + k = P → k < n → (∀ p, p < i → thereB M p t = true → ¬ M 57 (10 * t + p) = iM) →
    l_X12_right_12 n (iN t) (iN i) σ M = some (bI (bP (rightM M P t R))) := by
  have hR := hv.2.2.2.2.2.2.2.2.2.2 t ht
  refine up_ind (fun n h => ?_) (fun i n hi ih h => ?_)
  · rw [l_X12_right_12, hP, if_neg (by rw [iN_lt (by omega) (by omega)]; omega)]
    exact l_mright2 hv hP h10 hn ht h (R t) 0 g_FU (by omega) (by unfold g_FU; omega) (fun r hr => by omega)
  · rw [l_X12_right_12]
    unfold b_X12_right_46
    simp (disch := omega) only [li_0, li_1, li_2, li_3, li_4, li_5, li_6, li_7, li_8, li_9, li_10, li_11, li_12, li_13, li_14, li_15, li_16, li_18, li_19, li_20, li_24, li_28, li_29, li_30, li_31, li_32, li_36, li_40, li_41, li_42, li_43, li_45, li_48, li_49, li_50, li_56, li_57, li_59, li_60, li_61, li_62, li_63, li_64, li_97, li_99, li_100, li_120, li_121, li_122, li_255, li_270, li_300, li_400, li_500, li_540, li_1000, li_1024, li_1440, li_9999, li_11264, li_32768, li_268435456, li_1073741824, li_m, li_o, iN_add, iN_mul, iN_lt, iN_in, iN_cl, iN_inj, iM_ne, iM_ne', iN_or, iN_xor, iN_bd, sh31n, iN_shl2, iN_shr2, iN_bit2, Nat.one_mul, oB, iff_t, iff_f, if_true, if_false, g_up_ne, g_up_eq, g_z_ne, g_z_eq, hP, there_m (σ := σ) (M := M) (t := t) (show i < 10 by omega), bI_0]
    cases k1 : thereB M i t with
    | false =>
      simp only [if_true]
      refine ih (fun p hp hpc => ?_)
      by_cases e : p = i
      · subst e; rw [k1] at hpc; cases hpc
      · exact h p (by omega) hpc
    | true =>
      simp only [Bool.true_eq_false, if_false]
      by_cases k2 : M 57 (10 * t + i) = iM
      · simp only [k2, if_true]
        rw [bP_f (fun hm => hm.1 i hi k1 k2)]
        rfl
      · simp only [k2, if_false]
        refine ih (fun p hp hpc => ?_)
        by_cases e : p = i
        · subst e; exact k2
        · exact h p (by omega) hpc
theorem right_iff {σ : gS} {M : gM} {P T C t : Nat} {R F : Nat → Nat} (hL : Lay σ P T R) (hP : vP M P) (hT : vT M T C R F) (ht : t < T) : rightP M P t ↔ rightM M P t R := by
  have hP10 := hP.1
  have hT6 := hT.1
  have hR := (hL.2.2.2.1.1 t (by omega)).1
  constructor
  · intro h
    refine ⟨fun p hp hth hM => ?_, fun r hr b hb2 hb => ⟨fun p hp hbit => ?_, ?_, fun p q hpq hq h1 h2 => ?_⟩⟩
    · obtain ⟨r, b, a0, _, a1, _⟩ := h p hp (Or.inr hth)
      rw [hM, iM_ne' (by omega)] at a1; exact a1
    · rw [inR_bit] at hbit
      have hl := of_decide_eq_true ((Bool.and_eq_true _ _).mp hbit).2
      obtain ⟨r', b', a0, a0', a1, a2, a3⟩ := h p hp (Or.inl (by rw [hl, iM_ne (by omega)]; exact not_false))
      rw [hl, iN_inj (by omega) (by omega)] at a1
      subst a1
      exact a3.1
    · by_cases hz : cnt (inR (M 57) t (iN r)) P = 0
      · omega
      · obtain ⟨p, hp, hbit⟩ := cnt_ex hz
        have hbit0 := hbit
        rw [inR_bit] at hbit
        have hl := of_decide_eq_true ((Bool.and_eq_true _ _).mp hbit).2
        obtain ⟨r', b', a0, a0', a1, a2, a3⟩ := h p hp (Or.inl (by rw [hl, iM_ne (by omega)]; exact not_false))
        rw [hl, iN_inj (by omega) (by omega)] at a1
        subst a1
        rw [hb, iN_inj (by omega) (by omega)] at a2
        subst a2
        have e1 := cnt_bd (show p < 10 by omega) hbit0
        have e2 := a3.2.1
        have e3 := cnt_mono (inR (M 57) t (iN r)) hP10
        omega
    · have h1' := h1
      rw [inR_bit] at h1'
      have hl := of_decide_eq_true ((Bool.and_eq_true _ _).mp h1').2
      obtain ⟨r', b', a0, a0', a1, a2, a3⟩ := h p (by omega) (Or.inl (by rw [hl, iM_ne (by omega)]; exact not_false))
      rw [hl, iN_inj (by omega) (by omega)] at a1
      subst a1
      refine a3.2.2 q hq ?_
      rw [bd2_bit, h2, decide_eq_false (by omega)]
      rfl
  · intro h p hp hc
    rcases (hT.2.2.2.2.2.2.2.2.2.2.2.1 t (by omega)).2 p (by omega) with hM | ⟨r, hr, hre⟩
    · rcases hc with g | g
      · exact absurd hM g
      · exact absurd hM (h.1 p hp g)
    · obtain ⟨b, hb, hb1, hb2⟩ := (hT.2.2.2.2.2.2.2.2.2.2.2.2.2 t r (by omega) hr).2.2.1
      obtain ⟨m1, m2, m3⟩ := h.2 r hr b hb2 hb
      have hbit : (inR (M 57) t (iN r)).testBit p = true := by
        rw [inR_bit, decide_eq_true (show p < 10 by omega), decide_eq_true hre]; rfl
      refine ⟨r, b, by omega, hb2, hre, hb, m1 p hp hbit, ?_, fun q hq hg => ?_⟩
      · have e1 := cnt_bd (show p < 10 by omega) hbit
        have e2 : cnt (inR (M 57) t (iN r)) 10 = cnt (inR (M 57) t (iN r)) P := cnt_more hP10 (fun q h1 _ => inR_hi hP (by omega) (fun e => by rw [iM_ne (by omega)] at e; exact e) h1)
        omega
      · rw [bd2_bit] at hg
        obtain ⟨g1, g2⟩ := (Bool.and_eq_true _ _).mp hg
        have hne : p ≠ q := by
          intro e; subst e; simp at g2
        rcases Nat.lt_or_gt_of_ne hne with g | g
        · exact m3 p q g hq hbit g1
        · rw [share_sym hP hp hq]
          exact m3 q p g hp g1 hbit
theorem rightM_eq {M Mm : gM} {P t : Nat} {R : Nat → Nat} (h : mEq M Mm) : rightM Mm P t R ↔ rightM M P t R := by
  unfold rightM mayP okP
  simp only [thereB_eq h, shareB_eq h, h.row 57 (by omega) (by omega), h.row 53 (by omega) (by omega), h.row 56 (by omega) (by omega), h.row 43 (by omega) (by omega), h.row 54 (by omega) (by omega)]
theorem right_m {σ : gS} {M Mm : gM} {P T C t : Nat} {R F : Nat → Nat} (hL : Lay σ P T R) (hP : vP M P) (hT : vT M T C R F) (ht : t < T) (hm : mEq M Mm) : f_X12_right (iN t) σ Mm = some (bI (bP (rightP M P t))) := by
  have hP10 := hP.1
  have hT6 := hT.1
  have hv := mT.of hL hT hm
  unfold f_X12_right b_X12_right_0
  rw [mtown_in hv.2.2.2.1 hT6 ht, bP_iff (right_iff hL hP hT ht), ← bP_iff (rightM_eq hm)]
  exact l_mright1 hv (by rw [hm _ _ (by omega) (by omega)]; exact hP.2.2.1) hP10 (fun p h1 h2 => by rw [hm _ _ (by omega) (by omega)]; exact (hP.2.2.2.2.2.2.2.1 p h1 h2).2.2.2.2 t (by omega)) (by omega) P 0 g_FU (by omega) (by unfold g_FU; omega) (fun p hp => by omega)
theorem call_right {σ : gS} {M : gM} (h : Inv σ M) (x : Int32) : ∃ r, f_X11_right x σ M = some r ∧ f_X12_right x σ M = some r := by
  obtain ⟨P, T, C, R, F, hL, hP, hT, hD, hN, hB, hK, hC, hX⟩ := h
  have hT6 := hT.1
  rcases idx_or x T (by omega) with ⟨t, ht, rfl⟩ | hx
  · refine ⟨bI (bP (rightP M P t)), ?_, right_m hL hP hT ht (fun _ _ _ _ => rfl)⟩
    unfold f_X11_right b_X11_right_0
    rw [town_in hL.2.2.1 hT.2.2.2.1 hT6 ht, oB, if_neg (by omega), isRight_c hL hP hT ht]
    cases bP (rightP M P t) <;> rfl
  · refine ⟨iN 0, ?_, ?_⟩
    · unfold f_X11_right b_X11_right_0
      rw [town_out hT.2.2.2.1 hT6 hx]
      rfl
    · unfold f_X12_right b_X12_right_0
      rw [mtown_out hT.2.2.2.2.1 hT6 hx]
      rfl
