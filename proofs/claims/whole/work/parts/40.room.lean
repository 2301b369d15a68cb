/-! room, friends, bar, absent. -/
theorem bI_inj (a b : Bool) : (bI a = bI b) = (a = b) := by cases a <;> cases b <;> simp [bI, iN_inj]
theorem iN_bI0 (b : Bool) : (bI b = iN 0) = (b = false) := bI_0 b
def upR (R : Nat → Nat) (t v : Nat) : Nat → Nat := fun u => if u = t then v else R u
theorem upR_eq {R : Nat → Nat} {t v : Nat} : upR R t v t = v := if_pos rfl
theorem upR_ne {R : Nat → Nat} {t v u : Nat} (h : ¬ u = t) : upR R t v u = R u := if_neg h
theorem lay_room {σ : gS} {P T t : Nat} {R : Nat → Nat} (h : Lay σ P T R) (h6 : T ≤ 6) (h10 : P ≤ 10) (ht : t < T) (hr : R t < 10) : Lay (g_pS (g_nS σ (200 + 10 * t + R t) 8 0) (120 + t) (R t) (200 + 10 * t + R t)) P T (upR R t (R t + 1)) := by
  obtain ⟨h1, h2, h3, h4, h5, h7⟩ := h
  refine ⟨layL_pS (layL_nS h1 (by omega)) (by omega), h2.keep h10 (fun a _ _ => ?_) (fun k => ?_), h3.keep h6 (fun a _ _ => ?_) (fun a k _ => ?_), ⟨fun u hu => ?_, fun u r hu hq => ?_, fun u r hu hq hr2 => ?_⟩, h5.keep h6 (fun a _ => ?_) (fun a _ _ => ?_), h7.keep (fun a _ => ?_) ?_⟩
  · rw [pS1, nS1_ne (by omega)]
  · rw [pS2_ne (by omega), nS2_ne (by omega)]
  · rw [pS1, nS1_ne (by omega)]
  · rw [pS2_ne (by omega), nS2_ne (by omega)]
  · have := h4.1 u hu
    by_cases he : u = t
    · subst he
      rw [upR_eq]
      exact ⟨by omega, fun hh => by omega⟩
    · rw [upR_ne he]; exact this
  · have h8 := h4.1 u hu
    by_cases he : u = t
    · subst he
      rw [upR_eq] at hq
      by_cases h9 : r = R u
      · subst h9
        rw [pS1, nS1_eq rfl, pS2_eq ⟨rfl, rfl⟩]
        exact ⟨rfl, rfl⟩
      · rw [pS1, nS1_ne (by omega), pS2_ne (by omega), nS2_ne (by omega)]
        exact h4.2.1 u r hu (by omega)
    · rw [upR_ne he] at hq
      rw [pS1, nS1_ne (by omega), pS2_ne (by omega), nS2_ne (by omega)]
      exact h4.2.1 u r hu hq
  · have h8 := h4.1 u hu
    by_cases he : u = t
    · subst he
      rw [upR_eq] at hq
      rw [pS1, nS1_ne (by omega)]
      exact h4.2.2 u r hu (by omega) hr2
    · rw [upR_ne he] at hq
      rw [pS1, nS1_ne (by omega)]
      exact h4.2.2 u r hu hq hr2
  · rw [pS1, nS1_ne (by omega)]
  · rw [pS2_ne (by omega), nS2_ne (by omega)]
  · rw [pS1, nS1_ne (by omega)]
  · rw [pS2_ne (by omega), nS2_ne (by omega)]
def mkR (M : gM) (t r : Nat) (x2 x3 x4 : Int32) : gM := (g_up (g_up (g_up (g_up (g_up (g_z M (200 + 10 * t + r) (iN 0)) (200 + 10 * t + r) 3 (iN 1)) (200 + 10 * t + r) 0 x2) (200 + 10 * t + r) 1 x3) (200 + 10 * t + r) 2 x4) (110 + t) 6 (iN (r + 1)))
def mkRm (M : gM) (t r : Nat) (x2 x3 x4 : Int32) : gM := (g_up (g_up (g_up (g_up (g_up M 53 (10 * t + r) x2) 54 (10 * t + r) x3) 55 (10 * t + r) x4) 56 (10 * t + r) (iN 1)) 52 t (iN (r + 1)))
theorem call_room {σ : gS} {M : gM} (h : Inv σ M) (N : gN) (b3 : Bool) (x1 x2 x4 : Int32) : ∃ r σ1 M1 N1 M2, f_X11_room x1 x2 (bI b3) x4 σ M N = some (r, σ1, M1, N1) ∧ g_layL σ1 ∧ f_X12_room x1 x2 (bI b3) x4 σ1 M1 = some (r, M2) ∧ Inv σ1 M2 := by
  have h0 := h
  obtain ⟨P, T, C, R, F, hL, hP, hT, hD, hN, hB, hK, hC, hX⟩ := h
  have hT6 := hT.1
  rcases idx_or x1 T (by omega) with ⟨t, ht, rfl⟩ | hx
  · obtain ⟨o1, o2⟩ := lasts_in hL.2.2.1 hT ht
    cases ho : overB F C t with
    | true =>
      rw [ho] at o1 o2
      refine ⟨iM, σ, M, N, M, ?_, hL.1, ?_, h0⟩
      · unfold f_X11_room b_X11_room_0
        rw [o1]; rfl
      · unfold f_X12_room b_X12_room_0
        rw [o2]; rfl
    | false =>
      rw [ho] at o1 o2
      have hR := (hL.2.2.2.1.1 t (by omega)).1
      have hRle : ∀ t, t < 6 → R t ≤ 10 := fun t ht => (hL.2.2.2.1.1 t ht).1
      have hT' := hT
      obtain ⟨_, hF0, hC2, t1, t2, t3, t4, c1, c2, g7, g8, g9, g10, g11⟩ := hT'
      have e1 : M (110 + t) 6 = iN (R t) := (g7 t ht).2.2.2.1.trans (g9 t (by omega)).1
      have e2 : M 52 t = iN (R t) := (g9 t (by omega)).1
      obtain ⟨y1, y2, y3, y4, y5, y6, y7⟩ := (hL.2.2.1.1 t ht).1
      have o1 : f_X11_townThatLasts (iN t) σ M = some (110 + t) := o1
      have o2 : f_X12_isOpen (iN t) σ M = some (iN 1) := o2
      rcases in_cases x2 (a := 1) (b := 2) (by omega) (by omega) with ⟨b, rfl, hb1, hb2, eb⟩ | ⟨eb, _⟩
      · rcases in_cases x4 (a := 1) (b := 1000) (by omega) (by omega) with ⟨c, rfl, hc1, hc2, ec⟩ | ⟨ec, _⟩
        · by_cases hr : R t = 10
          · refine ⟨iM, σ, M, N, M, ?_, hL.1, ?_, h0⟩
            · unfold f_X11_room b_X11_room_0
              rw [o1]
              simp (disch := omega) only [li_0, li_1, li_2, li_3, li_4, li_5, li_6, li_7, li_8, li_9, li_10, li_11, li_12, li_13, li_14, li_15, li_16, li_18, li_19, li_20, li_24, li_28, li_29, li_30, li_31, li_32, li_36, li_40, li_41, li_42, li_43, li_45, li_48, li_49, li_50, li_56, li_57, li_59, li_60, li_61, li_62, li_63, li_64, li_97, li_99, li_100, li_120, li_121, li_122, li_255, li_270, li_300, li_400, li_500, li_540, li_1000, li_1024, li_1440, li_9999, li_11264, li_32768, li_268435456, li_1073741824, li_m, li_o, iN_add, iN_mul, iN_lt, iN_in, iN_cl, iN_inj, iM_ne, iM_ne', iN_or, iN_xor, iN_bd, sh31n, iN_shl2, iN_shr2, iN_bit2, Nat.one_mul, oB, iff_t, iff_f, if_true, if_false, g_up_ne, g_up_eq, g_z_ne, g_z_eq, is_of y2, e1]
            · unfold f_X12_room b_X12_room_0
              rw [o2]
              simp (disch := omega) only [li_0, li_1, li_2, li_3, li_4, li_5, li_6, li_7, li_8, li_9, li_10, li_11, li_12, li_13, li_14, li_15, li_16, li_18, li_19, li_20, li_24, li_28, li_29, li_30, li_31, li_32, li_36, li_40, li_41, li_42, li_43, li_45, li_48, li_49, li_50, li_56, li_57, li_59, li_60, li_61, li_62, li_63, li_64, li_97, li_99, li_100, li_120, li_121, li_122, li_255, li_270, li_300, li_400, li_500, li_540, li_1000, li_1024, li_1440, li_9999, li_11264, li_32768, li_268435456, li_1073741824, li_m, li_o, iN_add, iN_mul, iN_lt, iN_in, iN_cl, iN_inj, iM_ne, iM_ne', iN_or, iN_xor, iN_bd, sh31n, iN_shl2, iN_shr2, iN_bit2, Nat.one_mul, oB, iff_t, iff_f, if_true, if_false, g_up_ne, g_up_eq, g_z_ne, g_z_eq, eb, ec, e2]
          · have hlay := lay_room hL hT6 hP.1 ht (by omega)
            have l1 := layL_nS (a := 200 + 10 * t + R t) (kd := 8) (n := 0) hL.1 (by omega)
            have hfr := hL.2.2.2.1.2.2 t (R t) (by omega) (by omega) (by omega)
            refine ⟨iN (R t), g_pS (g_nS σ (200 + 10 * t + R t) 8 0) (120 + t) (R t) (200 + 10 * t + R t), mkR M t (R t) (iN b) (bI b3) (iN c), g_z N (200 + 10 * t + R t) 0, mkRm (mkR M t (R t) (iN b) (bI b3) (iN c)) t (R t) (iN b) (bI b3) (iN c), ?_, hlay.1, ?_, ?_⟩
            · unfold f_X11_room b_X11_room_0
              rw [o1]
              have z1 : 110 + t - 110 = t := by omega
              have z2 : (g_nS σ (200 + 10 * t + R t) 8 0).1 (110 + t) = some (10, 0) := by rw [nS1_ne (by omega)]; exact y2
              have z3 : (g_nS σ (200 + 10 * t + R t) 8 0).1 (120 + t) = some (18, 10) := by rw [nS1_ne (by omega)]; exact y6
              have z4 : (g_nS σ (200 + 10 * t + R t) 8 0).2 (110 + t) 3 = 120 + t := by rw [nS2_ne (by omega)]; exact y3
              have z5 : (g_nS σ (200 + 10 * t + R t) 8 0).1 (200 + 10 * t + R t) = some (8, 0) := nS1_eq rfl
              have z6 : (g_pS (g_nS σ (200 + 10 * t + R t) 8 0) (120 + t) (R t) (200 + 10 * t + R t)).1 (110 + t) = some (10, 0) := z2
              simp (disch := omega) only [li_0, li_1, li_2, li_3, li_4, li_5, li_6, li_7, li_8, li_9, li_10, li_11, li_12, li_13, li_14, li_15, li_16, li_18, li_19, li_20, li_24, li_28, li_29, li_30, li_31, li_32, li_36, li_40, li_41, li_42, li_43, li_45, li_48, li_49, li_50, li_56, li_57, li_59, li_60, li_61, li_62, li_63, li_64, li_97, li_99, li_100, li_120, li_121, li_122, li_255, li_270, li_300, li_400, li_500, li_540, li_1000, li_1024, li_1440, li_9999, li_11264, li_32768, li_268435456, li_1073741824, li_m, li_o, iN_add, iN_mul, iN_lt, iN_in, iN_cl, iN_inj, iM_ne, iM_ne', iN_or, iN_xor, iN_bd, sh31n, iN_shl2, iN_shr2, iN_bit2, Nat.one_mul, oB, iff_t, iff_f, if_true, if_false, g_up_ne, g_up_eq, g_z_ne, g_z_eq, is_of y2, e1, w_in, eb, ec, z1, fr_of (σ := σ) (a := 200 + 10 * t + R t) (by omega) (by omega) hfr, layCB_of l1.1]
              unfold f_X8_init b_X8_init_0 b_X8_init_19 f_X10_add b_X10_add_0 mkR
              simp (disch := omega) only [li_0, li_1, li_2, li_3, li_4, li_5, li_6, li_7, li_8, li_9, li_10, li_11, li_12, li_13, li_14, li_15, li_16, li_18, li_19, li_20, li_24, li_28, li_29, li_30, li_31, li_32, li_36, li_40, li_41, li_42, li_43, li_45, li_48, li_49, li_50, li_56, li_57, li_59, li_60, li_61, li_62, li_63, li_64, li_97, li_99, li_100, li_120, li_121, li_122, li_255, li_270, li_300, li_400, li_500, li_540, li_1000, li_1024, li_1440, li_9999, li_11264, li_32768, li_268435456, li_1073741824, li_m, li_o, iN_add, iN_mul, iN_lt, iN_in, iN_cl, iN_inj, iM_ne, iM_ne', iN_or, iN_xor, iN_bd, sh31n, iN_shl2, iN_shr2, iN_bit2, Nat.one_mul, oB, iff_t, iff_f, if_true, if_false, g_up_ne, g_up_eq, g_z_ne, g_z_eq, is_of z5, g_b_bI, is_of z2, e1, z4, is_of z3, ln_of z3, layCB_of hlay.1.1, is_of z6, iN_sub, Nat.add_sub_cancel]
            · have m1 : mkR M t (R t) (iN b) (bI b3) (iN c) 40 11 = iN T := by unfold mkR; simp (disch := omega) only [li_0, li_1, li_2, li_3, li_4, li_5, li_6, li_7, li_8, li_9, li_10, li_11, li_12, li_13, li_14, li_15, li_16, li_18, li_19, li_20, li_24, li_28, li_29, li_30, li_31, li_32, li_36, li_40, li_41, li_42, li_43, li_45, li_48, li_49, li_50, li_56, li_57, li_59, li_60, li_61, li_62, li_63, li_64, li_97, li_99, li_100, li_120, li_121, li_122, li_255, li_270, li_300, li_400, li_500, li_540, li_1000, li_1024, li_1440, li_9999, li_11264, li_32768, li_268435456, li_1073741824, li_m, li_o, iN_add, iN_mul, iN_lt, iN_in, iN_cl, iN_inj, iM_ne, iM_ne', iN_or, iN_xor, iN_bd, sh31n, iN_shl2, iN_shr2, iN_bit2, Nat.one_mul, oB, iff_t, iff_f, if_true, if_false, g_up_ne, g_up_eq, g_z_ne, g_z_eq, t2]
              have m2 : f_X12_isOpen (iN t) (g_pS (g_nS σ (200 + 10 * t + R t) 8 0) (120 + t) (R t) (200 + 10 * t + R t)) (mkR M t (R t) (iN b) (bI b3) (iN c)) = f_X12_isOpen (iN t) σ M := by
                unfold f_X12_isOpen b_X12_isOpen_0 f_X12_isOver b_X12_isOver_0
                rw [mtown_in m1 hT6 ht, mtown_in t2 hT6 ht]
                unfold mkR
                simp (disch := omega) only [li_0, li_1, li_2, li_3, li_4, li_5, li_6, li_7, li_8, li_9, li_10, li_11, li_12, li_13, li_14, li_15, li_16, li_18, li_19, li_20, li_24, li_28, li_29, li_30, li_31, li_32, li_36, li_40, li_41, li_42, li_43, li_45, li_48, li_49, li_50, li_56, li_57, li_59, li_60, li_61, li_62, li_63, li_64, li_97, li_99, li_100, li_120, li_121, li_122, li_255, li_270, li_300, li_400, li_500, li_540, li_1000, li_1024, li_1440, li_9999, li_11264, li_32768, li_268435456, li_1073741824, li_m, li_o, iN_add, iN_mul, iN_lt, iN_in, iN_cl, iN_inj, iM_ne, iM_ne', iN_or, iN_xor, iN_bd, sh31n, iN_shl2, iN_shr2, iN_bit2, Nat.one_mul, oB, iff_t, iff_f, if_true, if_false, g_up_ne, g_up_eq, g_z_ne, g_z_eq]
              have m3 : mkR M t (R t) (iN b) (bI b3) (iN c) 52 t = iN (R t) := by unfold mkR; simp (disch := omega) only [li_0, li_1, li_2, li_3, li_4, li_5, li_6, li_7, li_8, li_9, li_10, li_11, li_12, li_13, li_14, li_15, li_16, li_18, li_19, li_20, li_24, li_28, li_29, li_30, li_31, li_32, li_36, li_40, li_41, li_42, li_43, li_45, li_48, li_49, li_50, li_56, li_57, li_59, li_60, li_61, li_62, li_63, li_64, li_97, li_99, li_100, li_120, li_121, li_122, li_255, li_270, li_300, li_400, li_500, li_540, li_1000, li_1024, li_1440, li_9999, li_11264, li_32768, li_268435456, li_1073741824, li_m, li_o, iN_add, iN_mul, iN_lt, iN_in, iN_cl, iN_inj, iM_ne, iM_ne', iN_or, iN_xor, iN_bd, sh31n, iN_shl2, iN_shr2, iN_bit2, Nat.one_mul, oB, iff_t, iff_f, if_true, if_false, g_up_ne, g_up_eq, g_z_ne, g_z_eq, e2]
              unfold f_X12_room b_X12_room_0
              rw [m2, o2]
              simp (disch := omega) only [li_0, li_1, li_2, li_3, li_4, li_5, li_6, li_7, li_8, li_9, li_10, li_11, li_12, li_13, li_14, li_15, li_16, li_18, li_19, li_20, li_24, li_28, li_29, li_30, li_31, li_32, li_36, li_40, li_41, li_42, li_43, li_45, li_48, li_49, li_50, li_56, li_57, li_59, li_60, li_61, li_62, li_63, li_64, li_97, li_99, li_100, li_120, li_121, li_122, li_255, li_270, li_300, li_400, li_500, li_540, li_1000, li_1024, li_1440, li_9999, li_11264, li_32768, li_268435456, li_1073741824, li_m, li_o, iN_add, iN_mul, iN_lt, iN_in, iN_cl, iN_inj, iM_ne, iM_ne', iN_or, iN_xor, iN_bd, sh31n, iN_shl2, iN_shr2, iN_bit2, Nat.one_mul, oB, iff_t, iff_f, if_true, if_false, g_up_ne, g_up_eq, g_z_ne, g_z_eq, eb, ec, m3, nar_bI, nar_1]
              unfold b_X12_room_80 mkRm
              simp (disch := omega) only [li_0, li_1, li_2, li_3, li_4, li_5, li_6, li_7, li_8, li_9, li_10, li_11, li_12, li_13, li_14, li_15, li_16, li_18, li_19, li_20, li_24, li_28, li_29, li_30, li_31, li_32, li_36, li_40, li_41, li_42, li_43, li_45, li_48, li_49, li_50, li_56, li_57, li_59, li_60, li_61, li_62, li_63, li_64, li_97, li_99, li_100, li_120, li_121, li_122, li_255, li_270, li_300, li_400, li_500, li_540, li_1000, li_1024, li_1440, li_9999, li_11264, li_32768, li_268435456, li_1073741824, li_m, li_o, iN_add, iN_mul, iN_lt, iN_in, iN_cl, iN_inj, iM_ne, iM_ne', iN_or, iN_xor, iN_bd, sh31n, iN_shl2, iN_shr2, iN_bit2, Nat.one_mul, oB, iff_t, iff_f, if_true, if_false, g_up_ne, g_up_eq, g_z_ne, g_z_eq, m3, iN_sub, Nat.add_sub_cancel, nar_1]
            · have fr : ∀ a j, ¬ (a = 200 + 10 * t + R t) → ¬ (a = 110 + t ∧ j = 6) → ¬ (53 ≤ a ∧ a ≤ 56 ∧ j = 10 * t + R t) → ¬ (a = 52 ∧ j = t) → mkRm (mkR M t (R t) (iN b) (bI b3) (iN c)) t (R t) (iN b) (bI b3) (iN c) a j = M a j := fun a j q1 q2 q3 q4 => by
                unfold mkRm mkR
                simp (disch := omega) only [li_0, li_1, li_2, li_3, li_4, li_5, li_6, li_7, li_8, li_9, li_10, li_11, li_12, li_13, li_14, li_15, li_16, li_18, li_19, li_20, li_24, li_28, li_29, li_30, li_31, li_32, li_36, li_40, li_41, li_42, li_43, li_45, li_48, li_49, li_50, li_56, li_57, li_59, li_60, li_61, li_62, li_63, li_64, li_97, li_99, li_100, li_120, li_121, li_122, li_255, li_270, li_300, li_400, li_500, li_540, li_1000, li_1024, li_1440, li_9999, li_11264, li_32768, li_268435456, li_1073741824, li_m, li_o, iN_add, iN_mul, iN_lt, iN_in, iN_cl, iN_inj, iM_ne, iM_ne', iN_or, iN_xor, iN_bd, sh31n, iN_shl2, iN_shr2, iN_bit2, Nat.one_mul, oB, iff_t, iff_f, if_true, if_false, g_up_ne, g_up_eq, g_z_ne, g_z_eq]
              refine ⟨P, T, C, upR R t (R t + 1), F, hlay, hP.keep (fun a j h => fr a j (by omega) (by omega) (by omega) (by omega)), ?_, hD.keep (fun a j h => fr a j (by omega) (by omega) (by omega) (by omega)), hN.keep (fun a j h => fr a j (by omega) (by omega) (by omega) (by omega)), hB.keep (fun a j h => fr a j (by omega) (by omega) (by omega) (by omega)), hK.keep (fun a j h => fr a j (by omega) (by omega) (by omega) (by omega)), hC.keep (fun a j h => fr a j (by omega) (by omega) (by omega) (by omega)), (hX.keep hL.2.2.2.2.1 hT6 (fun a j h => fr a j (by omega) (by omega) (by omega) (by omega))).lay (fun u hu => ?_) (fun u hu => ?_)⟩
              · refine ⟨hT6, hF0, hC2, ?_, ?_, ?_, ?_, ?_, ?_, fun u hu => ?_, fun u hu => ?_, fun u hu => ?_, fun u r hu hr => ?_, fun u r hu hr => ?_⟩
                · rw [fr _ _ (by omega) (by omega) (by omega) (by omega)]; exact t1
                · rw [fr _ _ (by omega) (by omega) (by omega) (by omega)]; exact t2
                · rw [fr _ _ (by omega) (by omega) (by omega) (by omega)]; exact t3
                · rw [fr _ _ (by omega) (by omega) (by omega) (by omega)]; exact t4
                · rw [fr _ _ (by omega) (by omega) (by omega) (by omega)]; exact c1
                · rw [fr _ _ (by omega) (by omega) (by omega) (by omega)]; exact c2
                · obtain ⟨v1, v2, v3, v4, v5⟩ := g7 u hu
                  refine ⟨?_, ?_, ?_, ?_, fun p hp => ?_⟩
                  · simp (disch := omega) only [fr]; exact v1
                  · simp (disch := omega) only [fr]; exact v2
                  · simp (disch := omega) only [fr]; exact v3
                  · by_cases he : u = t
                    · subst he
                      unfold mkRm mkR
                      simp (disch := omega) only [li_0, li_1, li_2, li_3, li_4, li_5, li_6, li_7, li_8, li_9, li_10, li_11, li_12, li_13, li_14, li_15, li_16, li_18, li_19, li_20, li_24, li_28, li_29, li_30, li_31, li_32, li_36, li_40, li_41, li_42, li_43, li_45, li_48, li_49, li_50, li_56, li_57, li_59, li_60, li_61, li_62, li_63, li_64, li_97, li_99, li_100, li_120, li_121, li_122, li_255, li_270, li_300, li_400, li_500, li_540, li_1000, li_1024, li_1440, li_9999, li_11264, li_32768, li_268435456, li_1073741824, li_m, li_o, iN_add, iN_mul, iN_lt, iN_in, iN_cl, iN_inj, iM_ne, iM_ne', iN_or, iN_xor, iN_bd, sh31n, iN_shl2, iN_shr2, iN_bit2, Nat.one_mul, oB, iff_t, iff_f, if_true, if_false, g_up_ne, g_up_eq, g_z_ne, g_z_eq]
                    · simp (disch := omega) only [fr]; exact v4
                  · simp (disch := omega) only [fr]; exact v5 p hp
                · have := g8 u hu
                  unfold vT2 at *
                  simp (disch := omega) only [fr]
                  exact this
                · obtain ⟨v1, v2⟩ := g9 u hu
                  by_cases he : u = t
                  · subst he
                    unfold vT3
                    rw [upR_eq]
                    refine ⟨by unfold mkRm mkR; simp (disch := omega) only [li_0, li_1, li_2, li_3, li_4, li_5, li_6, li_7, li_8, li_9, li_10, li_11, li_12, li_13, li_14, li_15, li_16, li_18, li_19, li_20, li_24, li_28, li_29, li_30, li_31, li_32, li_36, li_40, li_41, li_42, li_43, li_45, li_48, li_49, li_50, li_56, li_57, li_59, li_60, li_61, li_62, li_63, li_64, li_97, li_99, li_100, li_120, li_121, li_122, li_255, li_270, li_300, li_400, li_500, li_540, li_1000, li_1024, li_1440, li_9999, li_11264, li_32768, li_268435456, li_1073741824, li_m, li_o, iN_add, iN_mul, iN_lt, iN_in, iN_cl, iN_inj, iM_ne, iM_ne', iN_or, iN_xor, iN_bd, sh31n, iN_shl2, iN_shr2, iN_bit2, Nat.one_mul, oB, iff_t, iff_f, if_true, if_false, g_up_ne, g_up_eq, g_z_ne, g_z_eq], fun p hp => ?_⟩
                    rw [fr _ _ (by omega) (by omega) (by omega) (by omega)]
                    rcases v2 p hp with q | ⟨r, q1, q2⟩
                    · exact Or.inl q
                    · exact Or.inr ⟨r, by omega, q2⟩
                  · unfold vT3
                    rw [upR_ne he]
                    simp (disch := omega) only [fr]
                    exact ⟨v1, v2⟩
                · have h9 := hRle u hu
                  by_cases he : u = t
                  · subst he
                    rw [upR_eq] at hr
                    by_cases h8 : r = R u
                    · subst h8
                      unfold vR1 mkRm mkR
                      simp (disch := omega) only [li_0, li_1, li_2, li_3, li_4, li_5, li_6, li_7, li_8, li_9, li_10, li_11, li_12, li_13, li_14, li_15, li_16, li_18, li_19, li_20, li_24, li_28, li_29, li_30, li_31, li_32, li_36, li_40, li_41, li_42, li_43, li_45, li_48, li_49, li_50, li_56, li_57, li_59, li_60, li_61, li_62, li_63, li_64, li_97, li_99, li_100, li_120, li_121, li_122, li_255, li_270, li_300, li_400, li_500, li_540, li_1000, li_1024, li_1440, li_9999, li_11264, li_32768, li_268435456, li_1073741824, li_m, li_o, iN_add, iN_mul, iN_lt, iN_in, iN_cl, iN_inj, iM_ne, iM_ne', iN_or, iN_xor, iN_bd, sh31n, iN_shl2, iN_shr2, iN_bit2, Nat.one_mul, oB, iff_t, iff_f, if_true, if_false, g_up_ne, g_up_eq, g_z_ne, g_z_eq, and_self]
                    · have := g10 u r hu (by omega)
                      unfold vR1 at *
                      simp (disch := omega) only [fr]
                      exact this
                  · rw [upR_ne he] at hr
                    have := g10 u r hu hr
                    unfold vR1 at *
                    simp (disch := omega) only [fr]
                    exact this
                · have h9 := hRle u hu
                  by_cases he : u = t
                  · subst he
                    rw [upR_eq] at hr
                    by_cases h8 : r = R u
                    · subst h8
                      unfold vR2 mkRm mkR
                      simp (disch := omega) only [li_0, li_1, li_2, li_3, li_4, li_5, li_6, li_7, li_8, li_9, li_10, li_11, li_12, li_13, li_14, li_15, li_16, li_18, li_19, li_20, li_24, li_28, li_29, li_30, li_31, li_32, li_36, li_40, li_41, li_42, li_43, li_45, li_48, li_49, li_50, li_56, li_57, li_59, li_60, li_61, li_62, li_63, li_64, li_97, li_99, li_100, li_120, li_121, li_122, li_255, li_270, li_300, li_400, li_500, li_540, li_1000, li_1024, li_1440, li_9999, li_11264, li_32768, li_268435456, li_1073741824, li_m, li_o, iN_add, iN_mul, iN_lt, iN_in, iN_cl, iN_inj, iM_ne, iM_ne', iN_or, iN_xor, iN_bd, sh31n, iN_shl2, iN_shr2, iN_bit2, Nat.one_mul, oB, iff_t, iff_f, if_true, if_false, g_up_ne, g_up_eq, g_z_ne, g_z_eq]
                      exact ⟨isB_of _, Or.inr rfl, ⟨b, rfl, hb1, hb2⟩, ⟨c, rfl, hc1, hc2⟩⟩
                    · have := g11 u r hu (by omega)
                      unfold vR2 at *
                      simp (disch := omega) only [fr]
                      exact this
                  · rw [upR_ne he] at hr
                    have := g11 u r hu hr
                    unfold vR2 at *
                    simp (disch := omega) only [fr]
                    exact this
              · rw [pS2_ne (by omega), nS2_ne (by omega)]
              · have := hL.2.2.2.2.1.at hu
                rw [pS1, nS1_ne (by omega)]
        · refine ⟨iM, σ, M, N, M, ?_, hL.1, ?_, h0⟩
          · unfold f_X11_room b_X11_room_0
            rw [o1]
            by_cases hr : R t = 10
            · simp (disch := omega) only [li_0, li_1, li_2, li_3, li_4, li_5, li_6, li_7, li_8, li_9, li_10, li_11, li_12, li_13, li_14, li_15, li_16, li_18, li_19, li_20, li_24, li_28, li_29, li_30, li_31, li_32, li_36, li_40, li_41, li_42, li_43, li_45, li_48, li_49, li_50, li_56, li_57, li_59, li_60, li_61, li_62, li_63, li_64, li_97, li_99, li_100, li_120, li_121, li_122, li_255, li_270, li_300, li_400, li_500, li_540, li_1000, li_1024, li_1440, li_9999, li_11264, li_32768, li_268435456, li_1073741824, li_m, li_o, iN_add, iN_mul, iN_lt, iN_in, iN_cl, iN_inj, iM_ne, iM_ne', iN_or, iN_xor, iN_bd, sh31n, iN_shl2, iN_shr2, iN_bit2, Nat.one_mul, oB, iff_t, iff_f, if_true, if_false, g_up_ne, g_up_eq, g_z_ne, g_z_eq, is_of y2, e1]
            · simp (disch := omega) only [li_0, li_1, li_2, li_3, li_4, li_5, li_6, li_7, li_8, li_9, li_10, li_11, li_12, li_13, li_14, li_15, li_16, li_18, li_19, li_20, li_24, li_28, li_29, li_30, li_31, li_32, li_36, li_40, li_41, li_42, li_43, li_45, li_48, li_49, li_50, li_56, li_57, li_59, li_60, li_61, li_62, li_63, li_64, li_97, li_99, li_100, li_120, li_121, li_122, li_255, li_270, li_300, li_400, li_500, li_540, li_1000, li_1024, li_1440, li_9999, li_11264, li_32768, li_268435456, li_1073741824, li_m, li_o, iN_add, iN_mul, iN_lt, iN_in, iN_cl, iN_inj, iM_ne, iM_ne', iN_or, iN_xor, iN_bd, sh31n, iN_shl2, iN_shr2, iN_bit2, Nat.one_mul, oB, iff_t, iff_f, if_true, if_false, g_up_ne, g_up_eq, g_z_ne, g_z_eq, is_of y2, e1, w_in, eb, ec]
          · unfold f_X12_room b_X12_room_0
            rw [o2]
            simp (disch := omega) only [li_0, li_1, li_2, li_3, li_4, li_5, li_6, li_7, li_8, li_9, li_10, li_11, li_12, li_13, li_14, li_15, li_16, li_18, li_19, li_20, li_24, li_28, li_29, li_30, li_31, li_32, li_36, li_40, li_41, li_42, li_43, li_45, li_48, li_49, li_50, li_56, li_57, li_59, li_60, li_61, li_62, li_63, li_64, li_97, li_99, li_100, li_120, li_121, li_122, li_255, li_270, li_300, li_400, li_500, li_540, li_1000, li_1024, li_1440, li_9999, li_11264, li_32768, li_268435456, li_1073741824, li_m, li_o, iN_add, iN_mul, iN_lt, iN_in, iN_cl, iN_inj, iM_ne, iM_ne', iN_or, iN_xor, iN_bd, sh31n, iN_shl2, iN_shr2, iN_bit2, Nat.one_mul, oB, iff_t, iff_f, if_true, if_false, g_up_ne, g_up_eq, g_z_ne, g_z_eq, eb, ec, e2]
      · refine ⟨iM, σ, M, N, M, ?_, hL.1, ?_, h0⟩
        · unfold f_X11_room b_X11_room_0
          rw [o1]
          by_cases hr : R t = 10
          · simp (disch := omega) only [li_0, li_1, li_2, li_3, li_4, li_5, li_6, li_7, li_8, li_9, li_10, li_11, li_12, li_13, li_14, li_15, li_16, li_18, li_19, li_20, li_24, li_28, li_29, li_30, li_31, li_32, li_36, li_40, li_41, li_42, li_43, li_45, li_48, li_49, li_50, li_56, li_57, li_59, li_60, li_61, li_62, li_63, li_64, li_97, li_99, li_100, li_120, li_121, li_122, li_255, li_270, li_300, li_400, li_500, li_540, li_1000, li_1024, li_1440, li_9999, li_11264, li_32768, li_268435456, li_1073741824, li_m, li_o, iN_add, iN_mul, iN_lt, iN_in, iN_cl, iN_inj, iM_ne, iM_ne', iN_or, iN_xor, iN_bd, sh31n, iN_shl2, iN_shr2, iN_bit2, Nat.one_mul, oB, iff_t, iff_f, if_true, if_false, g_up_ne, g_up_eq, g_z_ne, g_z_eq, is_of y2, e1]
          · simp (disch := omega) only [li_0, li_1, li_2, li_3, li_4, li_5, li_6, li_7, li_8, li_9, li_10, li_11, li_12, li_13, li_14, li_15, li_16, li_18, li_19, li_20, li_24, li_28, li_29, li_30, li_31, li_32, li_36, li_40, li_41, li_42, li_43, li_45, li_48, li_49, li_50, li_56, li_57, li_59, li_60, li_61, li_62, li_63, li_64, li_97, li_99, li_100, li_120, li_121, li_122, li_255, li_270, li_300, li_400, li_500, li_540, li_1000, li_1024, li_1440, li_9999, li_11264, li_32768, li_268435456, li_1073741824, li_m, li_o, iN_add, iN_mul, iN_lt, iN_in, iN_cl, iN_inj, iM_ne, iM_ne', iN_or, iN_xor, iN_bd, sh31n, iN_shl2, iN_shr2, iN_bit2, Nat.one_mul, oB, iff_t, iff_f, if_true, if_false, g_up_ne, g_up_eq, g_z_ne, g_z_eq, is_of y2, e1, w_in, eb]
        · unfold f_X12_room b_X12_room_0
          rw [o2]
          simp (disch := omega) only [li_0, li_1, li_2, li_3, li_4, li_5, li_6, li_7, li_8, li_9, li_10, li_11, li_12, li_13, li_14, li_15, li_16, li_18, li_19, li_20, li_24, li_28, li_29, li_30, li_31, li_32, li_36, li_40, li_41, li_42, li_43, li_45, li_48, li_49, li_50, li_56, li_57, li_59, li_60, li_61, li_62, li_63, li_64, li_97, li_99, li_100, li_120, li_121, li_122, li_255, li_270, li_300, li_400, li_500, li_540, li_1000, li_1024, li_1440, li_9999, li_11264, li_32768, li_268435456, li_1073741824, li_m, li_o, iN_add, iN_mul, iN_lt, iN_in, iN_cl, iN_inj, iM_ne, iM_ne', iN_or, iN_xor, iN_bd, sh31n, iN_shl2, iN_shr2, iN_bit2, Nat.one_mul, oB, iff_t, iff_f, if_true, if_false, g_up_ne, g_up_eq, g_z_ne, g_z_eq, eb, e2]
  · obtain ⟨o1, o2⟩ := lasts_out (σ := σ) hT hx
    refine ⟨iM, σ, M, N, M, ?_, hL.1, ?_, h0⟩
    · unfold f_X11_room b_X11_room_0
      rw [o1]; rfl
    · unfold f_X12_room b_X12_room_0
      rw [o2]; rfl
