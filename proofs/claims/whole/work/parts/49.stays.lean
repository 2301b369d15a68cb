/-! stays, gone: the calls. -/
theorem n10 : ¬ (iN 1 = iN 0) := by decide
theorem n10' : ¬ (iN 1 = 0) := by decide
theorem call_stays {σ : gS} {M : gM} (h : Inv σ M) (x y z : Int32) : ∃ r M1 M2, f_X11_stays x y z σ M = some (r, M1) ∧ f_X12_stays x y z σ M1 = some (r, M2) ∧ Inv σ M2 := by
  obtain ⟨P, T, C, R, F, hL, hP, hT, hD, hN, hB, hK, hC, hX⟩ := h
  have hP' := hP
  obtain ⟨hP10, p1, p2, g3, g4, g5, g6, g7, g8⟩ := hP'
  have hT6 := hT.1
  have hIv : Iv σ M P T C R F := ⟨hL, hP, hT, hD, hN, hB, hK, hC, hX⟩
  refine lock (σ := σ) (Q := fun M => Inv σ M) (fun Mm hg => ?_)
  have hme := mEq.of hg
  have mp : Mm 40 1 = iN P := by rw [hme _ _ (by omega) (by omega)]; exact p2
  have same : Inv σ (mg M Mm) := by rw [hg]; exact ⟨P, T, C, R, F, hIv⟩
  rcases idx_or x P (by omega) with ⟨p, hp, rfl⟩ | hx
  · have ia := is_of (hL.2.1.1 p hp).1
    obtain ⟨_, _, _, _, _, _, a6, a7, _⟩ := g3 p hp
    have m47 : Mm 47 p = M 47 p := hme _ _ (by omega) (by omega)
    by_cases k1 : M 47 p = iN 0
    · have cgo : f_X11_stays (iN p) y z σ M = (f_X11_isStay y z).bind fun q25 => if q25 = 0 then some (0, M) else (f_X11_leave (iN p) y z σ M).bind fun q35 => if q35.1 = 0 then some (0, q35.2) else some (1, (g_up (g_up q35.2 (100 + p) 4 y) (100 + p) 5 z)) := by
        unfold f_X11_stays b_X11_stays_0
        rw [at_in hL.2.1 p1 hP10 hp, oB, if_neg (by omega)]
        simp only [ia, if_true]
        rw [if_pos (by rw [a6]; exact k1)]
      have mgo : f_X12_stays (iN p) y z σ Mm = (f_X12_in y 0 5).bind fun q20 => if q20 = 0 then some (0, Mm) else (f_X12_in z y 5).bind fun q29 => if q29 = 0 then some (0, Mm) else (f_X12_leaves (iN p) y z σ Mm).bind fun q39 => if q39.1 = 0 then some (0, q39.2) else some (1, (g_up (g_up q39.2 45 p y) 46 p z)) := by
        unfold f_X12_stays b_X12_stays_0
        rw [pers_in mp hP10 hp, oB, if_neg (by decide), if_pos (show g_in (iN p) 10 = true by rw [iN_in (by omega)]; omega), iN_cl (by omega), if_pos (by rw [m47]; exact k1)]
        simp only [if_pos (show g_in (iN p) 10 = true by rw [iN_in (by omega)]; omega)]
      rcases in_cases y (a := 0) (b := 5) (by omega) (by omega) with ⟨f, rfl, _, hf, e5⟩ | ⟨e5, _⟩
      · rcases in_cases z (a := f) (b := 5) (by omega) (by omega) with ⟨u, rfl, hfu, hu, e6⟩ | ⟨e6, _⟩
        · have hstay : f_X11_isStay (iN f) (iN u) = some (iN 1) := by
            rw [stay_c, e5]; exact e6
          have hin : ∀ t, t < T → f_X12_in (iN t) (iN f) (iN u) = some (bI (!(decide (t < f) || decide (u < t)))) := fun t ht => by
            unfold f_X12_in b_X12_in_0
            by_cases q1 : t < f
            · rw [if_pos (by rw [iN_lt (by omega) (by omega)]; exact q1), decide_eq_true q1]; rfl
            · rw [if_neg (by rw [iN_lt (by omega) (by omega)]; exact q1), decide_eq_false q1]
              by_cases q2 : u < t
              · rw [if_pos (by rw [iN_lt (by omega) (by omega)]; exact q2), decide_eq_true q2]; rfl
              · rw [if_neg (by rw [iN_lt (by omega) (by omega)]; exact q2), decide_eq_false q2]; rfl
          rcases leave_lock (x2 := iN f) (x3 := iN u) (y2 := iN f) (y3 := iN u) (out := fun t => decide (t < f) || decide (u < t)) hIv hg hp (fun t ht => by
            rw [iN_lt (by omega) (by omega), iN_lt (by omega) (by omega)]; simp only [Bool.or_eq_true, decide_eq_true_iff]) hin with ⟨q1, q2⟩ | ⟨Mc', Mm', q1, q2, q3, q4, q5, q6⟩
          · refine ⟨iN 0, M, Mm, ?_, ?_, fun _ _ _ _ => rfl, fun _ _ _ => rfl, same⟩
            · rw [cgo, hstay, oB, if_neg (by decide), q1]; rfl
            · rw [mgo, show (0 : Int32) = iN 0 from rfl, show (5 : Int32) = iN 5 from rfl, e5, oB, if_neg (by decide), e6, oB, if_neg (by decide), q2]; rfl
          · refine ⟨iN 1, (g_up (g_up Mc' (100 + p) 4 (iN f)) (100 + p) 5 (iN u)), (g_up (g_up Mm' 45 p (iN f)) 46 p (iN u)), ?_, ?_, fun a k h1 h2 => ?_, fun a k h => ?_, ?_⟩
            · rw [cgo, hstay, oB, if_neg (by decide), q1, oB, if_neg n10']; rfl
            · rw [mgo, show (0 : Int32) = iN 0 from rfl, show (5 : Int32) = iN 5 from rfl, e5, oB, if_neg (by decide), e6, oB, if_neg (by decide), q2, oB, if_neg n10]; rfl
            · rw [← q3 a k h1 h2]; simp (disch := omega) only [li_0, li_1, li_2, li_3, li_4, li_5, li_6, li_7, li_8, li_9, li_10, li_11, li_12, li_13, li_14, li_15, li_16, li_18, li_19, li_20, li_24, li_28, li_29, li_30, li_31, li_32, li_36, li_40, li_41, li_42, li_43, li_45, li_48, li_49, li_50, li_56, li_57, li_59, li_60, li_61, li_62, li_63, li_64, li_97, li_99, li_100, li_120, li_121, li_122, li_255, li_270, li_300, li_400, li_500, li_540, li_1000, li_1024, li_1440, li_9999, li_11264, li_32768, li_268435456, li_1073741824, li_m, li_o, iN_add, iN_mul, iN_lt, iN_in, iN_cl, iN_inj, iM_ne, iM_ne', iN_or, iN_xor, iN_bd, sh31n, iN_shl2, iN_shr2, iN_bit2, Nat.one_mul, oB, iff_t, iff_f, if_true, if_false, g_up_ne, g_up_eq, g_z_ne, g_z_eq]
            · rw [← q4 a k h]; simp (disch := omega) only [li_0, li_1, li_2, li_3, li_4, li_5, li_6, li_7, li_8, li_9, li_10, li_11, li_12, li_13, li_14, li_15, li_16, li_18, li_19, li_20, li_24, li_28, li_29, li_30, li_31, li_32, li_36, li_40, li_41, li_42, li_43, li_45, li_48, li_49, li_50, li_56, li_57, li_59, li_60, li_61, li_62, li_63, li_64, li_97, li_99, li_100, li_120, li_121, li_122, li_255, li_270, li_300, li_400, li_500, li_540, li_1000, li_1024, li_1440, li_9999, li_11264, li_32768, li_268435456, li_1073741824, li_m, li_o, iN_add, iN_mul, iN_lt, iN_in, iN_cl, iN_inj, iM_ne, iM_ne', iN_or, iN_xor, iN_bd, sh31n, iN_shl2, iN_shr2, iN_bit2, Nat.one_mul, oB, iff_t, iff_f, if_true, if_false, g_up_ne, g_up_eq, g_z_ne, g_z_eq]
            · obtain ⟨hL, hP, hT, hD, hN, hB, hK, hC, hX⟩ := q5
              have fr : ∀ a j, ¬ (a = 100 + p ∧ (j = 4 ∨ j = 5)) → ¬ (a = 45 ∧ j = p) → ¬ (a = 46 ∧ j = p) → mg (g_up (g_up Mc' (100 + p) 4 (iN f)) (100 + p) 5 (iN u)) (g_up (g_up Mm' 45 p (iN f)) 46 p (iN u)) a j = mg Mc' Mm' a j := fun a j z1 z2 z3 => by
                unfold mg
                split
                · simp (disch := omega) only [li_0, li_1, li_2, li_3, li_4, li_5, li_6, li_7, li_8, li_9, li_10, li_11, li_12, li_13, li_14, li_15, li_16, li_18, li_19, li_20, li_24, li_28, li_29, li_30, li_31, li_32, li_36, li_40, li_41, li_42, li_43, li_45, li_48, li_49, li_50, li_56, li_57, li_59, li_60, li_61, li_62, li_63, li_64, li_97, li_99, li_100, li_120, li_121, li_122, li_255, li_270, li_300, li_400, li_500, li_540, li_1000, li_1024, li_1440, li_9999, li_11264, li_32768, li_268435456, li_1073741824, li_m, li_o, iN_add, iN_mul, iN_lt, iN_in, iN_cl, iN_inj, iM_ne, iM_ne', iN_or, iN_xor, iN_bd, sh31n, iN_shl2, iN_shr2, iN_bit2, Nat.one_mul, oB, iff_t, iff_f, if_true, if_false, g_up_ne, g_up_eq, g_z_ne, g_z_eq]
                · simp (disch := omega) only [li_0, li_1, li_2, li_3, li_4, li_5, li_6, li_7, li_8, li_9, li_10, li_11, li_12, li_13, li_14, li_15, li_16, li_18, li_19, li_20, li_24, li_28, li_29, li_30, li_31, li_32, li_36, li_40, li_41, li_42, li_43, li_45, li_48, li_49, li_50, li_56, li_57, li_59, li_60, li_61, li_62, li_63, li_64, li_97, li_99, li_100, li_120, li_121, li_122, li_255, li_270, li_300, li_400, li_500, li_540, li_1000, li_1024, li_1440, li_9999, li_11264, li_32768, li_268435456, li_1073741824, li_m, li_o, iN_add, iN_mul, iN_lt, iN_in, iN_cl, iN_inj, iM_ne, iM_ne', iN_or, iN_xor, iN_bd, sh31n, iN_shl2, iN_shr2, iN_bit2, Nat.one_mul, oB, iff_t, iff_f, if_true, if_false, g_up_ne, g_up_eq, g_z_ne, g_z_eq]
              refine ⟨P, T, C, R, F, hL, ?_, hT.keep (fun a j h => by exact fr a j (by omega) (by omega) (by omega)) (fun t ht => (hL.2.2.2.1.1 t ht).1), hD.keep (fun a j h => by exact fr a j (by omega) (by omega) (by omega)), hN.keep (fun a j h => by exact fr a j (by omega) (by omega) (by omega)), hB.keep (fun a j h => by exact fr a j (by omega) (by omega) (by omega)), hK.keep (fun a j h => by exact fr a j (by omega) (by omega) (by omega)), hC.keep (fun a j h => by exact fr a j (by omega) (by omega) (by omega)), hX.keep hL.2.2.2.2.1 hT.1 (fun a j h => by exact fr a j (by omega) (by omega) (by omega))⟩
              obtain ⟨hP10, p1, p2, g3, g4, g5, g6, g7, g8⟩ := hP
              refine ⟨hP10, ?_, ?_, fun q hq => ?_, fun q hq => ?_, fun q hq => ?_, fun q hq => ?_, fun q hq hq2 => ?_, fun a b ha hb => ?_⟩
              · rw [fr _ _ (by omega) (by omega) (by omega)]; exact p1
              · rw [fr _ _ (by omega) (by omega) (by omega)]; exact p2
              · obtain ⟨w0, w1, w2, w3, w4, w5, w6, w7, w8⟩ := g3 q hq
                refine ⟨?_, ?_, ?_, ?_, ?_, ?_, ?_, ?_, ?_⟩
                · simp (disch := omega) only [fr]; exact w0
                · simp (disch := omega) only [fr]; exact w1
                · simp (disch := omega) only [fr]; exact w2
                · simp (disch := omega) only [fr]; exact w3
                · by_cases e : q = p
                  · subst e
                    rw [mg_c (by omega), mg_m (by omega)]; simp (disch := omega) only [li_0, li_1, li_2, li_3, li_4, li_5, li_6, li_7, li_8, li_9, li_10, li_11, li_12, li_13, li_14, li_15, li_16, li_18, li_19, li_20, li_24, li_28, li_29, li_30, li_31, li_32, li_36, li_40, li_41, li_42, li_43, li_45, li_48, li_49, li_50, li_56, li_57, li_59, li_60, li_61, li_62, li_63, li_64, li_97, li_99, li_100, li_120, li_121, li_122, li_255, li_270, li_300, li_400, li_500, li_540, li_1000, li_1024, li_1440, li_9999, li_11264, li_32768, li_268435456, li_1073741824, li_m, li_o, iN_add, iN_mul, iN_lt, iN_in, iN_cl, iN_inj, iM_ne, iM_ne', iN_or, iN_xor, iN_bd, sh31n, iN_shl2, iN_shr2, iN_bit2, Nat.one_mul, oB, iff_t, iff_f, if_true, if_false, g_up_ne, g_up_eq, g_z_ne, g_z_eq]
                  · simp (disch := omega) only [fr]; exact w4
                · by_cases e : q = p
                  · subst e
                    rw [mg_c (by omega), mg_m (by omega)]; simp (disch := omega) only [li_0, li_1, li_2, li_3, li_4, li_5, li_6, li_7, li_8, li_9, li_10, li_11, li_12, li_13, li_14, li_15, li_16, li_18, li_19, li_20, li_24, li_28, li_29, li_30, li_31, li_32, li_36, li_40, li_41, li_42, li_43, li_45, li_48, li_49, li_50, li_56, li_57, li_59, li_60, li_61, li_62, li_63, li_64, li_97, li_99, li_100, li_120, li_121, li_122, li_255, li_270, li_300, li_400, li_500, li_540, li_1000, li_1024, li_1440, li_9999, li_11264, li_32768, li_268435456, li_1073741824, li_m, li_o, iN_add, iN_mul, iN_lt, iN_in, iN_cl, iN_inj, iM_ne, iM_ne', iN_or, iN_xor, iN_bd, sh31n, iN_shl2, iN_shr2, iN_bit2, Nat.one_mul, oB, iff_t, iff_f, if_true, if_false, g_up_ne, g_up_eq, g_z_ne, g_z_eq]
                  · simp (disch := omega) only [fr]; exact w5
                · simp (disch := omega) only [fr]; exact w6
                · simp (disch := omega) only [fr]; exact w7
                · simp (disch := omega) only [fr]; exact w8
              · obtain ⟨w0, w1, w2, w3⟩ := g4 q hq
                refine ⟨?_, ?_, ?_, ?_⟩
                · simp (disch := omega) only [fr]; exact w0
                · simp (disch := omega) only [fr]; exact w1
                · simp (disch := omega) only [fr]; exact w2
                · by_cases e : q = p
                  · subst e
                    refine ⟨f, u, ?_, ?_, hfu, hu⟩
                    · rw [mg_m (by omega)]; simp (disch := omega) only [li_0, li_1, li_2, li_3, li_4, li_5, li_6, li_7, li_8, li_9, li_10, li_11, li_12, li_13, li_14, li_15, li_16, li_18, li_19, li_20, li_24, li_28, li_29, li_30, li_31, li_32, li_36, li_40, li_41, li_42, li_43, li_45, li_48, li_49, li_50, li_56, li_57, li_59, li_60, li_61, li_62, li_63, li_64, li_97, li_99, li_100, li_120, li_121, li_122, li_255, li_270, li_300, li_400, li_500, li_540, li_1000, li_1024, li_1440, li_9999, li_11264, li_32768, li_268435456, li_1073741824, li_m, li_o, iN_add, iN_mul, iN_lt, iN_in, iN_cl, iN_inj, iM_ne, iM_ne', iN_or, iN_xor, iN_bd, sh31n, iN_shl2, iN_shr2, iN_bit2, Nat.one_mul, oB, iff_t, iff_f, if_true, if_false, g_up_ne, g_up_eq, g_z_ne, g_z_eq]
                    · rw [mg_m (by omega)]; simp (disch := omega) only [li_0, li_1, li_2, li_3, li_4, li_5, li_6, li_7, li_8, li_9, li_10, li_11, li_12, li_13, li_14, li_15, li_16, li_18, li_19, li_20, li_24, li_28, li_29, li_30, li_31, li_32, li_36, li_40, li_41, li_42, li_43, li_45, li_48, li_49, li_50, li_56, li_57, li_59, li_60, li_61, li_62, li_63, li_64, li_97, li_99, li_100, li_120, li_121, li_122, li_255, li_270, li_300, li_400, li_500, li_540, li_1000, li_1024, li_1440, li_9999, li_11264, li_32768, li_268435456, li_1073741824, li_m, li_o, iN_add, iN_mul, iN_lt, iN_in, iN_cl, iN_inj, iM_ne, iM_ne', iN_or, iN_xor, iN_bd, sh31n, iN_shl2, iN_shr2, iN_bit2, Nat.one_mul, oB, iff_t, iff_f, if_true, if_false, g_up_ne, g_up_eq, g_z_ne, g_z_eq]
                  · simp (disch := omega) only [fr]; exact w3
              · have := g5 q hq
                unfold vP3 at *
                simp (disch := omega) only [fr]
                exact this
              · have := g6 q hq
                unfold vP4 at *
                simp (disch := omega) only [fr]
                exact this
              · have := g7 q hq hq2
                unfold vP5 at *
                simp (disch := omega) only [fr]
                exact this
              · simp (disch := omega) only [fr]; exact g8 a b ha hb
        · refine ⟨iN 0, M, Mm, ?_, ?_, fun _ _ _ _ => rfl, fun _ _ _ => rfl, same⟩
          · rw [cgo, stay_c, e5, oB, if_neg (by decide), e6]; rfl
          · rw [mgo, show (0 : Int32) = iN 0 from rfl, show (5 : Int32) = iN 5 from rfl, e5, oB, if_neg (by decide), e6]; rfl
      · refine ⟨iN 0, M, Mm, ?_, ?_, fun _ _ _ _ => rfl, fun _ _ _ => rfl, same⟩
        · rw [cgo, stay_c, e5]; rfl
        · rw [mgo, show (0 : Int32) = iN 0 from rfl, show (5 : Int32) = iN 5 from rfl, e5]; rfl
    · refine ⟨iN 0, M, Mm, ?_, ?_, fun _ _ _ _ => rfl, fun _ _ _ => rfl, same⟩
      · unfold f_X11_stays b_X11_stays_0
        rw [at_in hL.2.1 p1 hP10 hp, oB, if_neg (by omega)]
        simp only [ia, if_true]
        rw [if_neg (by rw [a6]; exact k1)]; rfl
      · unfold f_X12_stays b_X12_stays_0
        rw [pers_in mp hP10 hp, oB, if_neg (by decide), if_pos (show g_in (iN p) 10 = true by rw [iN_in (by omega)]; omega), iN_cl (by omega), if_neg (by rw [m47]; exact k1)]; rfl
  · refine ⟨iN 0, M, Mm, ?_, ?_, fun _ _ _ _ => rfl, fun _ _ _ => rfl, same⟩
    · unfold f_X11_stays b_X11_stays_0
      rw [at_out p1 hP10 hx]; rfl
    · unfold f_X12_stays b_X12_stays_0
      rw [pers_out mp hP10 hx]; rfl
/-- a person goes: f is its friend, or itself -/
theorem inv_gone {σ : gS} {M M' : gM} {P T C p f : Nat} {R F : Nat → Nat} (h : Iv σ M P T C R F) (hp : p < P) (hf : f < P) (hff : (M 48 p = iM ∧ f = p) ∨ M 48 p = iN f) (c1 : M' (100 + p) 6 = iN 1) (c2 : M' 47 p = iN 1) (c3 : M' (100 + p) 7 = iM) (c4 : M' (100 + f) 7 = iM) (c5 : M' 48 p = iM) (c6 : M' 48 f = iM)
    (fr : ∀ a j, ¬ (a = 100 + p ∧ (j = 6 ∨ j = 7)) → ¬ (a = 100 + f ∧ j = 7) → ¬ (a = 47 ∧ j = p) → ¬ (a = 48 ∧ (j = p ∨ j = f)) → M' a j = M a j) : Iv σ M' P T C R F := by
  obtain ⟨hL, hP, hT, hD, hN, hB, hK, hC, hX⟩ := h
  have hP10 := hP.1
  refine ⟨hL, ?_, hT.keep (fun a j h => fr a j (by omega) (by omega) (by omega) (by omega)) (fun t ht => (hL.2.2.2.1.1 t ht).1), hD.keep (fun a j h => fr a j (by omega) (by omega) (by omega) (by omega)), hN.keep (fun a j h => fr a j (by omega) (by omega) (by omega) (by omega)), hB.keep (fun a j h => fr a j (by omega) (by omega) (by omega) (by omega)), hK.keep (fun a j h => fr a j (by omega) (by omega) (by omega) (by omega)), hC.keep (fun a j h => fr a j (by omega) (by omega) (by omega) (by omega)), hX.keep hL.2.2.2.2.1 hT.1 (fun a j h => fr a j (by omega) (by omega) (by omega) (by omega))⟩
  obtain ⟨_, p1, p2, g3, g4, g5, g6, g7, g8⟩ := hP
  refine ⟨hP10, ?_, ?_, fun q hq => ?_, fun q hq => ?_, fun q hq => ?_, fun q hq => ?_, fun q hq hq2 => ?_, fun a b ha hb => ?_⟩
  · simp (disch := omega) only [fr]; exact p1
  · simp (disch := omega) only [fr]; exact p2
  · obtain ⟨w0, w1, w2, w3, w4, w5, w6, w7, w8⟩ := g3 q hq
    refine ⟨?_, ?_, ?_, ?_, ?_, ?_, ?_, ?_, ?_⟩
    · simp (disch := omega) only [fr]; exact w0
    · simp (disch := omega) only [fr]; exact w1
    · simp (disch := omega) only [fr]; exact w2
    · simp (disch := omega) only [fr]; exact w3
    · simp (disch := omega) only [fr]; exact w4
    · simp (disch := omega) only [fr]; exact w5
    · by_cases e : q = p
      · subst e; rw [c1, c2]
      · simp (disch := omega) only [fr]; exact w6
    · by_cases e : q = p
      · subst e; rw [c3, c5]
      · by_cases e2 : q = f
        · subst e2; rw [c4, c6]
        · simp (disch := omega) only [fr]; exact w7
    · simp (disch := omega) only [fr]; exact w8
  · obtain ⟨w0, w1, w2, w3⟩ := g4 q hq
    refine ⟨?_, ?_, ?_, ?_⟩
    · simp (disch := omega) only [fr]; exact w0
    · simp (disch := omega) only [fr]; exact w1
    · by_cases e : q = p
      · subst e; rw [c2]; exact Or.inr rfl
      · simp (disch := omega) only [fr]; exact w2
    · simp (disch := omega) only [fr]; exact w3
  · have := g5 q hq
    unfold vP3 at *
    simp (disch := omega) only [fr]
    exact this
  · by_cases e : q = p
    · subst e; exact Or.inl c5
    · by_cases e2 : q = f
      · subst e2; exact Or.inl c6
      · rcases g6 q hq with w | ⟨u, u1, u2, u3, u4, u5⟩
        · refine Or.inl ?_
          simp (disch := omega) only [fr]; exact w
        · have n1 : u ≠ p := by
            intro e3; subst e3
            rcases hff with ⟨h1, h2⟩ | h1
            · rw [h1, iM_ne' (by omega)] at u4; exact u4
            · rw [h1, iN_inj (by omega) (by omega)] at u4; omega
          have n2 : u ≠ f := by
            intro e3; subst e3
            rcases hff with ⟨h1, h2⟩ | h1
            · exact n1 h2
            · rcases g6 p hp with w | ⟨v, v1, v2, v3, v4, v5⟩
              · rw [h1, iM_ne (by omega)] at w; exact w
              · rw [h1, iN_inj (by omega) (by omega)] at v3
                subst v3
                rw [v4, iN_inj (by omega) (by omega)] at u4; omega
          refine Or.inr ⟨u, u1, u2, ?_⟩
          simp (disch := omega) only [fr]
          exact ⟨u3, u4, u5⟩
  · have := g7 q hq hq2
    unfold vP5 at *
    simp (disch := omega) only [fr]
    exact this
  · simp (disch := omega) only [fr]; exact g8 a b ha hb
theorem call_gone {σ : gS} {M : gM} (h : Inv σ M) (x : Int32) : ∃ r M1 M2, f_X11_gone x σ M = some (r, M1) ∧ f_X12_gone x σ M1 = some (r, M2) ∧ Inv σ M2 := by
  obtain ⟨P, T, C, R, F, hL, hP, hT, hD, hN, hB, hK, hC, hX⟩ := h
  have hP' := hP
  obtain ⟨hP10, p1, p2, g3, g4, g5, g6, g7, g8⟩ := hP'
  have hT6 := hT.1
  have hIv : Iv σ M P T C R F := ⟨hL, hP, hT, hD, hN, hB, hK, hC, hX⟩
  refine lock (σ := σ) (Q := fun M => Inv σ M) (fun Mm hg => ?_)
  have hme := mEq.of hg
  have mp : Mm 40 1 = iN P := by rw [hme _ _ (by omega) (by omega)]; exact p2
  have same : Inv σ (mg M Mm) := by rw [hg]; exact ⟨P, T, C, R, F, hIv⟩
  rcases idx_or x P (by omega) with ⟨p, hp, rfl⟩ | hx
  · have ia := is_of (hL.2.1.1 p hp).1
    obtain ⟨_, _, _, _, _, _, a6, a7, _⟩ := g3 p hp
    have m47 : Mm 47 p = M 47 p := hme _ _ (by omega) (by omega)
    by_cases k1 : M 47 p = iN 0
    · have hin : ∀ t, t < T → f_X12_in (iN t) (iN 1) (iN 0) = some (bI (!(true : Bool))) := fun t ht => by
        unfold f_X12_in b_X12_in_0
        by_cases q1 : t < 1
        · rw [if_pos (by rw [iN_lt (by omega) (by omega)]; exact q1)]; rfl
        · rw [if_neg (by rw [iN_lt (by omega) (by omega)]; exact q1), if_pos (by rw [iN_lt (by omega) (by omega)]; omega)]; rfl
      have hlk := leave_lock (x2 := 6) (x3 := -1) (y2 := 1) (y3 := 0) (out := fun _ => true) hIv hg hp (fun t ht => ⟨fun _ => rfl, fun _ => Or.inl (by rw [show (6 : Int32) = iN 6 from rfl, iN_lt (by omega) (by omega)]; omega)⟩) hin
      rcases hlk with ⟨q1, q2⟩ | ⟨Mc', Mm', q1, q2, q3, q4, q5, q6⟩
      · refine ⟨iN 0, M, Mm, ?_, ?_, fun _ _ _ _ => rfl, fun _ _ _ => rfl, same⟩
        · unfold f_X11_gone b_X11_gone_0
          rw [at_in hL.2.1 p1 hP10 hp, oB, if_neg (by omega)]
          simp only [ia, if_true]
          rw [if_pos (by rw [a6]; exact k1), q1]; rfl
        · unfold f_X12_gone b_X12_gone_0
          rw [pers_in mp hP10 hp, oB, if_neg (by decide), if_pos (show g_in (iN p) 10 = true by rw [iN_in (by omega)]; omega), iN_cl (by omega), if_pos (by rw [m47]; exact k1), q2]; rfl
      · have q5' := q5
        obtain ⟨hL', hP', hT', hD', hN', hB', hK', hC', hX'⟩ := q5
        obtain ⟨_, p1', p2', g3', g4', g5', g6', g7', g8'⟩ := hP'
        have z1 : Mc' 2 1 = iN P := by rw [mg_c (by omega)] at p1'; exact p1'
        have z48 : ∀ q, Mm' 48 q = M 48 q := fun q => by
          have := q6 48 q (by omega) (by omega)
          rw [mg_m (by omega)] at this; exact this
        have z7 : Mc' (100 + p) 7 = M 48 p := by
          have := (g3' p hp).2.2.2.2.2.2.2.1
          rw [mg_c (by omega), mg_m (by omega), z48] at this; exact this
        have w7 : (g_up Mm' 47 p (vp_nar .boolean 1)) 48 p = M 48 p := by rw [g_up_ne _ _ (by omega), z48]
        have cgo : f_X11_gone (iN p) σ M = (f_X5_at (M 48 p) σ Mc').bind fun q41 => if q41 = 0 then b_X11_gone_54 (100 + p) σ Mc' else if g_is σ q41 6 = true then b_X11_gone_54 (100 + p) σ (g_up Mc' q41 7 (-1)) else none := by
          unfold f_X11_gone b_X11_gone_0
          rw [at_in hL.2.1 p1 hP10 hp, oB, if_neg (by omega)]
          simp only [ia, if_true]
          rw [if_pos (by rw [a6]; exact k1), q1, oB, if_neg n10', ← z7]
        have mgo : f_X12_gone (iN p) σ Mm = if M 48 p = -1 then b_X12_gone_58 (iN p) σ (g_up Mm' 47 p (vp_nar .boolean 1)) else if g_in (M 48 p) 10 = true then b_X12_gone_58 (iN p) σ (g_up (g_up Mm' 47 p (vp_nar .boolean 1)) 48 (M 48 p).toNatClampNeg (-1)) else none := by
          have ig : g_in (iN p) 10 = true := by rw [iN_in (by omega)]; omega
          unfold f_X12_gone b_X12_gone_0
          rw [pers_in mp hP10 hp, oB, if_neg (by decide), if_pos ig, iN_cl (by omega), if_pos (by rw [m47]; exact k1), q2, oB, if_neg n10', if_pos ig, if_pos ig, w7, if_pos ig]
        rcases g6 p hp with hno | ⟨f, hf, hfp, e1, e2, e3⟩
        · refine ⟨iN 1, (g_up (g_up Mc' (100 + p) 7 iM) (100 + p) 6 (iN 1)), (g_up (g_up Mm' 47 p (iN 1)) 48 p iM), ?_, ?_, fun a k h1 h2 => ?_, fun a k h => ?_, P, T, C, R, F, inv_gone (f := p) q5' hp hp (Or.inl ⟨by rw [mg_m (by omega), z48]; exact hno, rfl⟩) ?_ ?_ ?_ ?_ ?_ ?_ ?_⟩
          · rw [cgo, hno, at_out z1 hP10 (fun q hq e => by rw [iM_ne' (by omega)] at e; exact e), oB, if_pos rfl]
            unfold b_X11_gone_54
            simp only [ia, if_true]
            rfl
          · rw [mgo, if_pos (by rw [hno]; rfl)]
            unfold b_X12_gone_58
            rw [if_pos (show g_in (iN p) 10 = true by rw [iN_in (by omega)]; omega), iN_cl (by omega), show vp_nar .boolean 1 = iN 1 from nar_1]
            rfl
          · rw [← q3 a k h1 h2]; simp (disch := omega) only [li_0, li_1, li_2, li_3, li_4, li_5, li_6, li_7, li_8, li_9, li_10, li_11, li_12, li_13, li_14, li_15, li_16, li_18, li_19, li_20, li_24, li_28, li_29, li_30, li_31, li_32, li_36, li_40, li_41, li_42, li_43, li_45, li_48, li_49, li_50, li_56, li_57, li_59, li_60, li_61, li_62, li_63, li_64, li_97, li_99, li_100, li_120, li_121, li_122, li_255, li_270, li_300, li_400, li_500, li_540, li_1000, li_1024, li_1440, li_9999, li_11264, li_32768, li_268435456, li_1073741824, li_m, li_o, iN_add, iN_mul, iN_lt, iN_in, iN_cl, iN_inj, iM_ne, iM_ne', iN_or, iN_xor, iN_bd, sh31n, iN_shl2, iN_shr2, iN_bit2, Nat.one_mul, oB, iff_t, iff_f, if_true, if_false, g_up_ne, g_up_eq, g_z_ne, g_z_eq]
          · rw [← q4 a k h]; simp (disch := omega) only [li_0, li_1, li_2, li_3, li_4, li_5, li_6, li_7, li_8, li_9, li_10, li_11, li_12, li_13, li_14, li_15, li_16, li_18, li_19, li_20, li_24, li_28, li_29, li_30, li_31, li_32, li_36, li_40, li_41, li_42, li_43, li_45, li_48, li_49, li_50, li_56, li_57, li_59, li_60, li_61, li_62, li_63, li_64, li_97, li_99, li_100, li_120, li_121, li_122, li_255, li_270, li_300, li_400, li_500, li_540, li_1000, li_1024, li_1440, li_9999, li_11264, li_32768, li_268435456, li_1073741824, li_m, li_o, iN_add, iN_mul, iN_lt, iN_in, iN_cl, iN_inj, iM_ne, iM_ne', iN_or, iN_xor, iN_bd, sh31n, iN_shl2, iN_shr2, iN_bit2, Nat.one_mul, oB, iff_t, iff_f, if_true, if_false, g_up_ne, g_up_eq, g_z_ne, g_z_eq]
          · rw [mg_c (by omega)]; simp (disch := omega) only [li_0, li_1, li_2, li_3, li_4, li_5, li_6, li_7, li_8, li_9, li_10, li_11, li_12, li_13, li_14, li_15, li_16, li_18, li_19, li_20, li_24, li_28, li_29, li_30, li_31, li_32, li_36, li_40, li_41, li_42, li_43, li_45, li_48, li_49, li_50, li_56, li_57, li_59, li_60, li_61, li_62, li_63, li_64, li_97, li_99, li_100, li_120, li_121, li_122, li_255, li_270, li_300, li_400, li_500, li_540, li_1000, li_1024, li_1440, li_9999, li_11264, li_32768, li_268435456, li_1073741824, li_m, li_o, iN_add, iN_mul, iN_lt, iN_in, iN_cl, iN_inj, iM_ne, iM_ne', iN_or, iN_xor, iN_bd, sh31n, iN_shl2, iN_shr2, iN_bit2, Nat.one_mul, oB, iff_t, iff_f, if_true, if_false, g_up_ne, g_up_eq, g_z_ne, g_z_eq]
          · rw [mg_m (by omega)]; simp (disch := omega) only [li_0, li_1, li_2, li_3, li_4, li_5, li_6, li_7, li_8, li_9, li_10, li_11, li_12, li_13, li_14, li_15, li_16, li_18, li_19, li_20, li_24, li_28, li_29, li_30, li_31, li_32, li_36, li_40, li_41, li_42, li_43, li_45, li_48, li_49, li_50, li_56, li_57, li_59, li_60, li_61, li_62, li_63, li_64, li_97, li_99, li_100, li_120, li_121, li_122, li_255, li_270, li_300, li_400, li_500, li_540, li_1000, li_1024, li_1440, li_9999, li_11264, li_32768, li_268435456, li_1073741824, li_m, li_o, iN_add, iN_mul, iN_lt, iN_in, iN_cl, iN_inj, iM_ne, iM_ne', iN_or, iN_xor, iN_bd, sh31n, iN_shl2, iN_shr2, iN_bit2, Nat.one_mul, oB, iff_t, iff_f, if_true, if_false, g_up_ne, g_up_eq, g_z_ne, g_z_eq]
          · rw [mg_c (by omega)]; simp (disch := omega) only [li_0, li_1, li_2, li_3, li_4, li_5, li_6, li_7, li_8, li_9, li_10, li_11, li_12, li_13, li_14, li_15, li_16, li_18, li_19, li_20, li_24, li_28, li_29, li_30, li_31, li_32, li_36, li_40, li_41, li_42, li_43, li_45, li_48, li_49, li_50, li_56, li_57, li_59, li_60, li_61, li_62, li_63, li_64, li_97, li_99, li_100, li_120, li_121, li_122, li_255, li_270, li_300, li_400, li_500, li_540, li_1000, li_1024, li_1440, li_9999, li_11264, li_32768, li_268435456, li_1073741824, li_m, li_o, iN_add, iN_mul, iN_lt, iN_in, iN_cl, iN_inj, iM_ne, iM_ne', iN_or, iN_xor, iN_bd, sh31n, iN_shl2, iN_shr2, iN_bit2, Nat.one_mul, oB, iff_t, iff_f, if_true, if_false, g_up_ne, g_up_eq, g_z_ne, g_z_eq]
          · rw [mg_c (by omega)]; simp (disch := omega) only [li_0, li_1, li_2, li_3, li_4, li_5, li_6, li_7, li_8, li_9, li_10, li_11, li_12, li_13, li_14, li_15, li_16, li_18, li_19, li_20, li_24, li_28, li_29, li_30, li_31, li_32, li_36, li_40, li_41, li_42, li_43, li_45, li_48, li_49, li_50, li_56, li_57, li_59, li_60, li_61, li_62, li_63, li_64, li_97, li_99, li_100, li_120, li_121, li_122, li_255, li_270, li_300, li_400, li_500, li_540, li_1000, li_1024, li_1440, li_9999, li_11264, li_32768, li_268435456, li_1073741824, li_m, li_o, iN_add, iN_mul, iN_lt, iN_in, iN_cl, iN_inj, iM_ne, iM_ne', iN_or, iN_xor, iN_bd, sh31n, iN_shl2, iN_shr2, iN_bit2, Nat.one_mul, oB, iff_t, iff_f, if_true, if_false, g_up_ne, g_up_eq, g_z_ne, g_z_eq]
          · rw [mg_m (by omega)]; simp (disch := omega) only [li_0, li_1, li_2, li_3, li_4, li_5, li_6, li_7, li_8, li_9, li_10, li_11, li_12, li_13, li_14, li_15, li_16, li_18, li_19, li_20, li_24, li_28, li_29, li_30, li_31, li_32, li_36, li_40, li_41, li_42, li_43, li_45, li_48, li_49, li_50, li_56, li_57, li_59, li_60, li_61, li_62, li_63, li_64, li_97, li_99, li_100, li_120, li_121, li_122, li_255, li_270, li_300, li_400, li_500, li_540, li_1000, li_1024, li_1440, li_9999, li_11264, li_32768, li_268435456, li_1073741824, li_m, li_o, iN_add, iN_mul, iN_lt, iN_in, iN_cl, iN_inj, iM_ne, iM_ne', iN_or, iN_xor, iN_bd, sh31n, iN_shl2, iN_shr2, iN_bit2, Nat.one_mul, oB, iff_t, iff_f, if_true, if_false, g_up_ne, g_up_eq, g_z_ne, g_z_eq]
          · rw [mg_m (by omega)]; simp (disch := omega) only [li_0, li_1, li_2, li_3, li_4, li_5, li_6, li_7, li_8, li_9, li_10, li_11, li_12, li_13, li_14, li_15, li_16, li_18, li_19, li_20, li_24, li_28, li_29, li_30, li_31, li_32, li_36, li_40, li_41, li_42, li_43, li_45, li_48, li_49, li_50, li_56, li_57, li_59, li_60, li_61, li_62, li_63, li_64, li_97, li_99, li_100, li_120, li_121, li_122, li_255, li_270, li_300, li_400, li_500, li_540, li_1000, li_1024, li_1440, li_9999, li_11264, li_32768, li_268435456, li_1073741824, li_m, li_o, iN_add, iN_mul, iN_lt, iN_in, iN_cl, iN_inj, iM_ne, iM_ne', iN_or, iN_xor, iN_bd, sh31n, iN_shl2, iN_shr2, iN_bit2, Nat.one_mul, oB, iff_t, iff_f, if_true, if_false, g_up_ne, g_up_eq, g_z_ne, g_z_eq]
          · intro a j b1 b2 b3 b4
            unfold mg
            split
            · simp (disch := omega) only [li_0, li_1, li_2, li_3, li_4, li_5, li_6, li_7, li_8, li_9, li_10, li_11, li_12, li_13, li_14, li_15, li_16, li_18, li_19, li_20, li_24, li_28, li_29, li_30, li_31, li_32, li_36, li_40, li_41, li_42, li_43, li_45, li_48, li_49, li_50, li_56, li_57, li_59, li_60, li_61, li_62, li_63, li_64, li_97, li_99, li_100, li_120, li_121, li_122, li_255, li_270, li_300, li_400, li_500, li_540, li_1000, li_1024, li_1440, li_9999, li_11264, li_32768, li_268435456, li_1073741824, li_m, li_o, iN_add, iN_mul, iN_lt, iN_in, iN_cl, iN_inj, iM_ne, iM_ne', iN_or, iN_xor, iN_bd, sh31n, iN_shl2, iN_shr2, iN_bit2, Nat.one_mul, oB, iff_t, iff_f, if_true, if_false, g_up_ne, g_up_eq, g_z_ne, g_z_eq]
            · simp (disch := omega) only [li_0, li_1, li_2, li_3, li_4, li_5, li_6, li_7, li_8, li_9, li_10, li_11, li_12, li_13, li_14, li_15, li_16, li_18, li_19, li_20, li_24, li_28, li_29, li_30, li_31, li_32, li_36, li_40, li_41, li_42, li_43, li_45, li_48, li_49, li_50, li_56, li_57, li_59, li_60, li_61, li_62, li_63, li_64, li_97, li_99, li_100, li_120, li_121, li_122, li_255, li_270, li_300, li_400, li_500, li_540, li_1000, li_1024, li_1440, li_9999, li_11264, li_32768, li_268435456, li_1073741824, li_m, li_o, iN_add, iN_mul, iN_lt, iN_in, iN_cl, iN_inj, iM_ne, iM_ne', iN_or, iN_xor, iN_bd, sh31n, iN_shl2, iN_shr2, iN_bit2, Nat.one_mul, oB, iff_t, iff_f, if_true, if_false, g_up_ne, g_up_eq, g_z_ne, g_z_eq]
        · refine ⟨iN 1, (g_up (g_up (g_up Mc' (100 + f) 7 iM) (100 + p) 7 iM) (100 + p) 6 (iN 1)), (g_up (g_up (g_up Mm' 47 p (iN 1)) 48 f iM) 48 p iM), ?_, ?_, fun a k h1 h2 => ?_, fun a k h => ?_, P, T, C, R, F, inv_gone (f := f) q5' hp hf (Or.inr (by rw [mg_m (by omega), z48]; exact e1)) ?_ ?_ ?_ ?_ ?_ ?_ ?_⟩
          · rw [cgo, e1, at_in hL.2.1 z1 hP10 hf, oB, if_neg (by omega), if_pos (by rw [is_of (hL.2.1.1 f hf).1]; trivial)]
            unfold b_X11_gone_54
            simp only [ia, if_true]
            rfl
          · rw [mgo, e1, if_neg (by rw [show (-1 : Int32) = iM from rfl, iM_ne (by omega)]; exact not_false), if_pos (show g_in (iN f) 10 = true by rw [iN_in (by omega)]; omega), iN_cl (by omega)]
            unfold b_X12_gone_58
            rw [if_pos (show g_in (iN p) 10 = true by rw [iN_in (by omega)]; omega), iN_cl (by omega), show vp_nar .boolean 1 = iN 1 from nar_1]
            rfl
          · rw [← q3 a k h1 h2]; simp (disch := omega) only [li_0, li_1, li_2, li_3, li_4, li_5, li_6, li_7, li_8, li_9, li_10, li_11, li_12, li_13, li_14, li_15, li_16, li_18, li_19, li_20, li_24, li_28, li_29, li_30, li_31, li_32, li_36, li_40, li_41, li_42, li_43, li_45, li_48, li_49, li_50, li_56, li_57, li_59, li_60, li_61, li_62, li_63, li_64, li_97, li_99, li_100, li_120, li_121, li_122, li_255, li_270, li_300, li_400, li_500, li_540, li_1000, li_1024, li_1440, li_9999, li_11264, li_32768, li_268435456, li_1073741824, li_m, li_o, iN_add, iN_mul, iN_lt, iN_in, iN_cl, iN_inj, iM_ne, iM_ne', iN_or, iN_xor, iN_bd, sh31n, iN_shl2, iN_shr2, iN_bit2, Nat.one_mul, oB, iff_t, iff_f, if_true, if_false, g_up_ne, g_up_eq, g_z_ne, g_z_eq]
          · rw [← q4 a k h]; simp (disch := omega) only [li_0, li_1, li_2, li_3, li_4, li_5, li_6, li_7, li_8, li_9, li_10, li_11, li_12, li_13, li_14, li_15, li_16, li_18, li_19, li_20, li_24, li_28, li_29, li_30, li_31, li_32, li_36, li_40, li_41, li_42, li_43, li_45, li_48, li_49, li_50, li_56, li_57, li_59, li_60, li_61, li_62, li_63, li_64, li_97, li_99, li_100, li_120, li_121, li_122, li_255, li_270, li_300, li_400, li_500, li_540, li_1000, li_1024, li_1440, li_9999, li_11264, li_32768, li_268435456, li_1073741824, li_m, li_o, iN_add, iN_mul, iN_lt, iN_in, iN_cl, iN_inj, iM_ne, iM_ne', iN_or, iN_xor, iN_bd, sh31n, iN_shl2, iN_shr2, iN_bit2, Nat.one_mul, oB, iff_t, iff_f, if_true, if_false, g_up_ne, g_up_eq, g_z_ne, g_z_eq]
          · rw [mg_c (by omega)]; simp (disch := omega) only [li_0, li_1, li_2, li_3, li_4, li_5, li_6, li_7, li_8, li_9, li_10, li_11, li_12, li_13, li_14, li_15, li_16, li_18, li_19, li_20, li_24, li_28, li_29, li_30, li_31, li_32, li_36, li_40, li_41, li_42, li_43, li_45, li_48, li_49, li_50, li_56, li_57, li_59, li_60, li_61, li_62, li_63, li_64, li_97, li_99, li_100, li_120, li_121, li_122, li_255, li_270, li_300, li_400, li_500, li_540, li_1000, li_1024, li_1440, li_9999, li_11264, li_32768, li_268435456, li_1073741824, li_m, li_o, iN_add, iN_mul, iN_lt, iN_in, iN_cl, iN_inj, iM_ne, iM_ne', iN_or, iN_xor, iN_bd, sh31n, iN_shl2, iN_shr2, iN_bit2, Nat.one_mul, oB, iff_t, iff_f, if_true, if_false, g_up_ne, g_up_eq, g_z_ne, g_z_eq]
          · rw [mg_m (by omega)]; simp (disch := omega) only [li_0, li_1, li_2, li_3, li_4, li_5, li_6, li_7, li_8, li_9, li_10, li_11, li_12, li_13, li_14, li_15, li_16, li_18, li_19, li_20, li_24, li_28, li_29, li_30, li_31, li_32, li_36, li_40, li_41, li_42, li_43, li_45, li_48, li_49, li_50, li_56, li_57, li_59, li_60, li_61, li_62, li_63, li_64, li_97, li_99, li_100, li_120, li_121, li_122, li_255, li_270, li_300, li_400, li_500, li_540, li_1000, li_1024, li_1440, li_9999, li_11264, li_32768, li_268435456, li_1073741824, li_m, li_o, iN_add, iN_mul, iN_lt, iN_in, iN_cl, iN_inj, iM_ne, iM_ne', iN_or, iN_xor, iN_bd, sh31n, iN_shl2, iN_shr2, iN_bit2, Nat.one_mul, oB, iff_t, iff_f, if_true, if_false, g_up_ne, g_up_eq, g_z_ne, g_z_eq]
          · rw [mg_c (by omega)]; simp (disch := omega) only [li_0, li_1, li_2, li_3, li_4, li_5, li_6, li_7, li_8, li_9, li_10, li_11, li_12, li_13, li_14, li_15, li_16, li_18, li_19, li_20, li_24, li_28, li_29, li_30, li_31, li_32, li_36, li_40, li_41, li_42, li_43, li_45, li_48, li_49, li_50, li_56, li_57, li_59, li_60, li_61, li_62, li_63, li_64, li_97, li_99, li_100, li_120, li_121, li_122, li_255, li_270, li_300, li_400, li_500, li_540, li_1000, li_1024, li_1440, li_9999, li_11264, li_32768, li_268435456, li_1073741824, li_m, li_o, iN_add, iN_mul, iN_lt, iN_in, iN_cl, iN_inj, iM_ne, iM_ne', iN_or, iN_xor, iN_bd, sh31n, iN_shl2, iN_shr2, iN_bit2, Nat.one_mul, oB, iff_t, iff_f, if_true, if_false, g_up_ne, g_up_eq, g_z_ne, g_z_eq]
          · rw [mg_c (by omega)]; simp (disch := omega) only [li_0, li_1, li_2, li_3, li_4, li_5, li_6, li_7, li_8, li_9, li_10, li_11, li_12, li_13, li_14, li_15, li_16, li_18, li_19, li_20, li_24, li_28, li_29, li_30, li_31, li_32, li_36, li_40, li_41, li_42, li_43, li_45, li_48, li_49, li_50, li_56, li_57, li_59, li_60, li_61, li_62, li_63, li_64, li_97, li_99, li_100, li_120, li_121, li_122, li_255, li_270, li_300, li_400, li_500, li_540, li_1000, li_1024, li_1440, li_9999, li_11264, li_32768, li_268435456, li_1073741824, li_m, li_o, iN_add, iN_mul, iN_lt, iN_in, iN_cl, iN_inj, iM_ne, iM_ne', iN_or, iN_xor, iN_bd, sh31n, iN_shl2, iN_shr2, iN_bit2, Nat.one_mul, oB, iff_t, iff_f, if_true, if_false, g_up_ne, g_up_eq, g_z_ne, g_z_eq]
          · rw [mg_m (by omega)]; simp (disch := omega) only [li_0, li_1, li_2, li_3, li_4, li_5, li_6, li_7, li_8, li_9, li_10, li_11, li_12, li_13, li_14, li_15, li_16, li_18, li_19, li_20, li_24, li_28, li_29, li_30, li_31, li_32, li_36, li_40, li_41, li_42, li_43, li_45, li_48, li_49, li_50, li_56, li_57, li_59, li_60, li_61, li_62, li_63, li_64, li_97, li_99, li_100, li_120, li_121, li_122, li_255, li_270, li_300, li_400, li_500, li_540, li_1000, li_1024, li_1440, li_9999, li_11264, li_32768, li_268435456, li_1073741824, li_m, li_o, iN_add, iN_mul, iN_lt, iN_in, iN_cl, iN_inj, iM_ne, iM_ne', iN_or, iN_xor, iN_bd, sh31n, iN_shl2, iN_shr2, iN_bit2, Nat.one_mul, oB, iff_t, iff_f, if_true, if_false, g_up_ne, g_up_eq, g_z_ne, g_z_eq]
          · rw [mg_m (by omega)]; simp (disch := omega) only [li_0, li_1, li_2, li_3, li_4, li_5, li_6, li_7, li_8, li_9, li_10, li_11, li_12, li_13, li_14, li_15, li_16, li_18, li_19, li_20, li_24, li_28, li_29, li_30, li_31, li_32, li_36, li_40, li_41, li_42, li_43, li_45, li_48, li_49, li_50, li_56, li_57, li_59, li_60, li_61, li_62, li_63, li_64, li_97, li_99, li_100, li_120, li_121, li_122, li_255, li_270, li_300, li_400, li_500, li_540, li_1000, li_1024, li_1440, li_9999, li_11264, li_32768, li_268435456, li_1073741824, li_m, li_o, iN_add, iN_mul, iN_lt, iN_in, iN_cl, iN_inj, iM_ne, iM_ne', iN_or, iN_xor, iN_bd, sh31n, iN_shl2, iN_shr2, iN_bit2, Nat.one_mul, oB, iff_t, iff_f, if_true, if_false, g_up_ne, g_up_eq, g_z_ne, g_z_eq]
          · intro a j b1 b2 b3 b4
            unfold mg
            split
            · simp (disch := omega) only [li_0, li_1, li_2, li_3, li_4, li_5, li_6, li_7, li_8, li_9, li_10, li_11, li_12, li_13, li_14, li_15, li_16, li_18, li_19, li_20, li_24, li_28, li_29, li_30, li_31, li_32, li_36, li_40, li_41, li_42, li_43, li_45, li_48, li_49, li_50, li_56, li_57, li_59, li_60, li_61, li_62, li_63, li_64, li_97, li_99, li_100, li_120, li_121, li_122, li_255, li_270, li_300, li_400, li_500, li_540, li_1000, li_1024, li_1440, li_9999, li_11264, li_32768, li_268435456, li_1073741824, li_m, li_o, iN_add, iN_mul, iN_lt, iN_in, iN_cl, iN_inj, iM_ne, iM_ne', iN_or, iN_xor, iN_bd, sh31n, iN_shl2, iN_shr2, iN_bit2, Nat.one_mul, oB, iff_t, iff_f, if_true, if_false, g_up_ne, g_up_eq, g_z_ne, g_z_eq]
            · simp (disch := omega) only [li_0, li_1, li_2, li_3, li_4, li_5, li_6, li_7, li_8, li_9, li_10, li_11, li_12, li_13, li_14, li_15, li_16, li_18, li_19, li_20, li_24, li_28, li_29, li_30, li_31, li_32, li_36, li_40, li_41, li_42, li_43, li_45, li_48, li_49, li_50, li_56, li_57, li_59, li_60, li_61, li_62, li_63, li_64, li_97, li_99, li_100, li_120, li_121, li_122, li_255, li_270, li_300, li_400, li_500, li_540, li_1000, li_1024, li_1440, li_9999, li_11264, li_32768, li_268435456, li_1073741824, li_m, li_o, iN_add, iN_mul, iN_lt, iN_in, iN_cl, iN_inj, iM_ne, iM_ne', iN_or, iN_xor, iN_bd, sh31n, iN_shl2, iN_shr2, iN_bit2, Nat.one_mul, oB, iff_t, iff_f, if_true, if_false, g_up_ne, g_up_eq, g_z_ne, g_z_eq]
    · refine ⟨iN 0, M, Mm, ?_, ?_, fun _ _ _ _ => rfl, fun _ _ _ => rfl, same⟩
      · unfold f_X11_gone b_X11_gone_0
        rw [at_in hL.2.1 p1 hP10 hp, oB, if_neg (by omega)]
        simp only [ia, if_true]
        rw [if_neg (by rw [a6]; exact k1)]; rfl
      · unfold f_X12_gone b_X12_gone_0
        rw [pers_in mp hP10 hp, oB, if_neg (by decide), if_pos (show g_in (iN p) 10 = true by rw [iN_in (by omega)]; omega), iN_cl (by omega), if_neg (by rw [m47]; exact k1)]; rfl
  · refine ⟨iN 0, M, Mm, ?_, ?_, fun _ _ _ _ => rfl, fun _ _ _ => rfl, same⟩
    · unfold f_X11_gone b_X11_gone_0
      rw [at_out p1 hP10 hx]; rfl
    · unfold f_X12_gone b_X12_gone_0
      rw [pers_out mp hP10 hx]; rfl
