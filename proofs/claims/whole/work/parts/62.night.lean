/-! night. -/
/-- what the class does behind the charges -/
noncomputable def nCont (t : Nat) (σ : gS) (A : gM) : Option (Int32 × gM) := (f_X11_worthNow (110 + t) 3 σ A).bind fun q87 => (f_X10_billBut (110 + t) q87.1 σ q87.2).bind fun q90 => (f_X0_close (110 + t) q90 σ q87.2).bind fun q93 => some (q93.1, q93.2)
theorem l_rooms {σ : gS} {A0 B0 : gM} {N : gN} {P T C t rf : Nat} {R F : Nat → Nat} (hL : Lay σ P T R) (hT : vT A0 T C R F) (hv : mT B0 T C R F) (ht : t < T) (h10 : P ≤ 10) (hC : C < 30) (a1 : A0 2 1 = iN P) (b1 : B0 40 1 = iN P) (hr57 : ∀ j, B0 57 j = A0 57 j) (hr55 : ∀ j, B0 55 j = A0 55 j) (hn : ∀ p, P ≤ p → p < 10 → A0 57 (10 * t + p) = iM) (hab : ∀ p, p < P → ∃ b, b < 1073741824 ∧ A0 (100 + p) 9 = iN b ∧ B0 61 (10 * C + p) = bI (b.testBit C)) (hcap : ∀ r, r < R t → cnt (inR (A0 57) t (iN r)) 10 ≤ 2) : ∀ k i n, i + k = R t → k < n → ∀ n2, R t - i < n2 → ∀ A B, chR A0 B0 A B P →
    ∃ A' B', l_X11_night_57 n (110 + t) (iN rf) (iN i) σ A = nCont t σ A' ∧ l_X12_night_114 n2 (iN t) (iN C) (iN rf) (iN i) σ B N = some (iN C, g_up B' 40 13 (iN (C + 1)), N) ∧ chR A0 B0 A' B' P := by
  have hT6 := hT.1
  have hR := (hL.2.2.2.1.1 t (by omega)).1
  have c2 := (hL.2.2.1.1 t ht).1.2.1
  refine up_ind (fun n n2 hn2 A B h => ?_) (fun i n hi ih n2 hn2 A B h => ?_)
  · obtain ⟨n2, rfl⟩ : ∃ m, n2 = m + 1 := ⟨n2 - 1, by omega⟩
    have hTA : vT A T C R F := hT.keep (fun a j hh => h.2.1 a j (by omega)) (fun t ht => (hL.2.2.2.1.1 t ht).1)
    have hvB : mT B T C R F := hv.keep (fun a j hh => h.2.2 a j (by omega))
    have e1 : A (110 + t) 6 = iN (R t) := (hTA.2.2.2.2.2.2.2.2.2.1 t ht).2.2.2.1.trans (hTA.2.2.2.2.2.2.2.2.2.2.2.1 t (by omega)).1
    have e2 := (hvB.2.2.2.2.2.2.2.2.1 t (by omega)).1
    refine ⟨A, B, ?_, ?_, h⟩
    · rw [l_X11_night_57, if_pos (by rw [is_of c2]; trivial), e1, if_neg (by rw [iN_lt (by omega) (by omega)]; omega)]
      rfl
    · rw [l_X12_night_114, if_pos (by rw [iN_in (by omega)]; omega), iN_cl (by omega), e2, if_neg (by rw [iN_lt (by omega) (by omega)]; omega), hvB.2.2.2.2.2.1, show (1 : Int32) = iN 1 from rfl, iN_add]
  · obtain ⟨n2, rfl⟩ : ∃ m, n2 = m + 1 := ⟨n2 - 1, by omega⟩
    have hTA : vT A T C R F := hT.keep (fun a j hh => h.2.1 a j (by omega)) (fun t ht => (hL.2.2.2.1.1 t ht).1)
    have hvB : mT B T C R F := hv.keep (fun a j hh => h.2.2 a j (by omega))
    have e1 : A (110 + t) 6 = iN (R t) := (hTA.2.2.2.2.2.2.2.2.2.1 t ht).2.2.2.1.trans (hTA.2.2.2.2.2.2.2.2.2.2.2.1 t (by omega)).1
    have e2 := (hvB.2.2.2.2.2.2.2.2.1 t (by omega)).1
    have ei : iN i + 1 = iN (i + 1) := by rw [show (1 : Int32) = iN 1 from rfl, iN_add]
    have r57A : A 57 = A0 57 := funext fun j => h.2.1 57 j (by omega)
    have r57B : B 57 = A0 57 := funext fun j => by rw [h.2.2 57 j (by omega)]; exact hr57 j
    have hset := setIn_m (σ := σ) (M := B) (t := t) (x := iN i) (by omega) (by rw [h.2.2 40 1 (by omega)]; exact b1) h10 (fun p h1 h2 => by rw [r57B]; exact hn p h1 h2) (fun e => by rw [iM_ne (by omega)] at e; exact e)
    rw [r57B] at hset
    have hgc := guests_c (M := A) (x := iN i) hL.2.2.1 ht (hTA.2.2.2.2.2.2.2.2.2.1 t ht)
    rw [r57A] at hgc
    have hlt := inR_lt (A0 57) t (iN i)
    have hcp := hcap i hi
    obtain ⟨c, hc1, hc2, hc3⟩ := (hT.2.2.2.2.2.2.2.2.2.2.2.2.2 t i (by omega) hi).2.2.2
    have hcA : A (200 + 10 * t + i) 2 = iN c := by rw [(hTA.2.2.2.2.2.2.2.2.2.2.2.2.1 t i (by omega) hi).2.2.1, h.2.1 _ _ (by omega)]; exact hc1
    have hcB : B 55 (10 * t + i) = iN c := by rw [h.2.2 _ _ (by omega), hr55]; exact hc1
    have hro := (room_in hL.2.2.1 hL.2.2.2.1 hTA ht hi).1
    have hri := (hL.2.2.2.1.2.1 t i (by omega) hi).1
    have hbc := bc10 (inR (A0 57) t (iN i)) hlt
    rw [pc10_cnt] at hbc
    have hsz := size_m hlt
    have e10 : (10 : Int32) * iN t + iN i = iN (10 * t + i) := by rw [show (10 : Int32) = iN 10 from rfl, iN_mul, iN_add]
    have cgo : f_X11_charge (110 + t) (iN i) (iN rf) σ A = if cnt (inR (A0 57) t (iN i)) 10 = 0 then some A else l_X11_charge_55 g_FU (iN rf) (iN (inR (A0 57) t (iN i))) (iN (c / cnt (inR (A0 57) t (iN i)) 10)) (iN (c - c / cnt (inR (A0 57) t (iN i)) 10 * cnt (inR (A0 57) t (iN i)) 10)) (iN 0) σ A := by
      unfold f_X11_charge b_X11_charge_0
      rw [if_pos (by rw [is_of c2]; trivial), hgc, oB, hbc, oB, hro, oB]
      have hz : (iN (cnt (inR (A0 57) t (iN i)) 10) = 0) = (cnt (inR (A0 57) t (iN i)) 10 = 0) := iN_inj (b := 0) (by omega) (by omega)
      by_cases k : cnt (inR (A0 57) t (iN i)) 10 = 0
      · rw [if_pos (by rw [hz]; exact k), if_pos k]
      · have hle : c / cnt (inR (A0 57) t (iN i)) 10 * cnt (inR (A0 57) t (iN i)) 10 ≤ c := Nat.div_mul_le_self c _
        rw [if_neg (by rw [hz]; exact k), if_neg k, if_neg (by omega), if_pos (show g_is σ (200 + 10 * t + i) 8 = true by rw [is_of hri]; trivial), if_neg (by rw [hz]; exact k), if_neg (by rw [hz]; exact k), hcA, iN_div (by omega) (by omega), iN_mul, iN_sub hle]
        rfl
    have mgo : l_X12_night_114 (n2 + 1) (iN t) (iN C) (iN rf) (iN i) σ B N = l_X12_night_170 (fun x1 x2 x3 x4 σ M N => l_X12_night_114 n2 x1 x2 x3 x4 σ M N) g_FU (iN t) (iN C) (iN rf) (iN i) (iN (inR (A0 57) t (iN i))) (iN c) (bI (decide (cnt (inR (A0 57) t (iN i)) 10 = 2))) (bI true) (iN 0) σ B N := by
      rw [l_X12_night_114, if_pos (by rw [iN_in (by omega)]; omega), iN_cl (by omega), e2, if_pos (by rw [iN_lt (by omega) (by omega)]; omega), hset, oB, e10, if_pos (by rw [iN_in (by omega)]; omega), hsz, oB, iN_cl (by omega), hcB]
      unfold b_X12_night_162
      have hz : (iN (cnt (inR (A0 57) t (iN i)) 10) = 2) = (cnt (inR (A0 57) t (iN i)) 10 = 2) := iN_inj (b := 2) (by omega) (by omega)
      by_cases k : cnt (inR (A0 57) t (iN i)) 10 = 2
      · rw [if_pos (by rw [hz]; exact k), decide_eq_true k]; rfl
      · rw [if_neg (by rw [hz]; exact k), decide_eq_false k]; rfl
    rw [l_X11_night_57, if_pos (by rw [is_of c2]; trivial), e1, if_pos (by rw [iN_lt (by omega) (by omega)]; omega), cgo, mgo]
    by_cases k0 : cnt (inR (A0 57) t (iN i)) 10 = 0
    · have hs0 : inR (A0 57) t (iN i) = 0 := by
        apply Nat.eq_of_testBit_eq
        intro p
        rw [Nat.zero_testBit]
        cases hb : (inR (A0 57) t (iN i)).testBit p with
        | false => rfl
        | true =>
          have hp : p < 10 := by
            apply Classical.byContradiction
            intro hp
            rw [inR_bit, decide_eq_false hp] at hb; cases hb
          have := cnt_pos hp hb
          omega
      rw [if_pos k0, oB, ei, hs0, l_charge0 h10 (by rw [h.2.2 40 1 (by omega)]; exact b1) P 0 g_FU (by omega) (by unfold g_FU; omega), ei]
      exact ih n2 (by omega) A B h
    · rw [if_neg k0]
      have hb1 : B 40 1 = iN P := by rw [h.2.2 40 1 (by omega)]; exact b1
      obtain ⟨A', B', q1, q2, q3⟩ := l_charge (σ := σ) (N := N) (rf := rf) (c := c) (sh := c / cnt (inR (A0 57) t (iN i)) 10) (od := c - c / cnt (inR (A0 57) t (iN i)) 10 * cnt (inR (A0 57) t (iN i)) 10) (two := decide (cnt (inR (A0 57) t (iN i)) 10 = 2)) (x1 := iN t) (x4 := iN i) (k114 := fun x1 x2 x3 x4 σ M N => l_X12_night_114 n2 x1 x2 x3 x4 σ M N) hL.2.1 h10 hC hlt a1 hT.2.2.2.2.2.2.2.1 b1 hab hc3 (fun hh => by
        have : cnt (inR (A0 57) t (iN i)) 10 = 2 := of_decide_eq_true hh
        rw [this]; omega) (fun hh => by
        have : ¬ cnt (inR (A0 57) t (iN i)) 10 = 2 := of_decide_eq_false hh
        rw [show cnt (inR (A0 57) t (iN i)) 10 = 1 by omega]; omega) P 0 g_FU (by omega) (by unfold g_FU; omega) g_FU (by unfold g_FU; omega) true A B h
      rw [show l_X11_charge_55 g_FU (iN rf) (iN (inR (A0 57) t (iN i))) (iN (c / cnt (inR (A0 57) t (iN i)) 10)) (iN (c - c / cnt (inR (A0 57) t (iN i)) 10 * cnt (inR (A0 57) t (iN i)) 10)) (iN 0) σ A = some A' from q1, oB, q2, ei]
      exact ih n2 (by omega) A' B' q3
theorem l_close {σ : gS} {T C t : Nat} {x2 : Int32} (hs : lyT σ T) (ht : t < T) (hT6 : T ≤ 6) (hC : C < 30) : ∀ k i n, i + k = 10 → k < n → ∀ M : gM, M 33 0 = iN C → ∃ M', l_X0_close_13 n (110 + t) x2 (iN i) σ M = some (iN C, M') ∧ (∀ p, i ≤ p → p < 10 → M' 35 (10 * C + p) = M (130 + t) p) ∧ M' 34 C = x2 ∧ M' 33 0 = iN (C + 1) ∧ ∀ a j, ¬ (a = 35 ∧ 10 * C + i ≤ j ∧ j < 10 * C + 10) → ¬ (a = 34 ∧ j = C) → ¬ (a = 33 ∧ j = 0) → M' a j = M a j := by
  have c2 := (hs.1 t ht).1.2.1
  refine up_ind (fun n M hM => ?_) (fun i n hi ih M hM => ?_)
  · refine ⟨(g_up (g_up M 34 C x2) 33 0 (iN (C + 1))), ?_, fun p h1 h2 => by omega, ?_, ?_, fun a j h1 h2 h3 => ?_⟩
    · rw [l_X0_close_13]
      unfold b_X0_close_64
      simp (disch := omega) only [li_0, li_1, li_2, li_3, li_4, li_5, li_6, li_7, li_8, li_9, li_10, li_11, li_12, li_13, li_14, li_15, li_16, li_18, li_19, li_20, li_24, li_28, li_29, li_30, li_31, li_32, li_36, li_40, li_41, li_42, li_43, li_45, li_48, li_49, li_50, li_56, li_57, li_59, li_60, li_61, li_62, li_63, li_64, li_97, li_99, li_100, li_120, li_121, li_122, li_255, li_270, li_300, li_400, li_500, li_540, li_1000, li_1024, li_1440, li_9999, li_11264, li_32768, li_268435456, li_1073741824, li_m, li_o, iN_add, iN_mul, iN_lt, iN_in, iN_cl, iN_inj, iM_ne, iM_ne', iN_or, iN_xor, iN_bd, sh31n, iN_shl2, iN_shr2, iN_bit2, Nat.one_mul, oB, iff_t, iff_f, if_true, if_false, g_up_ne, g_up_eq, g_z_ne, g_z_eq, hM, iN_sub, Nat.add_sub_cancel]
    · simp (disch := omega) only [li_0, li_1, li_2, li_3, li_4, li_5, li_6, li_7, li_8, li_9, li_10, li_11, li_12, li_13, li_14, li_15, li_16, li_18, li_19, li_20, li_24, li_28, li_29, li_30, li_31, li_32, li_36, li_40, li_41, li_42, li_43, li_45, li_48, li_49, li_50, li_56, li_57, li_59, li_60, li_61, li_62, li_63, li_64, li_97, li_99, li_100, li_120, li_121, li_122, li_255, li_270, li_300, li_400, li_500, li_540, li_1000, li_1024, li_1440, li_9999, li_11264, li_32768, li_268435456, li_1073741824, li_m, li_o, iN_add, iN_mul, iN_lt, iN_in, iN_cl, iN_inj, iM_ne, iM_ne', iN_or, iN_xor, iN_bd, sh31n, iN_shl2, iN_shr2, iN_bit2, Nat.one_mul, oB, iff_t, iff_f, if_true, if_false, g_up_ne, g_up_eq, g_z_ne, g_z_eq]
    · simp (disch := omega) only [li_0, li_1, li_2, li_3, li_4, li_5, li_6, li_7, li_8, li_9, li_10, li_11, li_12, li_13, li_14, li_15, li_16, li_18, li_19, li_20, li_24, li_28, li_29, li_30, li_31, li_32, li_36, li_40, li_41, li_42, li_43, li_45, li_48, li_49, li_50, li_56, li_57, li_59, li_60, li_61, li_62, li_63, li_64, li_97, li_99, li_100, li_120, li_121, li_122, li_255, li_270, li_300, li_400, li_500, li_540, li_1000, li_1024, li_1440, li_9999, li_11264, li_32768, li_268435456, li_1073741824, li_m, li_o, iN_add, iN_mul, iN_lt, iN_in, iN_cl, iN_inj, iM_ne, iM_ne', iN_or, iN_xor, iN_bd, sh31n, iN_shl2, iN_shr2, iN_bit2, Nat.one_mul, oB, iff_t, iff_f, if_true, if_false, g_up_ne, g_up_eq, g_z_ne, g_z_eq]
    · simp (disch := omega) only [li_0, li_1, li_2, li_3, li_4, li_5, li_6, li_7, li_8, li_9, li_10, li_11, li_12, li_13, li_14, li_15, li_16, li_18, li_19, li_20, li_24, li_28, li_29, li_30, li_31, li_32, li_36, li_40, li_41, li_42, li_43, li_45, li_48, li_49, li_50, li_56, li_57, li_59, li_60, li_61, li_62, li_63, li_64, li_97, li_99, li_100, li_120, li_121, li_122, li_255, li_270, li_300, li_400, li_500, li_540, li_1000, li_1024, li_1440, li_9999, li_11264, li_32768, li_268435456, li_1073741824, li_m, li_o, iN_add, iN_mul, iN_lt, iN_in, iN_cl, iN_inj, iM_ne, iM_ne', iN_or, iN_xor, iN_bd, sh31n, iN_shl2, iN_shr2, iN_bit2, Nat.one_mul, oB, iff_t, iff_f, if_true, if_false, g_up_ne, g_up_eq, g_z_ne, g_z_eq]
  · have e10 : C * 10 + i = 10 * C + i := by omega
    obtain ⟨M', q1, q2, q3, q4, q5⟩ := ih (g_up M 35 (10 * C + i) (M (130 + t) i)) (by rw [g_up_ne _ _ (by omega)]; exact hM)
    refine ⟨M', ?_, fun p h1 h2 => ?_, q3, q4, fun a j h1 h2 h3 => ?_⟩
    · rw [l_X0_close_13, guest_c2 hs ht hi]
      simp (disch := omega) only [li_0, li_1, li_2, li_3, li_4, li_5, li_6, li_7, li_8, li_9, li_10, li_11, li_12, li_13, li_14, li_15, li_16, li_18, li_19, li_20, li_24, li_28, li_29, li_30, li_31, li_32, li_36, li_40, li_41, li_42, li_43, li_45, li_48, li_49, li_50, li_56, li_57, li_59, li_60, li_61, li_62, li_63, li_64, li_97, li_99, li_100, li_120, li_121, li_122, li_255, li_270, li_300, li_400, li_500, li_540, li_1000, li_1024, li_1440, li_9999, li_11264, li_32768, li_268435456, li_1073741824, li_m, li_o, iN_add, iN_mul, iN_lt, iN_in, iN_cl, iN_inj, iM_ne, iM_ne', iN_or, iN_xor, iN_bd, sh31n, iN_shl2, iN_shr2, iN_bit2, Nat.one_mul, oB, iff_t, iff_f, if_true, if_false, g_up_ne, g_up_eq, g_z_ne, g_z_eq, is_of c2, hM, e10]
      exact q1
    · by_cases e : p = i
      · subst e; rw [q5 _ _ (by omega) (by omega) (by omega), g_up_eq _ _ ⟨rfl, rfl⟩]
      · rw [q2 p (by omega) h2, g_up_ne _ _ (by omega)]
    · rw [q5 a j (by omega) h2 h3, g_up_ne _ _ (by omega)]
theorem l_layM {σ : gS} {N : gN} {C t : Nat} {x3 : Int32} (ht : t < 6) (hC : C < 30) : ∀ k i n, i + k = 10 → k < n → ∀ M : gM, ∃ M', l_X12_night_74 n (iN t) (iN C) x3 (iN i) σ M N = l_X12_night_114 g_FU (iN t) (iN C) x3 (iN 0) σ M' N ∧ (∀ p, i ≤ p → p < 10 → M' 62 (10 * C + p) = M 57 (10 * t + p)) ∧ ∀ a j, ¬ (a = 62 ∧ 10 * C + i ≤ j ∧ j < 10 * C + 10) → M' a j = M a j := by
  refine up_ind (fun n M => ?_) (fun i n hi ih M => ?_)
  · refine ⟨M, ?_, fun p h1 h2 => by omega, fun a j _ => rfl⟩
    rw [l_X12_night_74]
    simp (disch := omega) only [li_0, li_1, li_2, li_3, li_4, li_5, li_6, li_7, li_8, li_9, li_10, li_11, li_12, li_13, li_14, li_15, li_16, li_18, li_19, li_20, li_24, li_28, li_29, li_30, li_31, li_32, li_36, li_40, li_41, li_42, li_43, li_45, li_48, li_49, li_50, li_56, li_57, li_59, li_60, li_61, li_62, li_63, li_64, li_97, li_99, li_100, li_120, li_121, li_122, li_255, li_270, li_300, li_400, li_500, li_540, li_1000, li_1024, li_1440, li_9999, li_11264, li_32768, li_268435456, li_1073741824, li_m, li_o, iN_add, iN_mul, iN_lt, iN_in, iN_cl, iN_inj, iM_ne, iM_ne', iN_or, iN_xor, iN_bd, sh31n, iN_shl2, iN_shr2, iN_bit2, Nat.one_mul, oB, iff_t, iff_f, if_true, if_false, g_up_ne, g_up_eq, g_z_ne, g_z_eq]
  · obtain ⟨M', q1, q2, q3⟩ := ih (g_up M 62 (10 * C + i) (M 57 (10 * t + i)))
    refine ⟨M', ?_, fun p h1 h2 => ?_, fun a j h => by rw [q3 a j (by omega), g_up_ne _ _ (by omega)]⟩
    · rw [l_X12_night_74]
      simp (disch := omega) only [li_0, li_1, li_2, li_3, li_4, li_5, li_6, li_7, li_8, li_9, li_10, li_11, li_12, li_13, li_14, li_15, li_16, li_18, li_19, li_20, li_24, li_28, li_29, li_30, li_31, li_32, li_36, li_40, li_41, li_42, li_43, li_45, li_48, li_49, li_50, li_56, li_57, li_59, li_60, li_61, li_62, li_63, li_64, li_97, li_99, li_100, li_120, li_121, li_122, li_255, li_270, li_300, li_400, li_500, li_540, li_1000, li_1024, li_1440, li_9999, li_11264, li_32768, li_268435456, li_1073741824, li_m, li_o, iN_add, iN_mul, iN_lt, iN_in, iN_cl, iN_inj, iM_ne, iM_ne', iN_or, iN_xor, iN_bd, sh31n, iN_shl2, iN_shr2, iN_bit2, Nat.one_mul, oB, iff_t, iff_f, if_true, if_false, g_up_ne, g_up_eq, g_z_ne, g_z_eq]
      exact q1
    · by_cases e : p = i
      · subst e; rw [q3 _ _ (by omega), g_up_eq _ _ ⟨rfl, rfl⟩]
      · rw [q2 p (by omega) h2, g_up_ne _ _ (by omega)]
/-- the town of a night -/
theorem night_town {M : gM} {T C : Nat} {R F : Nat → Nat} (hT : vT M T C R F) : C = F T ∨ ∃ t, t < T ∧ F t ≤ C ∧ C < F (t + 1) := by
  have hmono := hT.2.2.2.2.2.2.2.2.2.2.1
  have hC := hT.2.2.1
  have hF0 := hT.2.1
  have : ∀ u, u ≤ T → C < F u → ∃ t, t < u ∧ F t ≤ C ∧ C < F (t + 1) := by
    intro u
    induction u with
    | zero => intro _ h; omega
    | succ u ih =>
      intro hu h
      by_cases h2 : C < F u
      · obtain ⟨t, h3, h4⟩ := ih (by omega) h2
        exact ⟨t, by omega, h4⟩
      · exact ⟨u, by omega, by omega, h⟩
  by_cases h : C = F T
  · exact Or.inl h
  · exact Or.inr (this T (Nat.le_refl _) (by omega))
theorem F_mono {M : gM} {T C : Nat} {R F : Nat → Nat} (hT : vT M T C R F) : ∀ b a, a ≤ b → b ≤ T → F a ≤ F b := by
  intro b
  induction b with
  | zero => intro a h _; rw [show a = 0 by omega]; exact Nat.le_refl _
  | succ b ih =>
    intro a h hb
    by_cases e : a = b + 1
    · subst e; exact Nat.le_refl _
    · have := ih a (by omega) (by omega)
      have := (hT.2.2.2.2.2.2.2.2.2.2.1 b (by omega)).2.1
      omega
theorem l_townNC {σ : gS} {M : gM} {P T C t0 : Nat} {R F : Nat → Nat} (hL : Lay σ P T R) (hT : vT M T C R F) (h0 : (t0 = T ∧ F T ≤ C) ∨ (t0 < T ∧ F t0 ≤ C ∧ C < F (t0 + 1))) : ∀ k i n, i + k = t0 → k < n → l_X11_townOfNight_2 n (iN C) (iN i) σ M = some (if t0 < T then 110 + t0 else 0) := by
  have hT6 := hT.1
  have hFT := hT.F T (Nat.le_refl _)
  have hCF := hT.2.2.1
  have cls : ∀ i, i < T → M (110 + i) 2 = iN (F i) ∧ M (110 + i) 1 = iN (F (i + 1) - F i) ∧ F i < F (i + 1) ∧ F (i + 1) ≤ 30 := fun i hi => by
    obtain ⟨_, q2, q3, _, _⟩ := hT.2.2.2.2.2.2.2.2.2.1 i hi
    obtain ⟨w1, w2, w3, w4⟩ := hT.2.2.2.2.2.2.2.2.2.2.1 i hi
    have := hT.F (i + 1) (by omega)
    exact ⟨q3.trans w1, q2.trans w4, w2, by omega⟩
  have hin : ∀ i, i < T → f_X11_isWithin (iN C) (M (110 + i) 2) ((M (110 + i) 2 + M (110 + i) 1) - 1) = some (bI (decide (F i ≤ C ∧ C < F (i + 1)))) := fun i hi => by
    obtain ⟨q1, q2, q3, q4⟩ := cls i hi
    rw [q1, q2, iN_add, show F i + (F (i + 1) - F i) = F (i + 1) by omega, w_in]
    rcases in_casesK (iN C) (a := F i) (K := F (i + 1)) (by omega) (by omega) with ⟨n, e, h1, h2, h3⟩ | h1
    · rw [iN_inj (by omega) (by omega)] at e
      subst e
      rw [show (1 : Int32) = iN 1 from rfl, h3, decide_eq_true ⟨h1, h2⟩]; rfl
    · have hno : ¬ (F i ≤ C ∧ C < F (i + 1)) := by
        intro hh
        rw [iN_pre (by omega)] at h1
        unfold f_X12_in b_X12_in_0 at h1
        rw [if_neg (by rw [iN_lt (by omega) (by omega)]; omega), if_neg (by rw [iN_lt (by omega) (by omega)]; omega)] at h1
        exact absurd (Option.some.inj h1) (by decide)
      rw [show (1 : Int32) = iN 1 from rfl, h1, decide_eq_false hno]; rfl
  refine up_ind (fun n => ?_) (fun i n hi ih => ?_)
  · rcases h0 with ⟨rfl, _⟩ | ⟨h1, h2, h3⟩
    · rw [l_X11_townOfNight_2, hT.2.2.2.1, if_neg (by rw [iN_lt (by omega) (by omega)]; omega), if_neg (by omega)]
    · rw [l_X11_townOfNight_2, hT.2.2.2.1, if_pos (by rw [iN_lt (by omega) (by omega)]; omega), if_pos (by rw [iN_in (by omega)]; omega), iN_cl (by omega), (hL.2.2.1.1 t0 h1).1.1, if_pos (by rw [is_of (hL.2.2.1.1 t0 h1).1.2.1]; trivial), hin t0 h1, oB, decide_eq_true ⟨h2, h3⟩, if_neg (show ¬ bI true = 0 by decide), if_pos h1]
  · have hiT : i < T := by omega
    have ei : iN i + 1 = iN (i + 1) := by rw [show (1 : Int32) = iN 1 from rfl, iN_add]
    have hle : F (i + 1) ≤ C := by
      rcases h0 with ⟨rfl, h2⟩ | ⟨h1, h2, h3⟩
      · have := F_mono hT t0 (i + 1) (by omega) (by omega); omega
      · have := F_mono hT t0 (i + 1) (by omega) (by omega); omega
    rw [l_X11_townOfNight_2, hT.2.2.2.1, if_pos (by rw [iN_lt (by omega) (by omega)]; omega), if_pos (by rw [iN_in (by omega)]; omega), iN_cl (by omega), (hL.2.2.1.1 i hiT).1.1, if_pos (by rw [is_of (hL.2.2.1.1 i hiT).1.2.1]; trivial), hin i hiT, oB, decide_eq_false (by omega), if_pos (show bI false = 0 from rfl), ei]
    exact ih
theorem l_townNM {σ : gS} {M : gM} {T C t0 : Nat} {R F : Nat → Nat} (hv : mT M T C R F) (h1 : t0 < T) (h3 : C < F (t0 + 1)) (hlo : ∀ i, i < t0 → F (i + 1) ≤ C) : ∀ k i n, i + k = t0 → k < n → l_X12_townAt_2 n (iN C) (iN i) σ M = some (iN t0) := by
  have hT6 := hv.1
  have cls : ∀ i, i < T → (M 51 i + M 50 i) = iN (F (i + 1)) ∧ F (i + 1) ≤ 30 := fun i hi => by
    obtain ⟨w1, w2, w3, w4⟩ := hv.2.2.2.2.2.2.2.1 i hi
    exact ⟨by rw [w1, w4, iN_add]; congr 1; omega, hv.2.2.2.2.2.2.1 (i + 1) (by omega)⟩
  have hC30 : C ≤ 30 := by have := hv.2.1; have := hv.2.2.1; omega
  refine up_ind (fun n => ?_) (fun i n hi ih => ?_)
  · obtain ⟨q1, q2⟩ := cls t0 h1
    have ig : g_in (iN t0) 6 = true := by rw [iN_in (by omega)]; omega
    rw [l_X12_townAt_2, if_pos ig, if_pos ig, iN_cl (by omega), q1, if_pos (by rw [iN_lt (by omega) (by omega)]; omega)]
  · obtain ⟨q1, q2⟩ := cls i (by omega)
    have hle := hlo i hi
    have ei : iN i + 1 = iN (i + 1) := by rw [show (1 : Int32) = iN 1 from rfl, iN_add]
    have ig : g_in (iN i) 6 = true := by rw [iN_in (by omega)]; omega
    rw [l_X12_townAt_2, if_pos ig, if_pos ig, iN_cl (by omega), q1, if_neg (by rw [iN_lt (by omega) (by omega)]; omega), ei]
    exact ih
