/-! put, right. -/
theorem l_shareAll {σ : gS} {M : gM} {P p o : Nat} (hs : lyP σ P) (hP : vP M P) (hp : p < P) (ho : o < 1024) (hop : o.testBit p = false) : ∀ k i n, i + k = P → k < n → (∀ q, q < i → o.testBit q = true → shareB M p q = true) →
    l_X5_sharesWithAll_2 n (iN p) (iN o) (iN i) σ M = some (bI (bP (∀ q, q < P → o.testBit q = true → shareB M p q = true))) := by
  have hP10 := hP.1
  refine up_ind (fun n h => ?_) (fun i n hi ih h => ?_)
  · rw [l_X5_sharesWithAll_2]
    simp (disch := omega) only [li_0, li_1, li_2, li_3, li_4, li_5, li_6, li_7, li_8, li_9, li_10, li_11, li_12, li_13, li_14, li_15, li_16, li_18, li_19, li_20, li_24, li_28, li_29, li_30, li_31, li_32, li_36, li_40, li_41, li_42, li_43, li_45, li_48, li_49, li_50, li_56, li_57, li_59, li_60, li_61, li_62, li_63, li_64, li_97, li_99, li_100, li_120, li_121, li_122, li_255, li_270, li_300, li_400, li_500, li_540, li_1000, li_1024, li_1440, li_9999, li_11264, li_32768, li_268435456, li_1073741824, li_m, li_o, iN_add, iN_mul, iN_lt, iN_in, iN_cl, iN_inj, iM_ne, iM_ne', iN_or, iN_xor, iN_bd, sh31n, iN_shl2, iN_shr2, iN_bit2, Nat.one_mul, oB, iff_t, iff_f, if_true, if_false, g_up_ne, g_up_eq, g_z_ne, g_z_eq, hP.2.1]
    rw [bP_t h]
    rfl
  · rw [l_X5_sharesWithAll_2]
    unfold b_X5_sharesWithAll_29
    simp (disch := omega) only [li_0, li_1, li_2, li_3, li_4, li_5, li_6, li_7, li_8, li_9, li_10, li_11, li_12, li_13, li_14, li_15, li_16, li_18, li_19, li_20, li_24, li_28, li_29, li_30, li_31, li_32, li_36, li_40, li_41, li_42, li_43, li_45, li_48, li_49, li_50, li_56, li_57, li_59, li_60, li_61, li_62, li_63, li_64, li_97, li_99, li_100, li_120, li_121, li_122, li_255, li_270, li_300, li_400, li_500, li_540, li_1000, li_1024, li_1440, li_9999, li_11264, li_32768, li_268435456, li_1073741824, li_m, li_o, iN_add, iN_mul, iN_lt, iN_in, iN_cl, iN_inj, iM_ne, iM_ne', iN_or, iN_xor, iN_bd, sh31n, iN_shl2, iN_shr2, iN_bit2, Nat.one_mul, oB, iff_t, iff_f, if_true, if_false, g_up_ne, g_up_eq, g_z_ne, g_z_eq, hP.2.1, bI_0]
    cases hb : o.testBit i with
    | false =>
      simp only [if_true]
      exact ih (fun q hq hg => by
        by_cases e : q = i
        · subst e; rw [hb] at hg; cases hg
        · exact h q (by omega) hg)
    | true =>
      simp only [Bool.true_eq_false, if_false]
      rw [share_c hs hP hp hi (by intro e; subst e; rw [hb] at hop; cases hop)]
      simp only [oB, bI_0]
      cases hsh : shareB M p i with
      | false =>
        simp only [if_true]
        rw [bP_f (fun hm => by have := hm i hi hb; rw [hsh] at this; cases this)]
        rfl
      | true =>
        simp only [Bool.true_eq_false, if_false]
        exact ih (fun q hq hg => by
          by_cases e : q = i
          · subst e; exact hsh
          · exact h q (by omega) hg)
theorem shareAll_c {σ : gS} {M : gM} {P p o : Nat} (hs : lyP σ P) (hP : vP M P) (hp : p < P) (ho : o < 1024) (hop : o.testBit p = false) : f_X5_sharesWithAll (iN p) (iN o) σ M = some (bI (bP (∀ q, q < P → o.testBit q = true → shareB M p q = true))) := by
  unfold f_X5_sharesWithAll b_X5_sharesWithAll_0
  have hP10 := hP.1
  exact l_shareAll hs hP hp ho hop P 0 g_FU (by omega) (by unfold g_FU; omega) (fun q hq => by omega)
/-- whether a person may be in a room beside the others who are in it -/
def fitP (M : gM) (P t p r b : Nat) : Prop := okP M t r p ∧ cnt (bd (inR (M 57) t (iN r)) (2 ^ p)) 10 < b ∧ ∀ q, q < P → (bd (inR (M 57) t (iN r)) (2 ^ p)).testBit q = true → shareB M p q = true
theorem fits50 {σ : gS} {M : gM} {P T C t p r b : Nat} {R F : Nat → Nat} (hL : Lay σ P T R) (hP : vP M P) (hT : vT M T C R F) (ht : t < T) (hp : p < P) (hr : r < R t) (hb : M 53 (10 * t + r) = iN b) (hb2 : b ≤ 2) (hok : okP M t r p) : b_X5_fits_50 (110 + t) (iN p) (iN r) (200 + 10 * t + r) σ M = some (bI (bP (fitP M P t p r b))) := by
  have hT6 := hT.1
  have hP10 := hP.1
  have e1 := (hT.2.2.2.2.2.2.2.2.2.2.2.2.1 t r (by omega) hr).1
  have c2 := (hL.2.2.1.1 t ht).1.2.1
  have hh := (hL.2.2.2.1.2.1 t r (by omega) hr).1
  have hlt := inR_lt (M 57) t (iN r)
  have hle := bd_le (inR (M 57) t (iN r)) (2 ^ p)
  have hop : (bd (inR (M 57) t (iN r)) (2 ^ p)).testBit p = false := by rw [bd2_bit]; simp
  have hg := guests_c (x := iN r) hL.2.2.1 ht (hT.2.2.2.2.2.2.2.2.2.1 t ht)
  have hbc := bc10 (bd (inR (M 57) t (iN r)) (2 ^ p)) (by omega)
  rw [pc10_cnt] at hbc
  have hc := cnt_le (bd (inR (M 57) t (iN r)) (2 ^ p)) 10
  have hsa := shareAll_c hL.2.1 hP hp (show bd (inR (M 57) t (iN r)) (2 ^ p) < 1024 by omega) hop
  have hx : iN (inR (M 57) t (iN r)) &&& (((1 : Int32) <<< (iN p &&& 31)) ^^^ -1) = iN (bd (inR (M 57) t (iN r)) (2 ^ p)) := by
    rw [show (1 : Int32) = iN 1 from rfl, iN_shl (by omega), Nat.one_mul]
    exact iN_bd
  have hfit : fitP M P t p r b ↔ (cnt (bd (inR (M 57) t (iN r)) (2 ^ p)) 10 < b ∧ ∀ q, q < P → (bd (inR (M 57) t (iN r)) (2 ^ p)).testBit q = true → shareB M p q = true) := ⟨fun h => h.2, fun h => ⟨hok, h⟩⟩
  rw [bP_iff hfit]
  unfold b_X5_fits_50
  rw [hg, oB, hx]
  clear hx hfit hop hle hlt hg
  generalize bd (inR (M 57) t (iN r)) (2 ^ p) = o at *
  rw [hbc, oB]
  simp only [oB, is_of c2, is_of hh, if_true, e1, hb, hsa]
  have hlt : (iN (cnt o 10) < iN b) = (cnt o 10 < b) := iN_lt (by omega) (by omega)
  by_cases h1 : cnt o 10 < b
  · rw [if_pos (by rw [hlt]; exact h1)]
    rw [bP_iff (show (cnt o 10 < b ∧ ∀ q, q < P → o.testBit q = true → shareB M p q = true) ↔ (∀ q, q < P → o.testBit q = true → shareB M p q = true) from ⟨fun h => h.2, fun h => ⟨h1, h⟩⟩)]
    cases bP (∀ q, q < P → o.testBit q = true → shareB M p q = true) <;> rfl
  · rw [if_neg (by rw [hlt]; exact h1), bP_f (fun hm => h1 hm.1)]
    rfl
theorem fits_in {σ : gS} {M : gM} {P T C t p r b : Nat} {R F : Nat → Nat} (hL : Lay σ P T R) (hP : vP M P) (hT : vT M T C R F) (ht : t < T) (hp : p < P) (hr : r < R t) (hb : M 53 (10 * t + r) = iN b) (hb2 : b ≤ 2) : f_X5_fits (110 + t) (iN p) (iN r) σ M = some (bI (bP (fitP M P t p r b))) := by
  have hT6 := hT.1
  have hP10 := hP.1
  have hR := (hL.2.2.2.1.1 t (by omega)).1
  obtain ⟨e1, e2, e3, e4⟩ := hT.2.2.2.2.2.2.2.2.2.2.2.2.1 t r (by omega) hr
  obtain ⟨a0, a1, a2, a3, a4, a5, a6, a7, a8⟩ := hP.2.2.2.1 p hp
  obtain ⟨c1, c2, c3, c4, c5, c6, c7⟩ := (hL.2.2.1.1 t ht).1
  have hh := (hL.2.2.2.1.2.1 t r (by omega) hr).1
  have hlt := inR_lt (M 57) t (iN r)
  have hle := bd_le (inR (M 57) t (iN r)) (2 ^ p)
  have hop : (bd (inR (M 57) t (iN r)) (2 ^ p)).testBit p = false := by rw [bd2_bit]; simp
  have hg := guests_c (x := iN r) hL.2.2.1 ht (hT.2.2.2.2.2.2.2.2.2.1 t ht)
  have h50 := fits50 hL hP hT ht hp hr hb hb2
  unfold f_X5_fits b_X5_fits_0
  rw [at_in hL.2.1 hP.2.1 hP10 hp, (room_in hL.2.2.1 hL.2.2.2.1 hT ht hr).1]
  simp (disch := omega) only [li_0, li_1, li_2, li_3, li_4, li_5, li_6, li_7, li_8, li_9, li_10, li_11, li_12, li_13, li_14, li_15, li_16, li_18, li_19, li_20, li_24, li_28, li_29, li_30, li_31, li_32, li_36, li_40, li_41, li_42, li_43, li_45, li_48, li_49, li_50, li_56, li_57, li_59, li_60, li_61, li_62, li_63, li_64, li_97, li_99, li_100, li_120, li_121, li_122, li_255, li_270, li_300, li_400, li_500, li_540, li_1000, li_1024, li_1440, li_9999, li_11264, li_32768, li_268435456, li_1073741824, li_m, li_o, iN_add, iN_mul, iN_lt, iN_in, iN_cl, iN_inj, iM_ne, iM_ne', iN_or, iN_xor, iN_bd, sh31n, iN_shl2, iN_shr2, iN_bit2, Nat.one_mul, oB, iff_t, iff_f, if_true, if_false, g_up_ne, g_up_eq, g_z_ne, g_z_eq, is_of c2, is_of hh, e4, is_of (hL.2.1.1 p hp).1, a2, e2]
  by_cases k1 : M 56 (10 * t + r) = iN 0
  · simp only [k1, if_true]
    rw [bP_f (fun hm => hm.1.1 k1)]
    rfl
  · simp only [k1, if_false]
    by_cases k2 : M 43 p = iN 0
    · simp only [k2, if_true]
      exact h50 ⟨k1, Or.inl k2⟩
    · simp only [k2, if_false]
      by_cases k3 : M 54 (10 * t + r) = iN 0
      · simp only [k3, if_true]
        rw [bP_f (fun hm => by
          rcases hm.1.2 with g | g
          · exact k2 g
          · exact g k3)]
        rfl
      · simp only [k3, if_false]
        exact h50 ⟨k1, Or.inr k3⟩
theorem fits_out {σ : gS} {M : gM} {P T C t p : Nat} {R F : Nat → Nat} {x : Int32} (hL : Lay σ P T R) (hP : vP M P) (hT : vT M T C R F) (ht : t < T) (hp : p < P) (hx : ∀ r, r < R t → x ≠ iN r) : f_X5_fits (110 + t) (iN p) x σ M = some (iN 0) := by
  obtain ⟨c1, c2, c3, c4, c5, c6, c7⟩ := (hL.2.2.1.1 t ht).1
  unfold f_X5_fits b_X5_fits_0
  rw [at_in hL.2.1 hP.2.1 hP.1 hp, (room_out hL.2.2.1 hL.2.2.2.1 hT ht hx).1]
  simp (disch := omega) only [li_0, li_1, li_2, li_3, li_4, li_5, li_6, li_7, li_8, li_9, li_10, li_11, li_12, li_13, li_14, li_15, li_16, li_18, li_19, li_20, li_24, li_28, li_29, li_30, li_31, li_32, li_36, li_40, li_41, li_42, li_43, li_45, li_48, li_49, li_50, li_56, li_57, li_59, li_60, li_61, li_62, li_63, li_64, li_97, li_99, li_100, li_120, li_121, li_122, li_255, li_270, li_300, li_400, li_500, li_540, li_1000, li_1024, li_1440, li_9999, li_11264, li_32768, li_268435456, li_1073741824, li_m, li_o, iN_add, iN_mul, iN_lt, iN_in, iN_cl, iN_inj, iM_ne, iM_ne', iN_or, iN_xor, iN_bd, sh31n, iN_shl2, iN_shr2, iN_bit2, Nat.one_mul, oB, iff_t, iff_f, if_true, if_false, g_up_ne, g_up_eq, g_z_ne, g_z_eq, is_of c2]
theorem isThere_c {σ : gS} {M : gM} {P p t : Nat} (hs : lyP σ P) (hP : vP M P) (hp : p < P) : f_X5_isThere (iN p) (iN t) σ M = some (bI (thereB M p t)) := by
  unfold f_X5_isThere b_X5_isThere_0
  rw [at_in hs hP.2.1 hP.1 hp]
  simp (disch := omega) only [li_0, li_1, li_2, li_3, li_4, li_5, li_6, li_7, li_8, li_9, li_10, li_11, li_12, li_13, li_14, li_15, li_16, li_18, li_19, li_20, li_24, li_28, li_29, li_30, li_31, li_32, li_36, li_40, li_41, li_42, li_43, li_45, li_48, li_49, li_50, li_56, li_57, li_59, li_60, li_61, li_62, li_63, li_64, li_97, li_99, li_100, li_120, li_121, li_122, li_255, li_270, li_300, li_400, li_500, li_540, li_1000, li_1024, li_1440, li_9999, li_11264, li_32768, li_268435456, li_1073741824, li_m, li_o, iN_add, iN_mul, iN_lt, iN_in, iN_cl, iN_inj, iM_ne, iM_ne', iN_or, iN_xor, iN_bd, sh31n, iN_shl2, iN_shr2, iN_bit2, Nat.one_mul, oB, iff_t, iff_f, if_true, if_false, g_up_ne, g_up_eq, g_z_ne, g_z_eq, is_of (hs.1 p hp).1, there_c hs hp (hP.2.2.2.1 p hp)]
  cases thereB M p t <;> rfl
theorem isThere_out {σ : gS} {M : gM} {P : Nat} {x y : Int32} (hP : vP M P) (hx : ∀ p, p < P → x ≠ iN p) : f_X5_isThere x y σ M = some (iN 0) := by
  unfold f_X5_isThere b_X5_isThere_0
  rw [at_out hP.2.1 hP.1 hx]
  simp (disch := omega) only [li_0, li_1, li_2, li_3, li_4, li_5, li_6, li_7, li_8, li_9, li_10, li_11, li_12, li_13, li_14, li_15, li_16, li_18, li_19, li_20, li_24, li_28, li_29, li_30, li_31, li_32, li_36, li_40, li_41, li_42, li_43, li_45, li_48, li_49, li_50, li_56, li_57, li_59, li_60, li_61, li_62, li_63, li_64, li_97, li_99, li_100, li_120, li_121, li_122, li_255, li_270, li_300, li_400, li_500, li_540, li_1000, li_1024, li_1440, li_9999, li_11264, li_32768, li_268435456, li_1073741824, li_m, li_o, iN_add, iN_mul, iN_lt, iN_in, iN_cl, iN_inj, iM_ne, iM_ne', iN_or, iN_xor, iN_bd, sh31n, iN_shl2, iN_shr2, iN_bit2, Nat.one_mul, oB, iff_t, iff_f, if_true, if_false, g_up_ne, g_up_eq, g_z_ne, g_z_eq]
theorem l_mput {σ : gS} {M : gM} {P t p r b o : Nat} (hP : M 40 1 = iN P) (h10 : P ≤ 10) (ht : t < 6) (hp : p < P) (hr : r < 10) (ho : o < 1024) (hb : M 53 (10 * t + r) = iN b) (hb2 : b ≤ 2) : ∀ k i n, i + k = P → k < n → (∀ q, q < i → o.testBit q = true → shareB M q p = true) →
    l_X12_put_109 n (iN t) (iN p) (iN r) (iN o) (iN (10 * t + r)) (iN (cnt o i)) (iN i) σ M = if bP ((∀ q, q < P → o.testBit q = true → shareB M q p = true) ∧ cnt o P < b) then b_X12_put_166 (iN t) (iN p) (iN r) σ M else some (iN 0, M) := by
  refine up_ind (fun n h => ?_) (fun i n hi ih h => ?_)
  · have hc := cnt_le o P
    rw [l_X12_put_109]
    simp (disch := omega) only [li_0, li_1, li_2, li_3, li_4, li_5, li_6, li_7, li_8, li_9, li_10, li_11, li_12, li_13, li_14, li_15, li_16, li_18, li_19, li_20, li_24, li_28, li_29, li_30, li_31, li_32, li_36, li_40, li_41, li_42, li_43, li_45, li_48, li_49, li_50, li_56, li_57, li_59, li_60, li_61, li_62, li_63, li_64, li_97, li_99, li_100, li_120, li_121, li_122, li_255, li_270, li_300, li_400, li_500, li_540, li_1000, li_1024, li_1440, li_9999, li_11264, li_32768, li_268435456, li_1073741824, li_m, li_o, iN_add, iN_mul, iN_lt, iN_in, iN_cl, iN_inj, iM_ne, iM_ne', iN_or, iN_xor, iN_bd, sh31n, iN_shl2, iN_shr2, iN_bit2, Nat.one_mul, oB, iff_t, iff_f, if_true, if_false, g_up_ne, g_up_eq, g_z_ne, g_z_eq, hP, hb]
    by_cases h1 : cnt o P < b
    · rw [bP_t ⟨h, h1⟩]
      simp only [h1, if_true]
    · rw [bP_f (fun hm => h1 hm.2)]
      simp only [h1, if_false, Bool.false_eq_true]
  · have hc := cnt_le o i
    rw [l_X12_put_109]
    unfold b_X12_put_146
    simp (disch := omega) only [li_0, li_1, li_2, li_3, li_4, li_5, li_6, li_7, li_8, li_9, li_10, li_11, li_12, li_13, li_14, li_15, li_16, li_18, li_19, li_20, li_24, li_28, li_29, li_30, li_31, li_32, li_36, li_40, li_41, li_42, li_43, li_45, li_48, li_49, li_50, li_56, li_57, li_59, li_60, li_61, li_62, li_63, li_64, li_97, li_99, li_100, li_120, li_121, li_122, li_255, li_270, li_300, li_400, li_500, li_540, li_1000, li_1024, li_1440, li_9999, li_11264, li_32768, li_268435456, li_1073741824, li_m, li_o, iN_add, iN_mul, iN_lt, iN_in, iN_cl, iN_inj, iM_ne, iM_ne', iN_or, iN_xor, iN_bd, sh31n, iN_shl2, iN_shr2, iN_bit2, Nat.one_mul, oB, iff_t, iff_f, if_true, if_false, g_up_ne, g_up_eq, g_z_ne, g_z_eq, hP, bI_0]
    cases hbit : o.testBit i with
    | false =>
      simp only [if_true]
      have := ih (fun q hq hg => by
        by_cases e : q = i
        · subst e; rw [hbit] at hg; cases hg
        · exact h q (by omega) hg)
      rw [cnt_f hbit] at this
      exact this
    | true =>
      simp only [Bool.true_eq_false, if_false]
      rw [share_m (by omega) (by omega)]
      simp only [oB, bI_0]
      cases hsh : shareB M i p with
      | false =>
        simp only [if_true]
        rw [bP_f (fun hm => by have := hm.1 i hi hbit; rw [hsh] at this; cases this)]
        rfl
      | true =>
        simp only [Bool.true_eq_false, if_false]
        have := ih (fun q hq hg => by
          by_cases e : q = i
          · subst e; exact hsh
          · exact h q (by omega) hg)
        rw [cnt_t hbit] at this
        exact this
/-- the change itself, both sides, as put does it -/
theorem put_end {σ : gS} {M : gM} {P T C t p : Nat} {R F : Nat → Nat} {x : Int32} (h : Iv σ M P T C R F) (ht : t < T) (hp : p < P) (hx : oN x (R t)) : ∃ r M1 M2, b_X11_put_47 (iN p) x (110 + t) σ M = some (r, M1) ∧ b_X12_put_166 (iN t) (iN p) x σ M1 = some (r, M2) ∧ Inv σ M2 ∧ ∀ a k, 40 ≤ a → a < 100 → M1 a k = M a k := by
  have h0 := h
  obtain ⟨hL, hP, hT, hD, hN, hB, hK, hC, hX⟩ := h
  have hT6 := hT.1
  have hP10 := hP.1
  have hR := (hL.2.2.2.1.1 t (by omega)).1
  obtain ⟨c1, c2, c3, c4, c5, c6, c7⟩ := (hL.2.2.1.1 t ht).1
  have v1 := hT.2.2.2.2.2.2.2.2.2.1 t ht
  have e := guest_c (p := p) hL.2.2.1 ht v1 (by omega)
  obtain ⟨s, hs, s1, s2, s3⟩ := hN
  obtain ⟨⟨d, hd, d1, d2⟩, _⟩ := hD
  unfold b_X11_put_47 b_X11_put_70 b_X12_put_166 b_X12_put_193
  rw [e]
  by_cases k1 : M 57 (10 * t + p) = x
  · refine ⟨iN 1, M, M, ?_, ?_, ⟨P, T, C, R, F, h0⟩, fun _ _ _ _ => rfl⟩
    · rw [list_c0 hL.2.2.1 ht v1 (by omega) k1]
      simp (disch := omega) only [li_0, li_1, li_2, li_3, li_4, li_5, li_6, li_7, li_8, li_9, li_10, li_11, li_12, li_13, li_14, li_15, li_16, li_18, li_19, li_20, li_24, li_28, li_29, li_30, li_31, li_32, li_36, li_40, li_41, li_42, li_43, li_45, li_48, li_49, li_50, li_56, li_57, li_59, li_60, li_61, li_62, li_63, li_64, li_97, li_99, li_100, li_120, li_121, li_122, li_255, li_270, li_300, li_400, li_500, li_540, li_1000, li_1024, li_1440, li_9999, li_11264, li_32768, li_268435456, li_1073741824, li_m, li_o, iN_add, iN_mul, iN_lt, iN_in, iN_cl, iN_inj, iM_ne, iM_ne', iN_or, iN_xor, iN_bd, sh31n, iN_shl2, iN_shr2, iN_bit2, Nat.one_mul, oB, iff_t, iff_f, if_true, if_false, g_up_ne, g_up_eq, g_z_ne, g_z_eq, is_of c2, k1]
    · rw [list_m0 (by omega) (by omega) k1]
      simp (disch := omega) only [li_0, li_1, li_2, li_3, li_4, li_5, li_6, li_7, li_8, li_9, li_10, li_11, li_12, li_13, li_14, li_15, li_16, li_18, li_19, li_20, li_24, li_28, li_29, li_30, li_31, li_32, li_36, li_40, li_41, li_42, li_43, li_45, li_48, li_49, li_50, li_56, li_57, li_59, li_60, li_61, li_62, li_63, li_64, li_97, li_99, li_100, li_120, li_121, li_122, li_255, li_270, li_300, li_400, li_500, li_540, li_1000, li_1024, li_1440, li_9999, li_11264, li_32768, li_268435456, li_1073741824, li_m, li_o, iN_add, iN_mul, iN_lt, iN_in, iN_cl, iN_inj, iM_ne, iM_ne', iN_or, iN_xor, iN_bd, sh31n, iN_shl2, iN_shr2, iN_bit2, Nat.one_mul, oB, iff_t, iff_f, if_true, if_false, g_up_ne, g_up_eq, g_z_ne, g_z_eq, k1]
  · by_cases k2 : s = 500
    · refine ⟨iN 0, M, M, ?_, ?_, ⟨P, T, C, R, F, h0⟩, fun _ _ _ _ => rfl⟩
      · unfold f_X4_haveSpace b_X4_haveSpace_0
        simp (disch := omega) only [li_0, li_1, li_2, li_3, li_4, li_5, li_6, li_7, li_8, li_9, li_10, li_11, li_12, li_13, li_14, li_15, li_16, li_18, li_19, li_20, li_24, li_28, li_29, li_30, li_31, li_32, li_36, li_40, li_41, li_42, li_43, li_45, li_48, li_49, li_50, li_56, li_57, li_59, li_60, li_61, li_62, li_63, li_64, li_97, li_99, li_100, li_120, li_121, li_122, li_255, li_270, li_300, li_400, li_500, li_540, li_1000, li_1024, li_1440, li_9999, li_11264, li_32768, li_268435456, li_1073741824, li_m, li_o, iN_add, iN_mul, iN_lt, iN_in, iN_cl, iN_inj, iM_ne, iM_ne', iN_or, iN_xor, iN_bd, sh31n, iN_shl2, iN_shr2, iN_bit2, Nat.one_mul, oB, iff_t, iff_f, if_true, if_false, g_up_ne, g_up_eq, g_z_ne, g_z_eq, is_of c2, k1, s1]
      · simp (disch := omega) only [li_0, li_1, li_2, li_3, li_4, li_5, li_6, li_7, li_8, li_9, li_10, li_11, li_12, li_13, li_14, li_15, li_16, li_18, li_19, li_20, li_24, li_28, li_29, li_30, li_31, li_32, li_36, li_40, li_41, li_42, li_43, li_45, li_48, li_49, li_50, li_56, li_57, li_59, li_60, li_61, li_62, li_63, li_64, li_97, li_99, li_100, li_120, li_121, li_122, li_255, li_270, li_300, li_400, li_500, li_540, li_1000, li_1024, li_1440, li_9999, li_11264, li_32768, li_268435456, li_1073741824, li_m, li_o, iN_add, iN_mul, iN_lt, iN_in, iN_cl, iN_inj, iM_ne, iM_ne', iN_or, iN_xor, iN_bd, sh31n, iN_shl2, iN_shr2, iN_bit2, Nat.one_mul, oB, iff_t, iff_f, if_true, if_false, g_up_ne, g_up_eq, g_z_ne, g_z_eq, k1, s2]
    · obtain ⟨r, r1, r2, r3⟩ := oN_succ hx
      refine ⟨iN 1, wrC M t p s x (iN (2048 * d + 256 * t + 16 * p + r)), wrM (wrC M t p s x (iN (2048 * d + 256 * t + 16 * p + r))) t p s x (iN d), ?_, ?_, ⟨P, T, C, R, F, iv_wr h0 hp ht hx s1 (by omega) hd (by omega) r2 ?_ ?_ ?_ ?_ ?_ ?_ ?_ ?_ ?_⟩, ?_⟩
      · rw [list_c hL.2.2.1 hT6 ht v1 (by omega) s1 (by omega) d1 hd (by omega) r3 k1]
        unfold f_X4_haveSpace b_X4_haveSpace_0
        simp (disch := omega) only [li_0, li_1, li_2, li_3, li_4, li_5, li_6, li_7, li_8, li_9, li_10, li_11, li_12, li_13, li_14, li_15, li_16, li_18, li_19, li_20, li_24, li_28, li_29, li_30, li_31, li_32, li_36, li_40, li_41, li_42, li_43, li_45, li_48, li_49, li_50, li_56, li_57, li_59, li_60, li_61, li_62, li_63, li_64, li_97, li_99, li_100, li_120, li_121, li_122, li_255, li_270, li_300, li_400, li_500, li_540, li_1000, li_1024, li_1440, li_9999, li_11264, li_32768, li_268435456, li_1073741824, li_m, li_o, iN_add, iN_mul, iN_lt, iN_in, iN_cl, iN_inj, iM_ne, iM_ne', iN_or, iN_xor, iN_bd, sh31n, iN_shl2, iN_shr2, iN_bit2, Nat.one_mul, oB, iff_t, iff_f, if_true, if_false, g_up_ne, g_up_eq, g_z_ne, g_z_eq, is_of c2, k1, s1]
      · have w1 : wrC M t p s x (iN (2048 * d + 256 * t + 16 * p + r)) 57 (10 * t + p) = M 57 (10 * t + p) := by unfold wrC; simp (disch := omega) only [li_0, li_1, li_2, li_3, li_4, li_5, li_6, li_7, li_8, li_9, li_10, li_11, li_12, li_13, li_14, li_15, li_16, li_18, li_19, li_20, li_24, li_28, li_29, li_30, li_31, li_32, li_36, li_40, li_41, li_42, li_43, li_45, li_48, li_49, li_50, li_56, li_57, li_59, li_60, li_61, li_62, li_63, li_64, li_97, li_99, li_100, li_120, li_121, li_122, li_255, li_270, li_300, li_400, li_500, li_540, li_1000, li_1024, li_1440, li_9999, li_11264, li_32768, li_268435456, li_1073741824, li_m, li_o, iN_add, iN_mul, iN_lt, iN_in, iN_cl, iN_inj, iM_ne, iM_ne', iN_or, iN_xor, iN_bd, sh31n, iN_shl2, iN_shr2, iN_bit2, Nat.one_mul, oB, iff_t, iff_f, if_true, if_false, g_up_ne, g_up_eq, g_z_ne, g_z_eq]
        have w2 : wrC M t p s x (iN (2048 * d + 256 * t + 16 * p + r)) 40 26 = iN s := by unfold wrC; simp (disch := omega) only [li_0, li_1, li_2, li_3, li_4, li_5, li_6, li_7, li_8, li_9, li_10, li_11, li_12, li_13, li_14, li_15, li_16, li_18, li_19, li_20, li_24, li_28, li_29, li_30, li_31, li_32, li_36, li_40, li_41, li_42, li_43, li_45, li_48, li_49, li_50, li_56, li_57, li_59, li_60, li_61, li_62, li_63, li_64, li_97, li_99, li_100, li_120, li_121, li_122, li_255, li_270, li_300, li_400, li_500, li_540, li_1000, li_1024, li_1440, li_9999, li_11264, li_32768, li_268435456, li_1073741824, li_m, li_o, iN_add, iN_mul, iN_lt, iN_in, iN_cl, iN_inj, iM_ne, iM_ne', iN_or, iN_xor, iN_bd, sh31n, iN_shl2, iN_shr2, iN_bit2, Nat.one_mul, oB, iff_t, iff_f, if_true, if_false, g_up_ne, g_up_eq, g_z_ne, g_z_eq, s2]
        have w3 : wrC M t p s x (iN (2048 * d + 256 * t + 16 * p + r)) 40 14 = iN d := by unfold wrC; simp (disch := omega) only [li_0, li_1, li_2, li_3, li_4, li_5, li_6, li_7, li_8, li_9, li_10, li_11, li_12, li_13, li_14, li_15, li_16, li_18, li_19, li_20, li_24, li_28, li_29, li_30, li_31, li_32, li_36, li_40, li_41, li_42, li_43, li_45, li_48, li_49, li_50, li_56, li_57, li_59, li_60, li_61, li_62, li_63, li_64, li_97, li_99, li_100, li_120, li_121, li_122, li_255, li_270, li_300, li_400, li_500, li_540, li_1000, li_1024, li_1440, li_9999, li_11264, li_32768, li_268435456, li_1073741824, li_m, li_o, iN_add, iN_mul, iN_lt, iN_in, iN_cl, iN_inj, iM_ne, iM_ne', iN_or, iN_xor, iN_bd, sh31n, iN_shl2, iN_shr2, iN_bit2, Nat.one_mul, oB, iff_t, iff_f, if_true, if_false, g_up_ne, g_up_eq, g_z_ne, g_z_eq, d2]
        rw [list_m (by omega) (by omega) w2 (by omega) w3 (by rw [w1]; exact k1)]
        simp (disch := omega) only [li_0, li_1, li_2, li_3, li_4, li_5, li_6, li_7, li_8, li_9, li_10, li_11, li_12, li_13, li_14, li_15, li_16, li_18, li_19, li_20, li_24, li_28, li_29, li_30, li_31, li_32, li_36, li_40, li_41, li_42, li_43, li_45, li_48, li_49, li_50, li_56, li_57, li_59, li_60, li_61, li_62, li_63, li_64, li_97, li_99, li_100, li_120, li_121, li_122, li_255, li_270, li_300, li_400, li_500, li_540, li_1000, li_1024, li_1440, li_9999, li_11264, li_32768, li_268435456, li_1073741824, li_m, li_o, iN_add, iN_mul, iN_lt, iN_in, iN_cl, iN_inj, iM_ne, iM_ne', iN_or, iN_xor, iN_bd, sh31n, iN_shl2, iN_shr2, iN_bit2, Nat.one_mul, oB, iff_t, iff_f, if_true, if_false, g_up_ne, g_up_eq, g_z_ne, g_z_eq, w1, k1, w2]
      · unfold wrM wrC; simp (disch := omega) only [li_0, li_1, li_2, li_3, li_4, li_5, li_6, li_7, li_8, li_9, li_10, li_11, li_12, li_13, li_14, li_15, li_16, li_18, li_19, li_20, li_24, li_28, li_29, li_30, li_31, li_32, li_36, li_40, li_41, li_42, li_43, li_45, li_48, li_49, li_50, li_56, li_57, li_59, li_60, li_61, li_62, li_63, li_64, li_97, li_99, li_100, li_120, li_121, li_122, li_255, li_270, li_300, li_400, li_500, li_540, li_1000, li_1024, li_1440, li_9999, li_11264, li_32768, li_268435456, li_1073741824, li_m, li_o, iN_add, iN_mul, iN_lt, iN_in, iN_cl, iN_inj, iM_ne, iM_ne', iN_or, iN_xor, iN_bd, sh31n, iN_shl2, iN_shr2, iN_bit2, Nat.one_mul, oB, iff_t, iff_f, if_true, if_false, g_up_ne, g_up_eq, g_z_ne, g_z_eq]
      · unfold wrM wrC; simp (disch := omega) only [li_0, li_1, li_2, li_3, li_4, li_5, li_6, li_7, li_8, li_9, li_10, li_11, li_12, li_13, li_14, li_15, li_16, li_18, li_19, li_20, li_24, li_28, li_29, li_30, li_31, li_32, li_36, li_40, li_41, li_42, li_43, li_45, li_48, li_49, li_50, li_56, li_57, li_59, li_60, li_61, li_62, li_63, li_64, li_97, li_99, li_100, li_120, li_121, li_122, li_255, li_270, li_300, li_400, li_500, li_540, li_1000, li_1024, li_1440, li_9999, li_11264, li_32768, li_268435456, li_1073741824, li_m, li_o, iN_add, iN_mul, iN_lt, iN_in, iN_cl, iN_inj, iM_ne, iM_ne', iN_or, iN_xor, iN_bd, sh31n, iN_shl2, iN_shr2, iN_bit2, Nat.one_mul, oB, iff_t, iff_f, if_true, if_false, g_up_ne, g_up_eq, g_z_ne, g_z_eq]
      · unfold wrM wrC; simp (disch := omega) only [li_0, li_1, li_2, li_3, li_4, li_5, li_6, li_7, li_8, li_9, li_10, li_11, li_12, li_13, li_14, li_15, li_16, li_18, li_19, li_20, li_24, li_28, li_29, li_30, li_31, li_32, li_36, li_40, li_41, li_42, li_43, li_45, li_48, li_49, li_50, li_56, li_57, li_59, li_60, li_61, li_62, li_63, li_64, li_97, li_99, li_100, li_120, li_121, li_122, li_255, li_270, li_300, li_400, li_500, li_540, li_1000, li_1024, li_1440, li_9999, li_11264, li_32768, li_268435456, li_1073741824, li_m, li_o, iN_add, iN_mul, iN_lt, iN_in, iN_cl, iN_inj, iM_ne, iM_ne', iN_or, iN_xor, iN_bd, sh31n, iN_shl2, iN_shr2, iN_bit2, Nat.one_mul, oB, iff_t, iff_f, if_true, if_false, g_up_ne, g_up_eq, g_z_ne, g_z_eq]
      · unfold wrM wrC; simp (disch := omega) only [li_0, li_1, li_2, li_3, li_4, li_5, li_6, li_7, li_8, li_9, li_10, li_11, li_12, li_13, li_14, li_15, li_16, li_18, li_19, li_20, li_24, li_28, li_29, li_30, li_31, li_32, li_36, li_40, li_41, li_42, li_43, li_45, li_48, li_49, li_50, li_56, li_57, li_59, li_60, li_61, li_62, li_63, li_64, li_97, li_99, li_100, li_120, li_121, li_122, li_255, li_270, li_300, li_400, li_500, li_540, li_1000, li_1024, li_1440, li_9999, li_11264, li_32768, li_268435456, li_1073741824, li_m, li_o, iN_add, iN_mul, iN_lt, iN_in, iN_cl, iN_inj, iM_ne, iM_ne', iN_or, iN_xor, iN_bd, sh31n, iN_shl2, iN_shr2, iN_bit2, Nat.one_mul, oB, iff_t, iff_f, if_true, if_false, g_up_ne, g_up_eq, g_z_ne, g_z_eq]
      · unfold wrM wrC; simp (disch := omega) only [li_0, li_1, li_2, li_3, li_4, li_5, li_6, li_7, li_8, li_9, li_10, li_11, li_12, li_13, li_14, li_15, li_16, li_18, li_19, li_20, li_24, li_28, li_29, li_30, li_31, li_32, li_36, li_40, li_41, li_42, li_43, li_45, li_48, li_49, li_50, li_56, li_57, li_59, li_60, li_61, li_62, li_63, li_64, li_97, li_99, li_100, li_120, li_121, li_122, li_255, li_270, li_300, li_400, li_500, li_540, li_1000, li_1024, li_1440, li_9999, li_11264, li_32768, li_268435456, li_1073741824, li_m, li_o, iN_add, iN_mul, iN_lt, iN_in, iN_cl, iN_inj, iM_ne, iM_ne', iN_or, iN_xor, iN_bd, sh31n, iN_shl2, iN_shr2, iN_bit2, Nat.one_mul, oB, iff_t, iff_f, if_true, if_false, g_up_ne, g_up_eq, g_z_ne, g_z_eq]
      · unfold wrM wrC; simp (disch := omega) only [li_0, li_1, li_2, li_3, li_4, li_5, li_6, li_7, li_8, li_9, li_10, li_11, li_12, li_13, li_14, li_15, li_16, li_18, li_19, li_20, li_24, li_28, li_29, li_30, li_31, li_32, li_36, li_40, li_41, li_42, li_43, li_45, li_48, li_49, li_50, li_56, li_57, li_59, li_60, li_61, li_62, li_63, li_64, li_97, li_99, li_100, li_120, li_121, li_122, li_255, li_270, li_300, li_400, li_500, li_540, li_1000, li_1024, li_1440, li_9999, li_11264, li_32768, li_268435456, li_1073741824, li_m, li_o, iN_add, iN_mul, iN_lt, iN_in, iN_cl, iN_inj, iM_ne, iM_ne', iN_or, iN_xor, iN_bd, sh31n, iN_shl2, iN_shr2, iN_bit2, Nat.one_mul, oB, iff_t, iff_f, if_true, if_false, g_up_ne, g_up_eq, g_z_ne, g_z_eq]
      · unfold wrM wrC; simp (disch := omega) only [li_0, li_1, li_2, li_3, li_4, li_5, li_6, li_7, li_8, li_9, li_10, li_11, li_12, li_13, li_14, li_15, li_16, li_18, li_19, li_20, li_24, li_28, li_29, li_30, li_31, li_32, li_36, li_40, li_41, li_42, li_43, li_45, li_48, li_49, li_50, li_56, li_57, li_59, li_60, li_61, li_62, li_63, li_64, li_97, li_99, li_100, li_120, li_121, li_122, li_255, li_270, li_300, li_400, li_500, li_540, li_1000, li_1024, li_1440, li_9999, li_11264, li_32768, li_268435456, li_1073741824, li_m, li_o, iN_add, iN_mul, iN_lt, iN_in, iN_cl, iN_inj, iM_ne, iM_ne', iN_or, iN_xor, iN_bd, sh31n, iN_shl2, iN_shr2, iN_bit2, Nat.one_mul, oB, iff_t, iff_f, if_true, if_false, g_up_ne, g_up_eq, g_z_ne, g_z_eq]
      · unfold wrM wrC; simp (disch := omega) only [li_0, li_1, li_2, li_3, li_4, li_5, li_6, li_7, li_8, li_9, li_10, li_11, li_12, li_13, li_14, li_15, li_16, li_18, li_19, li_20, li_24, li_28, li_29, li_30, li_31, li_32, li_36, li_40, li_41, li_42, li_43, li_45, li_48, li_49, li_50, li_56, li_57, li_59, li_60, li_61, li_62, li_63, li_64, li_97, li_99, li_100, li_120, li_121, li_122, li_255, li_270, li_300, li_400, li_500, li_540, li_1000, li_1024, li_1440, li_9999, li_11264, li_32768, li_268435456, li_1073741824, li_m, li_o, iN_add, iN_mul, iN_lt, iN_in, iN_cl, iN_inj, iM_ne, iM_ne', iN_or, iN_xor, iN_bd, sh31n, iN_shl2, iN_shr2, iN_bit2, Nat.one_mul, oB, iff_t, iff_f, if_true, if_false, g_up_ne, g_up_eq, g_z_ne, g_z_eq]
      · intro a j g1 g2 g3 g4 g5 g6
        unfold wrM wrC; simp (disch := omega) only [li_0, li_1, li_2, li_3, li_4, li_5, li_6, li_7, li_8, li_9, li_10, li_11, li_12, li_13, li_14, li_15, li_16, li_18, li_19, li_20, li_24, li_28, li_29, li_30, li_31, li_32, li_36, li_40, li_41, li_42, li_43, li_45, li_48, li_49, li_50, li_56, li_57, li_59, li_60, li_61, li_62, li_63, li_64, li_97, li_99, li_100, li_120, li_121, li_122, li_255, li_270, li_300, li_400, li_500, li_540, li_1000, li_1024, li_1440, li_9999, li_11264, li_32768, li_268435456, li_1073741824, li_m, li_o, iN_add, iN_mul, iN_lt, iN_in, iN_cl, iN_inj, iM_ne, iM_ne', iN_or, iN_xor, iN_bd, sh31n, iN_shl2, iN_shr2, iN_bit2, Nat.one_mul, oB, iff_t, iff_f, if_true, if_false, g_up_ne, g_up_eq, g_z_ne, g_z_eq]
      · intro a k g1 g2
        unfold wrC; simp (disch := omega) only [li_0, li_1, li_2, li_3, li_4, li_5, li_6, li_7, li_8, li_9, li_10, li_11, li_12, li_13, li_14, li_15, li_16, li_18, li_19, li_20, li_24, li_28, li_29, li_30, li_31, li_32, li_36, li_40, li_41, li_42, li_43, li_45, li_48, li_49, li_50, li_56, li_57, li_59, li_60, li_61, li_62, li_63, li_64, li_97, li_99, li_100, li_120, li_121, li_122, li_255, li_270, li_300, li_400, li_500, li_540, li_1000, li_1024, li_1440, li_9999, li_11264, li_32768, li_268435456, li_1073741824, li_m, li_o, iN_add, iN_mul, iN_lt, iN_in, iN_cl, iN_inj, iM_ne, iM_ne', iN_or, iN_xor, iN_bd, sh31n, iN_shl2, iN_shr2, iN_bit2, Nat.one_mul, oB, iff_t, iff_f, if_true, if_false, g_up_ne, g_up_eq, g_z_ne, g_z_eq]
