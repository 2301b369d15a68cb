/-! The night's charges, both sides in step. -/
theorem clampI_le (x : Int32) : ∃ j, j ≤ 100 ∧ clampI x = iN j := by
  unfold clampI
  by_cases h1 : x < 0
  · rw [if_pos h1]; exact ⟨0, by omega, rfl⟩
  · rw [if_neg h1]
    by_cases h2 : 100 < x
    · rw [if_pos h2]; exact ⟨100, by omega, rfl⟩
    · rw [if_neg h2]
      rcases neg_or x with h | ⟨n, hn, rfl⟩
      · exact absurd h h1
      · refine ⟨n, ?_, rfl⟩
        rw [show (100 : Int32) = iN 100 from rfl, iN_lt (by omega) (by omega)] at h2
        omega
theorem worthI_le (fa : Nat → Int32) (k : Nat) (rs : List gRule) : ∃ j, j ≤ 100 ∧ worthI fa k rs = iN j := by
  induction rs with
  | nil => exact ⟨0, by omega, rfl⟩
  | cons r rs ih =>
    unfold worthI
    split
    · exact clampI_le _
    · exact ih
theorem l_size (s : Nat) (hs : s < 1024) : ∀ k i n, i + k = 10 → k < n → l_X12_sizeOf_4 n (iN s) (iN (cnt s i)) (iN i) = some (iN (cnt s 10)) := by
  refine up_ind (fun n => ?_) (fun i n hi ih => ?_)
  · rw [l_X12_sizeOf_4]
    simp (disch := omega) only [li_0, li_1, li_2, li_3, li_4, li_5, li_6, li_7, li_8, li_9, li_10, li_11, li_12, li_13, li_14, li_15, li_16, li_18, li_19, li_20, li_24, li_28, li_29, li_30, li_31, li_32, li_36, li_40, li_41, li_42, li_43, li_45, li_48, li_49, li_50, li_56, li_57, li_59, li_60, li_61, li_62, li_63, li_64, li_97, li_99, li_100, li_120, li_121, li_122, li_255, li_270, li_300, li_400, li_500, li_540, li_1000, li_1024, li_1440, li_9999, li_11264, li_32768, li_268435456, li_1073741824, li_m, li_o, iN_add, iN_mul, iN_lt, iN_in, iN_cl, iN_inj, iM_ne, iM_ne', iN_or, iN_xor, iN_bd, sh31n, iN_shl2, iN_shr2, iN_bit2, Nat.one_mul, oB, iff_t, iff_f, if_true, if_false, g_up_ne, g_up_eq, g_z_ne, g_z_eq]
  · rw [l_X12_sizeOf_4]
    simp (disch := omega) only [li_0, li_1, li_2, li_3, li_4, li_5, li_6, li_7, li_8, li_9, li_10, li_11, li_12, li_13, li_14, li_15, li_16, li_18, li_19, li_20, li_24, li_28, li_29, li_30, li_31, li_32, li_36, li_40, li_41, li_42, li_43, li_45, li_48, li_49, li_50, li_56, li_57, li_59, li_60, li_61, li_62, li_63, li_64, li_97, li_99, li_100, li_120, li_121, li_122, li_255, li_270, li_300, li_400, li_500, li_540, li_1000, li_1024, li_1440, li_9999, li_11264, li_32768, li_268435456, li_1073741824, li_m, li_o, iN_add, iN_mul, iN_lt, iN_in, iN_cl, iN_inj, iM_ne, iM_ne', iN_or, iN_xor, iN_bd, sh31n, iN_shl2, iN_shr2, iN_bit2, Nat.one_mul, oB, iff_t, iff_f, if_true, if_false, g_up_ne, g_up_eq, g_z_ne, g_z_eq]
    cases h : s.testBit i with
    | false =>
      rw [cnt_f h] at ih
      rw [bI_f, zI]
      exact ih
    | true =>
      rw [cnt_t h] at ih
      rw [bI_t, iN_add]
      exact ih
theorem size_m {s : Nat} (hs : s < 1024) : f_X12_sizeOf (iN s) = some (iN (cnt s 10)) := by
  unfold f_X12_sizeOf b_X12_sizeOf_0
  exact l_size s hs 10 0 g_FU (by omega) (by unfold g_FU; omega)
/-- what is the same while charging -/
def chR (A0 B0 A B : gM) (P : Nat) : Prop := (∀ p, p < P → A (100 + p) 10 = B 64 p) ∧ (∀ a j, ¬ (100 ≤ a ∧ a < 110 ∧ j = 10) → A a j = A0 a j) ∧ ∀ a j, ¬ (a = 64 ∧ j < P) → B a j = B0 a j
def odN (od : Nat) (fst : Bool) : Nat := if fst then od else 0
theorem l_charge {σ : gS} {A0 B0 : gM} {N : gN} {P C rf s sh od c : Nat} {two : Bool} {x1 x4 : Int32} {k114 : Int32 → Int32 → Int32 → Int32 → gS → gM → gN → Option (Int32 × gM × gN)} (hly : lyP σ P) (h10 : P ≤ 10) (hC : C < 30) (hs : s < 1024) (a1 : A0 2 1 = iN P) (a2 : A0 33 0 = iN C) (b1 : B0 40 1 = iN P) (hab : ∀ p, p < P → ∃ b, b < 1073741824 ∧ A0 (100 + p) 9 = iN b ∧ B0 61 (10 * C + p) = bI (b.testBit C)) (hc : c ≤ 1000)
    (h2 : two = true → sh + od = c - c / 2 ∧ sh = c / 2) (h1 : two = false → sh = c ∧ od = 0) : ∀ k i n, i + k = P → k < n → ∀ n2, P - i < n2 → ∀ (fst : Bool) (A B : gM), chR A0 B0 A B P → ∃ A' B', l_X11_charge_55 n (iN rf) (iN s) (iN sh) (iN (odN od fst)) (iN i) σ A = some A' ∧ l_X12_night_170 k114 n2 x1 (iN C) (iN rf) x4 (iN s) (iN c) (bI two) (bI fst) (iN i) σ B N = k114 x1 (iN C) (iN rf) (x4 + 1) σ B' N ∧ chR A0 B0 A' B' P := by
  refine up_ind (fun n n2 hn2 fst A B h => ?_) (fun i n hi ih n2 hn2 fst A B h => ?_)
  · obtain ⟨n2, rfl⟩ : ∃ m, n2 = m + 1 := ⟨n2 - 1, by omega⟩
    refine ⟨A, B, ?_, ?_, h⟩
    · rw [l_X11_charge_55, h.2.1 2 1 (by omega), a1, if_neg (by rw [iN_lt (by omega) (by omega)]; omega)]
    · rw [l_X12_night_170, h.2.2 40 1 (by omega), b1, if_neg (by rw [iN_lt (by omega) (by omega)]; omega)]
  · obtain ⟨n2, rfl⟩ : ∃ m, n2 = m + 1 := ⟨n2 - 1, by omega⟩
    have ei : iN i + 1 = iN (i + 1) := by rw [show (1 : Int32) = iN 1 from rfl, iN_add]
    have hlt : iN i < iN P := by rw [iN_lt (by omega) (by omega)]; omega
    rw [l_X11_charge_55, h.2.1 2 1 (by omega), a1, if_pos hlt, l_X12_night_170, h.2.2 40 1 (by omega), b1, if_pos hlt]
    unfold b_X11_charge_106 b_X12_night_225 b_X12_night_232
    rw [ei]
    cases hb : s.testBit i with
    | false =>
      have hyb : ((iN s >>> (iN i &&& 31)) &&& (1 : Int32)) = 0 := by rw [iN_bit0 (by omega) (by omega)]; exact hb
      rw [if_pos hyb, if_pos hyb]
      exact ih n2 (by omega) fst A B h
    | true =>
      have hnb : ¬ ((iN s >>> (iN i &&& 31)) &&& (1 : Int32)) = 0 := by rw [iN_bit0 (by omega) (by omega), hb]; simp
      rw [if_neg hnb, if_neg hnb, if_pos (show g_in (iN i) 10 = true by rw [iN_in (by omega)]; omega), iN_cl (by omega), (hly.1 i hi).2, if_pos (show g_is σ (100 + i) 6 = true by rw [is_of (hly.1 i hi).1]; trivial)]
      obtain ⟨w, w1, w2, w3⟩ := hab i hi
      have hw : A (100 + i) 9 = iN w := by rw [h.2.1 _ _ (by omega)]; exact w2
      have hw3 : B 61 (10 * C + i) = bI (w.testBit C) := by rw [h.2.2 _ _ (by omega)]; exact w3
      -- the amount
      let am : Nat := sh + (odN od fst)
      let v : Int32 := if w.testBit C then iN am - (iN am * iN rf) / 100 else iN am
      have hcl : f_X6_charge (100 + i) (iN sh + iN (odN od fst)) (A 33 0) (iN rf) σ A = some (g_up A (100 + i) 10 (A (100 + i) 10 + v)) := by
        unfold f_X6_charge b_X6_charge_0 b_X6_charge_16 b_X6_charge_40
        have ii : g_is σ (100 + i) 6 = true := by rw [is_of (hly.1 i hi).1]; trivial
        rw [if_pos ii, hw, h.2.1 33 0 (by omega), a2, show iN sh + iN (odN od fst) = iN am from iN_add _ _]
        cases hwb : w.testBit C with
        | false =>
          rw [if_pos (by rw [iN_bit0 (by omega) (by omega)]; exact hwb), if_pos ii, if_pos rfl]
          show _ = some (g_up A (100 + i) 10 (A (100 + i) 10 + (if w.testBit C then iN am - (iN am * iN rf) / 100 else iN am)))
          rw [hwb, if_pos ii]; rfl
        | true =>
          rw [if_neg (by rw [iN_bit0 (by omega) (by omega), hwb]; simp), if_pos ii, if_neg (show ¬ (1 : Int32) = 0 by decide), if_neg (show ¬ (100 : Int32) = 0 by decide)]
          show _ = some (g_up A (100 + i) 10 (A (100 + i) 10 + (if w.testBit C then iN am - (iN am * iN rf) / 100 else iN am)))
          rw [hwb, if_pos ii]; rfl
      have hml : ∀ x : Int32, x = iN am → f_X12_owes (iN C) (iN i) x (iN rf) σ B = some (g_up B 64 i (B 64 i + v)) := fun x hx => by
        subst hx
        have e10 : (10 : Int32) * iN C + iN i = iN (10 * C + i) := by rw [show (10 : Int32) = iN 10 from rfl, iN_mul, iN_add]
        unfold f_X12_owes b_X12_owes_0 b_X12_owes_34
        have ig : g_in (iN i) 10 = true := by rw [iN_in (by omega)]; omega
        rw [if_pos ig, e10, if_pos (by rw [iN_in (by omega)]; omega), iN_cl (by omega), iN_cl (by omega), hw3, if_pos ig]
        cases hwb : w.testBit C with
        | false =>
          rw [if_pos (show bI false = 0 from rfl)]
          show _ = some (g_up B 64 i (B 64 i + (if w.testBit C then iN am - (iN am * iN rf) / 100 else iN am)))
          rw [hwb]; rfl
        | true =>
          rw [if_neg (show ¬ bI true = 0 by decide), if_neg (show ¬ (100 : Int32) = 0 by decide), if_pos ig]
          show _ = some (g_up B 64 i (B 64 i + (if w.testBit C then iN am - (iN am * iN rf) / 100 else iN am)))
          rw [hwb]; rfl
      have hR' : chR A0 B0 (g_up A (100 + i) 10 (A (100 + i) 10 + v)) (g_up B 64 i (B 64 i + v)) P := by
        refine ⟨fun p hp => ?_, fun a j hh => by rw [g_up_ne _ _ (by omega)]; exact h.2.1 a j hh, fun a j hh => by rw [g_up_ne _ _ (by omega)]; exact h.2.2 a j hh⟩
        by_cases e : p = i
        · subst e; rw [g_up_eq _ _ ⟨rfl, rfl⟩, g_up_eq _ _ ⟨rfl, rfl⟩, h.1 p hp]
        · rw [g_up_ne _ _ (by omega), g_up_ne _ _ (by omega)]; exact h.1 p hp
      have next := ih n2 (by omega) false _ _ hR'
      rw [hcl, oB]
      have fin : ∀ x : Int32, x = iN am → ∃ A' B', l_X11_charge_55 n (iN rf) (iN s) (iN sh) 0 (iN (i + 1)) σ (g_up A (100 + i) 10 (A (100 + i) 10 + v)) = some A' ∧ ((f_X12_owes (iN C) (iN i) x (iN rf) σ B).bind fun q226 => l_X12_night_170 k114 n2 x1 (iN C) (iN rf) x4 (iN s) (iN c) (bI two) 0 (iN (i + 1)) σ q226 N) = k114 x1 (iN C) (iN rf) (x4 + 1) σ B' N ∧ chR A0 B0 A' B' P := fun x hx => by
        rw [hml x hx, oB]
        exact next
      cases htwo : two with
      | false =>
        rw [htwo] at fin
        obtain ⟨q1, q2⟩ := h1 htwo
        rw [if_pos (show bI false = 0 from rfl)]
        exact fin (iN c) (by show iN c = iN (sh + (odN od fst)); rw [q1, q2]; cases fst <;> rfl)
      | true =>
        rw [htwo] at fin
        obtain ⟨q1, q2⟩ := h2 htwo
        rw [if_neg (show ¬ bI true = 0 by decide)]
        have hdiv : iN c / 2 = iN (c / 2) := iN_div (b := 2) (by omega) (by omega)
        cases fst with
        | true =>
          rw [if_neg (show ¬ bI true = 0 by decide), if_neg (show ¬ (2 : Int32) = 0 by decide), hdiv, iN_sub (by omega)]
          exact fin _ (by show iN (c - c / 2) = iN (sh + od); rw [q1])
        | false =>
          rw [if_pos (show bI false = 0 from rfl), if_neg (show ¬ (2 : Int32) = 0 by decide), hdiv]
          exact fin _ (by show iN (c / 2) = iN (sh + 0); rw [q2]; rfl)
/-- no guests, no charges -/
theorem l_charge0 {σ : gS} {B : gM} {N : gN} {P : Nat} {x1 x2 x3 x4 x6 x7 x8 : Int32} {k114 : Int32 → Int32 → Int32 → Int32 → gS → gM → gN → Option (Int32 × gM × gN)} (h10 : P ≤ 10) (b1 : B 40 1 = iN P) : ∀ k i n, i + k = P → k < n → l_X12_night_170 k114 n x1 x2 x3 x4 (iN 0) x6 x7 x8 (iN i) σ B N = k114 x1 x2 x3 (x4 + 1) σ B N := by
  refine up_ind (fun n => ?_) (fun i n hi ih => ?_)
  · rw [l_X12_night_170, b1, if_neg (by rw [iN_lt (by omega) (by omega)]; omega)]
  · have ei : iN i + 1 = iN (i + 1) := by rw [show (1 : Int32) = iN 1 from rfl, iN_add]
    rw [l_X12_night_170, b1, if_pos (by rw [iN_lt (by omega) (by omega)]; omega), if_pos (by rw [iN_bit0 (by omega) (by omega)]; exact Nat.zero_testBit i)]
    unfold b_X12_night_232
    rw [ei]
    exact ih
