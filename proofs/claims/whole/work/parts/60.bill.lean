/-! The hotel's bill: both sides. -/
/-- the first of the cheapest rooms of a set, of those below n -/
def chI (pr : Nat → Int32) (s : Nat) : Nat → Int32
  | 0 => iM
  | n + 1 => if s.testBit n then (if chI pr s n = iM then iN n else if pr n < pr (chI pr s n).toNatClampNeg then iN n else chI pr s n) else chI pr s n
theorem chI_of (pr : Nat → Int32) (s : Nat) : ∀ n, n ≤ 10 → (chI pr s n = iM ∧ ∀ r, r < n → s.testBit r = false) ∨ ∃ r, r < n ∧ chI pr s n = iN r ∧ s.testBit r = true := by
  intro n
  induction n with
  | zero => intro _; exact Or.inl ⟨rfl, fun r h => by omega⟩
  | succ n ih =>
    intro hn
    rw [chI]
    cases hb : s.testBit n with
    | true =>
      rw [if_pos rfl]
      rcases ih (by omega) with ⟨h1, h2⟩ | ⟨r, h1, h2, h3⟩
      · rw [if_pos h1]; exact Or.inr ⟨n, by omega, rfl, hb⟩
      · rw [if_neg (by rw [h2, iM_ne (by omega)]; exact not_false)]
        split
        · exact Or.inr ⟨n, by omega, rfl, hb⟩
        · exact Or.inr ⟨r, by omega, h2, h3⟩
    | false =>
      rw [if_neg Bool.false_ne_true]
      rcases ih (by omega) with ⟨h1, h2⟩ | ⟨r, h1, h2, h3⟩
      · refine Or.inl ⟨h1, fun r hr => ?_⟩
        by_cases e : r = n
        · subst e; exact hb
        · exact h2 r (by omega)
      · exact Or.inr ⟨r, by omega, h2, h3⟩
/-- the bill of a set of rooms, so many of the cheapest free -/
def billI (pr : Nat → Int32) (R : Nat) : Nat → Nat → Int32
  | 0, s => sumS pr s R
  | j + 1, s => if s = 0 then sumS pr s R else billI pr R j (bd s (2 ^ (chI pr s R).toNatClampNeg))
theorem l_cheapC {σ : gS} {M : gM} {P T C t s : Nat} {R F : Nat → Nat} (hL : Lay σ P T R) (hT : vT M T C R F) (ht : t < T) (hs : s < 1024) : ∀ k i n, i + k = R t → k < n → l_X10_cheapestOf_4 n (110 + t) (iN s) (chI (fun r => M 55 (10 * t + r)) s i) (iN i) σ M = some (chI (fun r => M 55 (10 * t + r)) s (R t)) := by
  have hT6 := hT.1
  have hR := (hL.2.2.2.1.1 t (by omega)).1
  obtain ⟨c1, c2, c3, c4, c5, c6, c7⟩ := (hL.2.2.1.1 t ht).1
  have e1 : M (110 + t) 6 = iN (R t) := (hT.2.2.2.2.2.2.2.2.2.1 t ht).2.2.2.1.trans (hT.2.2.2.2.2.2.2.2.2.2.2.1 t (by omega)).1
  refine up_ind (fun n => ?_) (fun i n hi ih => ?_)
  · rw [l_X10_cheapestOf_4]
    simp (disch := omega) only [li_0, li_1, li_2, li_3, li_4, li_5, li_6, li_7, li_8, li_9, li_10, li_11, li_12, li_13, li_14, li_15, li_16, li_18, li_19, li_20, li_24, li_28, li_29, li_30, li_31, li_32, li_36, li_40, li_41, li_42, li_43, li_45, li_48, li_49, li_50, li_56, li_57, li_59, li_60, li_61, li_62, li_63, li_64, li_97, li_99, li_100, li_120, li_121, li_122, li_255, li_270, li_300, li_400, li_500, li_540, li_1000, li_1024, li_1440, li_9999, li_11264, li_32768, li_268435456, li_1073741824, li_m, li_o, iN_add, iN_mul, iN_lt, iN_in, iN_cl, iN_inj, iM_ne, iM_ne', iN_or, iN_xor, iN_bd, sh31n, iN_shl2, iN_shr2, iN_bit2, Nat.one_mul, oB, iff_t, iff_f, if_true, if_false, g_up_ne, g_up_eq, g_z_ne, g_z_eq, is_of c2, e1]
  · have h2 := hL.2.2.2.1.2.1 t i (by omega) hi
    have h3 := (hT.2.2.2.2.2.2.2.2.2.2.2.2.1 t i (by omega) hi).2.2.1
    have ei : iN i + 1 = iN (i + 1) := by rw [show (1 : Int32) = iN 1 from rfl, iN_add]
    rw [l_X10_cheapestOf_4, if_pos (by rw [is_of c2]; trivial), e1, if_pos (by rw [iN_lt (by omega) (by omega)]; omega)]
    unfold b_X10_cheapestOf_25 b_X10_cheapestOf_58 b_X10_cheapestOf_60
    rw [ei]
    rw [chI] at ih
    cases hb : s.testBit i with
    | false =>
      rw [hb, if_neg Bool.false_ne_true] at ih
      rw [if_pos (by rw [iN_bit0 (by omega) (by omega)]; exact hb), if_pos rfl]
      exact ih
    | true =>
      rw [hb, if_pos rfl] at ih
      rw [if_neg (by rw [iN_bit0 (by omega) (by omega), hb]; simp), if_neg (show ¬ (1 : Int32) = 0 by decide)]
      rcases chI_of (fun r => M 55 (10 * t + r)) s i (by omega) with ⟨q1, q2⟩ | ⟨r, q1, q2, q3⟩
      · rw [if_pos q1] at ih
        rw [if_pos (show chI (fun r => M 55 (10 * t + r)) s i = -1 from q1)]
        exact ih
      · have h4 := hL.2.2.2.1.2.1 t r (by omega) (by omega)
        have h5 := (hT.2.2.2.2.2.2.2.2.2.2.2.2.1 t r (by omega) (by omega)).2.2.1
        have hne : ¬ (iN r : Int32) = iM := by rw [iM_ne (by omega)]; exact not_false
        rw [q2] at ih ⊢
        rw [if_neg hne, iN_cl (by omega)] at ih
        rw [if_neg (show ¬ (iN r : Int32) = -1 from hne), if_pos (show g_is σ (110 + t) 10 = true by rw [is_of c2]; trivial), c3, if_pos (show g_is σ (120 + t) 18 = true by rw [is_of c6]; trivial), ln_of c6, if_pos (show g_in (iN i) 10 = true by rw [iN_in (by omega)]; omega), iN_cl (by omega), h2.2, if_pos (show g_is σ (200 + 10 * t + i) 8 = true by rw [is_of h2.1]; trivial), if_pos (show g_in (iN r) 10 = true by rw [iN_in (by omega)]; omega), iN_cl (by omega), h4.2, if_pos (show g_is σ (200 + 10 * t + r) 8 = true by rw [is_of h4.1]; trivial), h3, h5]
        by_cases k1 : M 55 (10 * t + i) < M 55 (10 * t + r)
        · rw [if_pos k1] at ih ⊢
          exact ih
        · rw [if_neg k1] at ih ⊢
          exact ih
theorem bd_lt {a b n : Nat} (h : a < n) : bd a b < n := Nat.lt_of_le_of_lt (bd_le a b) h
theorem l_billC {σ : gS} {M : gM} {P T C t : Nat} {R F : Nat → Nat} (hL : Lay σ P T R) (hT : vT M T C R F) (ht : t < T) {fr : Nat} (hfr : fr ≤ 100) : ∀ k i n, i + k = fr → k < n → ∀ s, s < 1024 → (∀ r, R t ≤ r → s.testBit r = false) → l_X10_billBut_7 n (110 + t) (iN fr) (iN s) (iN i) σ M = some (billI (fun r => M 55 (10 * t + r)) (R t) (fr - i) s) := by
  have hT6 := hT.1
  have hR := (hL.2.2.2.1.1 t (by omega)).1
  have c2 := (hL.2.2.1.1 t ht).1.2.1
  refine up_ind (fun n s hs hb => ?_) (fun i n hi ih s hs hb => ?_)
  · rw [l_X10_billBut_7, if_neg (by rw [iN_lt (by omega) (by omega)]; omega), Nat.sub_self, sum_c hL hT ht hs]
    rfl
  · have ei : iN i + 1 = iN (i + 1) := by rw [show (1 : Int32) = iN 1 from rfl, iN_add]
    rw [l_X10_billBut_7, if_pos (by rw [iN_lt (by omega) (by omega)]; omega), show fr - i = (fr - (i + 1)) + 1 by omega, billI]
    by_cases hz : s = 0
    · rw [if_pos hz, if_pos (by rw [hz]; rfl), sum_c hL hT ht hs]
    · rw [if_neg hz, if_neg (show ¬ (iN s : Int32) = 0 by rw [show (0 : Int32) = iN 0 from rfl, iN_inj (by omega) (by omega)]; exact hz), if_pos (by rw [is_of c2]; trivial)]
      have hch : f_X10_cheapestOf (110 + t) (iN s) σ M = some (chI (fun r => M 55 (10 * t + r)) s (R t)) := by
        unfold f_X10_cheapestOf b_X10_cheapestOf_0
        exact l_cheapC hL hT ht hs (R t) 0 g_FU (by omega) (by unfold g_FU; omega)
      rw [hch, oB]
      rcases chI_of (fun r => M 55 (10 * t + r)) s (R t) (by omega) with ⟨q1, q2⟩ | ⟨r, q1, q2, q3⟩
      · exfalso
        apply hz
        apply Nat.eq_of_testBit_eq
        intro r
        rw [Nat.zero_testBit]
        by_cases hr : r < R t
        · exact q2 r hr
        · exact hb r (by omega)
      · rw [q2, show iN s &&& (((1 : Int32) <<< (iN r &&& 31)) ^^^ -1) = iN (bd s (2 ^ r)) by
          rw [show (1 : Int32) = iN 1 from rfl, iN_shl (by omega), Nat.one_mul]; exact iN_bd, ei, iN_cl (by omega)]
        exact ih (bd s (2 ^ r)) (bd_lt hs) (fun q hq => bd_f (hb q hq))
theorem usedS_hi {M : gM} {T C t : Nat} {R F : Nat → Nat} (hT : vT M T C R F) (ht : t < 6) (hR : R t ≤ 10) : ∀ r, R t ≤ r → (usedS M t 10).testBit r = false := fun r hr => by
  rw [usedS_bit, used_iff]
  by_cases h : r < 10
  · rw [usedF_hi hT ht hr h hR, Bool.and_false]
  · rw [decide_eq_false h, Bool.false_and]
theorem bill_c {σ : gS} {M : gM} {P T C t : Nat} {R F : Nat → Nat} (hL : Lay σ P T R) (hT : vT M T C R F) (ht : t < T) {fr : Nat} (hfr : fr ≤ 100) : f_X10_billBut (110 + t) (iN fr) σ M = some (billI (fun r => M 55 (10 * t + r)) (R t) fr (usedS M t 10)) := by
  have hT6 := hT.1
  have hR := (hL.2.2.2.1.1 t (by omega)).1
  unfold f_X10_billBut b_X10_billBut_0
  rw [if_pos (by rw [is_of (hL.2.2.1.1 t ht).1.2.1]; trivial), used_c hL hT ht, oB]
  exact l_billC hL hT ht hfr fr 0 g_FU (by omega) (by unfold g_FU; omega) _ (usedS_lt _ _ _) (usedS_hi hT (by omega) hR)
/-- the model's free rooms: those that aren't in s -/
def freeR (M : gM) (R s : Nat) : Prop := ∀ r, r < R → M 85 r = bI (!s.testBit r)
theorem l_freeM {σ : gS} {P T C t : Nat} {R F : Nat → Nat} {N : gN} {x2 x3 : Int32} {L : Nat → Int32} (h10 : P ≤ 10) (ht : t < 6) : ∀ k i n, i + k = R t → k < n → ∀ M : gM, mT M T C R F → M 40 1 = iN P → (∀ p, P ≤ p → p < 10 → M 57 (10 * t + p) = iM) → ∃ M', l_X12_billOf_12 n (iN t) x2 x3 (iN i) σ M N = l_X12_billOf_54 g_FU (iN t) x2 x3 (iN 0) σ M' N ∧ (∀ r, i ≤ r → r < R t → M' 85 r = bI (!usedF M t r)) ∧ ∀ a j, ¬ (a = 85 ∧ i ≤ j ∧ j < R t) → M' a j = M a j := by
  refine up_ind (fun n M hv hP hn => ?_) (fun i n hi ih M hv hP hn => ?_)
  · have hR := hv.2.2.2.2.2.2.2.2.2.2 t ht
    have e2 := (hv.2.2.2.2.2.2.2.2.1 t ht).1
    refine ⟨M, ?_, fun r h1 h2 => by omega, fun a j _ => rfl⟩
    rw [l_X12_billOf_12, if_pos (by rw [iN_in (by omega)]; omega), iN_cl (by omega), e2, if_neg (by rw [iN_lt (by omega) (by omega)]; omega)]
    rfl
  · have hR := hv.2.2.2.2.2.2.2.2.2.2 t ht
    have e2 := (hv.2.2.2.2.2.2.2.2.1 t ht).1
    have hlt := inR_lt (M 57) t (iN i)
    have ei : iN i + 1 = iN (i + 1) := by rw [show (1 : Int32) = iN 1 from rfl, iN_add]
    have step : ∀ b : Bool, b_X12_billOf_44 (fun x1 x2 x3 x4 σ M N => l_X12_billOf_12 n x1 x2 x3 x4 σ M N) (iN t) x2 x3 (iN i) (bI b) (iN i) σ M N = l_X12_billOf_12 n (iN t) x2 x3 (iN (i + 1)) σ (g_up M 85 i (bI b)) N := fun b => by
      unfold b_X12_billOf_44
      rw [if_pos (by rw [iN_in (by omega)]; omega), iN_cl (by omega), nar_bI, ei]
    have go : ∀ b : Bool, b = (!usedF M t i) → ∃ M', l_X12_billOf_12 n (iN t) x2 x3 (iN (i + 1)) σ (g_up M 85 i (bI b)) N = l_X12_billOf_54 g_FU (iN t) x2 x3 (iN 0) σ M' N ∧ (∀ r, i ≤ r → r < R t → M' 85 r = bI (!usedF M t r)) ∧ ∀ a j, ¬ (a = 85 ∧ i ≤ j ∧ j < R t) → M' a j = M a j := fun b hb => by
      obtain ⟨M', q1, q2, q3⟩ := ih (g_up M 85 i (bI b)) (hv.keep (fun a j h => g_up_ne _ _ (by omega))) (by rw [g_up_ne _ _ (by omega)]; exact hP) (fun p h1 h2 => by rw [g_up_ne _ _ (by omega)]; exact hn p h1 h2)
      have hu : usedF (g_up M 85 i (bI b)) t = usedF M t := usedF_eq (fun j => g_up_ne _ _ (by omega)) t
      rw [hu] at q2
      refine ⟨M', q1, fun r h1 h2 => ?_, fun a j h => by rw [q3 a j (by omega), g_up_ne _ _ (by omega)]⟩
      by_cases e : r = i
      · subst e; rw [q3 _ _ (by omega), g_up_eq _ _ ⟨rfl, rfl⟩, hb]
      · exact q2 r (by omega) h2
    rw [l_X12_billOf_12, if_pos (by rw [iN_in (by omega)]; omega), iN_cl (by omega), e2, if_pos (by rw [iN_lt (by omega) (by omega)]; omega), setIn_m ht hP h10 hn (fun e => by rw [iM_ne (by omega)] at e; exact e), oB]
    by_cases h : inR (M 57) t (iN i) = 0
    · rw [if_pos (by rw [h]; rfl)]
      have s1 := step true
      rw [show (bI true : Int32) = 1 from rfl] at s1
      rw [s1]
      exact go true (by unfold usedF; rw [decide_eq_true h]; rfl)
    · rw [if_neg (by rw [show (0 : Int32) = iN 0 from rfl, iN_inj (by omega) (by omega)]; exact h)]
      have s1 := step false
      rw [show (bI false : Int32) = 0 from rfl] at s1
      rw [s1]
      exact go false (by unfold usedF; rw [decide_eq_false h]; rfl)
theorem l_sumM {σ : gS} {M : gM} {T C t s : Nat} {R F : Nat → Nat} {N : gN} (hv : mT M T C R F) (ht : t < 6) (hf : freeR M (R t) s) : ∀ k i n, i + k = R t → k < n → l_X12_billOf_156 n (iN t) (sumS (fun r => M 55 (10 * t + r)) s i) (iN i) σ M N = some (sumS (fun r => M 55 (10 * t + r)) s (R t), M, N) := by
  have hR := hv.2.2.2.2.2.2.2.2.2.2 t ht
  have e2 := (hv.2.2.2.2.2.2.2.2.1 t ht).1
  refine up_ind (fun n => ?_) (fun i n hi ih => ?_)
  · rw [l_X12_billOf_156]
    simp (disch := omega) only [li_0, li_1, li_2, li_3, li_4, li_5, li_6, li_7, li_8, li_9, li_10, li_11, li_12, li_13, li_14, li_15, li_16, li_18, li_19, li_20, li_24, li_28, li_29, li_30, li_31, li_32, li_36, li_40, li_41, li_42, li_43, li_45, li_48, li_49, li_50, li_56, li_57, li_59, li_60, li_61, li_62, li_63, li_64, li_97, li_99, li_100, li_120, li_121, li_122, li_255, li_270, li_300, li_400, li_500, li_540, li_1000, li_1024, li_1440, li_9999, li_11264, li_32768, li_268435456, li_1073741824, li_m, li_o, iN_add, iN_mul, iN_lt, iN_in, iN_cl, iN_inj, iM_ne, iM_ne', iN_or, iN_xor, iN_bd, sh31n, iN_shl2, iN_shr2, iN_bit2, Nat.one_mul, oB, iff_t, iff_f, if_true, if_false, g_up_ne, g_up_eq, g_z_ne, g_z_eq, e2]
  · rw [l_X12_billOf_156]
    unfold b_X12_billOf_194
    simp (disch := omega) only [li_0, li_1, li_2, li_3, li_4, li_5, li_6, li_7, li_8, li_9, li_10, li_11, li_12, li_13, li_14, li_15, li_16, li_18, li_19, li_20, li_24, li_28, li_29, li_30, li_31, li_32, li_36, li_40, li_41, li_42, li_43, li_45, li_48, li_49, li_50, li_56, li_57, li_59, li_60, li_61, li_62, li_63, li_64, li_97, li_99, li_100, li_120, li_121, li_122, li_255, li_270, li_300, li_400, li_500, li_540, li_1000, li_1024, li_1440, li_9999, li_11264, li_32768, li_268435456, li_1073741824, li_m, li_o, iN_add, iN_mul, iN_lt, iN_in, iN_cl, iN_inj, iM_ne, iM_ne', iN_or, iN_xor, iN_bd, sh31n, iN_shl2, iN_shr2, iN_bit2, Nat.one_mul, oB, iff_t, iff_f, if_true, if_false, g_up_ne, g_up_eq, g_z_ne, g_z_eq, e2, hf i hi, bI_0, zI]
    cases h : s.testBit i with
    | false =>
      rw [sumS_f h] at ih
      simp only [Bool.not_false, Bool.true_eq_false, if_false]
      exact ih
    | true =>
      rw [sumS_t h] at ih
      simp only [Bool.not_true, if_true]
      exact ih
theorem l_cheapM {σ : gS} {M : gM} {T C t s : Nat} {R F : Nat → Nat} {N : gN} {x2 x3 x4 : Int32} {k54 : Int32 → Int32 → Int32 → Int32 → gS → gM → gN → Option (Int32 × gM × gN)} (hv : mT M T C R F) (ht : t < 6) (hf : freeR M (R t) s) : ∀ k i n, i + k = R t → k < n → l_X12_billOf_66 k54 n (iN t) x2 x3 x4 (chI (fun r => M 55 (10 * t + r)) s i) (iN i) σ M N = if chI (fun r => M 55 (10 * t + r)) s (R t) = iM then b_X12_billOf_153 (iN t) x3 σ M N else k54 (iN t) x2 x3 (x4 + 1) σ (g_up M 85 (chI (fun r => M 55 (10 * t + r)) s (R t)).toNatClampNeg (iN 1)) N := by
  have hR := hv.2.2.2.2.2.2.2.2.2.2 t ht
  have e2 := (hv.2.2.2.2.2.2.2.2.1 t ht).1
  refine up_ind (fun n => ?_) (fun i n hi ih => ?_)
  · rw [l_X12_billOf_66, if_pos (by rw [iN_in (by omega)]; omega), iN_cl (by omega), e2, if_neg (by rw [iN_lt (by omega) (by omega)]; omega)]
    rcases chI_of (fun r => M 55 (10 * t + r)) s (R t) (by omega) with ⟨q1, q2⟩ | ⟨r, q1, q2, q3⟩
    · rw [if_pos (show _ = (-1 : Int32) from q1), if_pos q1]
    · have hne : ¬ (iN r : Int32) = iM := by rw [iM_ne (by omega)]; exact not_false
      rw [q2, if_neg (show ¬ (iN r : Int32) = -1 from hne), if_neg hne, if_pos (by rw [iN_in (by omega)]; omega), show vp_nar .boolean 1 = iN 1 from nar_1]
  · have ei : iN i + 1 = iN (i + 1) := by rw [show (1 : Int32) = iN 1 from rfl, iN_add]
    rw [l_X12_billOf_66, if_pos (by rw [iN_in (by omega)]; omega), iN_cl (by omega), e2, if_pos (by rw [iN_lt (by omega) (by omega)]; omega), if_pos (show g_in (iN i) 10 = true by rw [iN_in (by omega)]; omega), iN_cl (by omega), hf i hi]
    unfold b_X12_billOf_120 b_X12_billOf_124
    rw [ei]
    rw [chI] at ih
    cases hb : s.testBit i with
    | false =>
      rw [hb, if_neg Bool.false_ne_true] at ih
      rw [if_neg (show ¬ bI (!false) = 0 by decide)]
      exact ih
    | true =>
      rw [hb, if_pos rfl] at ih
      rw [if_pos (show bI (!true) = 0 from rfl)]
      rcases chI_of (fun r => M 55 (10 * t + r)) s i (by omega) with ⟨q1, q2⟩ | ⟨r, q1, q2, q3⟩
      · rw [if_pos q1] at ih
        rw [if_pos (show chI (fun r => M 55 (10 * t + r)) s i = -1 from q1)]
        exact ih
      · have hne : ¬ (iN r : Int32) = iM := by rw [iM_ne (by omega)]; exact not_false
        have e10 : (10 : Int32) * iN t + iN r = iN (10 * t + r) := by rw [show (10 : Int32) = iN 10 from rfl, iN_mul, iN_add]
        have e10i : (10 : Int32) * iN t + iN i = iN (10 * t + i) := by rw [show (10 : Int32) = iN 10 from rfl, iN_mul, iN_add]
        rw [q2] at ih ⊢
        rw [if_neg hne, iN_cl (by omega)] at ih
        rw [if_neg (show ¬ (iN r : Int32) = -1 from hne), e10, e10i, if_pos (show g_in (iN (10 * t + i)) 60 = true by rw [iN_in (by omega)]; omega), if_pos (show g_in (iN (10 * t + r)) 60 = true by rw [iN_in (by omega)]; omega), iN_cl (by omega), iN_cl (by omega)]
        by_cases k1 : M 55 (10 * t + i) < M 55 (10 * t + r)
        · rw [if_pos k1] at ih ⊢
          exact ih
        · rw [if_neg k1] at ih ⊢
          exact ih
theorem l_billM {σ : gS} {T C t fr : Nat} {R F : Nat → Nat} {N : gN} {pr : Nat → Int32} (ht : t < 6) (hfr : fr ≤ 100) : ∀ k i n, i + k = fr → k < n → ∀ (M : gM) (s : Nat), mT M T C R F → (∀ r, M 55 (10 * t + r) = pr r) → freeR M (R t) s → (∀ r, R t ≤ r → s.testBit r = false) → ∃ M', l_X12_billOf_54 n (iN t) (iN fr) (iN 0) (iN i) σ M N = some (billI pr (R t) (fr - i) s, M', N) ∧ ∀ a j, a ≠ 85 → M' a j = M a j := by
  refine up_ind (fun n M s hv hpr hf hb => ?_) (fun i n hi ih M s hv hpr hf hb => ?_)
  · have hR := hv.2.2.2.2.2.2.2.2.2.2 t ht
    have he : (fun r => M 55 (10 * t + r)) = pr := funext hpr
    refine ⟨M, ?_, fun _ _ _ => rfl⟩
    rw [l_X12_billOf_54, if_neg (by rw [iN_lt (by omega) (by omega)]; omega), Nat.sub_self]
    unfold b_X12_billOf_153
    have := l_sumM (σ := σ) (N := N) hv ht hf (R t) 0 g_FU (by omega) (by unfold g_FU; omega)
    rw [he] at this
    exact this
  · have hR := hv.2.2.2.2.2.2.2.2.2.2 t ht
    have he : (fun r => M 55 (10 * t + r)) = pr := funext hpr
    have ei : iN i + 1 = iN (i + 1) := by rw [show (1 : Int32) = iN 1 from rfl, iN_add]
    have hsum := l_sumM (σ := σ) (N := N) hv ht hf (R t) 0 g_FU (by omega) (by unfold g_FU; omega)
    have hch := l_cheapM (σ := σ) (N := N) (x2 := iN fr) (x3 := iN 0) (x4 := iN i) (k54 := fun x1 x2 x3 x4 σ M N => l_X12_billOf_54 n x1 x2 x3 x4 σ M N) hv ht hf (R t) 0 g_FU (by omega) (by unfold g_FU; omega)
    rw [he] at hsum hch
    rw [l_X12_billOf_54, if_pos (by rw [iN_lt (by omega) (by omega)]; omega), show fr - i = (fr - (i + 1)) + 1 by omega, billI]
    rw [show l_X12_billOf_66 (fun x1 x2 x3 x4 σ M N => l_X12_billOf_54 n x1 x2 x3 x4 σ M N) g_FU (iN t) (iN fr) (iN 0) (iN i) (-1) 0 σ M N = _ from hch]
    rcases chI_of pr s (R t) (by omega) with ⟨q1, q2⟩ | ⟨r, q1, q2, q3⟩
    · have hz : s = 0 := by
        apply Nat.eq_of_testBit_eq
        intro r
        rw [Nat.zero_testBit]
        by_cases hr : r < R t
        · exact q2 r hr
        · exact hb r (by omega)
      rw [if_pos q1, if_pos hz]
      exact ⟨M, hsum, fun _ _ _ => rfl⟩
    · have hz : ¬ s = 0 := by
        intro e; rw [e, Nat.zero_testBit] at q3; cases q3
      rw [if_neg (by rw [q2, iM_ne (by omega)]; exact not_false), if_neg hz, q2, iN_cl (by omega), ei]
      obtain ⟨M', w1, w2⟩ := ih (g_up M 85 r (iN 1)) (bd s (2 ^ r)) (hv.keep (fun a j h => g_up_ne _ _ (by omega))) (fun q => by rw [g_up_ne _ _ (by omega)]; exact hpr q) (fun q hq => by
        by_cases e : q = r
        · subst e; rw [g_up_eq _ _ ⟨rfl, rfl⟩, bd2_bit, decide_eq_true rfl]
          cases s.testBit q <;> rfl
        · rw [g_up_ne _ _ (by omega), hf q hq, bd2_bit, decide_eq_false (fun e2 => e e2.symm)]
          cases s.testBit q <;> rfl) (fun q hq => bd_f (hb q hq))
      exact ⟨M', w1, fun a j h => by rw [w2 a j h, g_up_ne _ _ (by omega)]⟩
