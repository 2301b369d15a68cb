/-! stays, gone. -/
def cT (M : gM) (T C : Nat) (F : Nat → Nat) : Prop := T ≤ 6 ∧ C ≤ F T ∧ M 1 8 = iN T ∧ M 33 0 = iN C ∧ (∀ t, t ≤ T → F t ≤ 30) ∧ ∀ t, t < T → M (110 + t) 0 = iN t ∧ M (110 + t) 1 = iN (F (t + 1) - F t) ∧ M (110 + t) 2 = iN (F t) ∧ F t < F (t + 1)
theorem cT.of {Mc Mm : gM} {T C : Nat} {R F : Nat → Nat} (hT : vT (mg Mc Mm) T C R F) : cT Mc T C F := by
  have hF := hT.F
  obtain ⟨h0, hF0, hC2, t1, t2, t3, t4, k1, k2, g7, g8, g9, g10, g11⟩ := hT
  rw [mg_c (by omega)] at t1 k1
  refine ⟨h0, hC2, t1, k1, fun t ht => by have := hF t ht; omega, fun t ht => ?_⟩
  obtain ⟨a1, a2, a3, a4, a5⟩ := g7 t ht
  obtain ⟨b1, b2, b3, b4⟩ := g8 t ht
  rw [b4] at a2
  rw [b1] at a3
  rw [mg_c (by omega)] at a1 a2 a3
  exact ⟨a1, a2, a3, b2⟩
theorem mEq.mg {Mc Mm : gM} : mEq (mg Mc Mm) Mm := fun a k h1 h2 => (mg_m ⟨h1, h2⟩).symm
theorem cEq.mg {Mc Mm : gM} : cEq (mg Mc Mm) Mc := fun a k h => (mg_c h).symm
theorem guest_c2 {σ : gS} {M : gM} {T t p : Nat} (hs : lyT σ T) (ht : t < T) (hp : p < 10) : f_X10_roomOfGuest (110 + t) (iN p) σ M = some (M (130 + t) p) := by
  obtain ⟨c1, c2, c3, c4, c5, c6, c7⟩ := (hs.1 t ht).1
  unfold f_X10_roomOfGuest b_X10_roomOfGuest_0
  simp (disch := omega) only [li_0, li_1, li_2, li_3, li_4, li_5, li_6, li_7, li_8, li_9, li_10, li_11, li_12, li_13, li_14, li_15, li_16, li_18, li_19, li_20, li_24, li_28, li_29, li_30, li_31, li_32, li_36, li_40, li_41, li_42, li_43, li_45, li_48, li_49, li_50, li_56, li_57, li_59, li_60, li_61, li_62, li_63, li_64, li_97, li_99, li_100, li_120, li_121, li_122, li_255, li_270, li_300, li_400, li_500, li_540, li_1000, li_1024, li_1440, li_9999, li_11264, li_32768, li_268435456, li_1073741824, li_m, li_o, iN_add, iN_mul, iN_lt, iN_in, iN_cl, iN_inj, iM_ne, iM_ne', iN_or, iN_xor, iN_bd, sh31n, iN_shl2, iN_shr2, iN_bit2, Nat.one_mul, oB, iff_t, iff_f, if_true, if_false, g_up_ne, g_up_eq, g_z_ne, g_z_eq, is_of c2, c4, is_of c7, ln_of c7]
theorem list_c2 {σ : gS} {M : gM} {T t p s d r : Nat} {x : Int32} (hs : lyT σ T) (hT6 : T ≤ 6) (ht : t < T) (h1 : M (110 + t) 0 = iN t) (hp : p < 10) (hS : M 5 1 = iN s) (hs5 : s < 500) (hD : M 1 10 = iN d) (hd : d ≤ 1000) (hr : r ≤ 10) (hx : x + iN 1 = iN r) (hne : ¬ M (130 + t) p = x) : f_X11_list (110 + t) (iN p) x σ M = some (wrC M t p s x (iN (2048 * d + 256 * t + 16 * p + r))) := by
  have e := guest_c2 (M := M) hs ht hp
  obtain ⟨c1, c2, c3, c4, c5, c6, c7⟩ := (hs.1 t ht).1
  unfold f_X11_list b_X11_list_0
  rw [e]
  unfold f_X10_move b_X10_move_0 f_X4_add b_X4_add_0 wrC
  have e2 : iN (d * 2 ^ 11) ||| iN (t * 2 ^ 8) ||| iN (p * 2 ^ 4) ||| iN r = iN (2048 * d + 256 * t + 16 * p + r) := by
    rw [iN_or, iN_or, iN_or, note_pack (by omega) (by omega) (by omega)]
  simp (disch := omega) only [is_of c2, oB, hne, if_false, if_true]
  simp (disch := omega) only [li_0, li_10, li_500, li_1, iN_lt, if_true, iff_t, iff_f, iN_in, iN_cl, oB, c4, is_of c7, ln_of c7, g_up_ne, g_up_eq, hS, h1, hD, hx, iN_add]
  simp (disch := omega) only [li_11, li_8, li_4, li_31, sh31n, iN_shl2, e2, oB, hS, h1, hD, hx, iN_add, g_up_ne, iN_lt, iN_in, iN_cl, iff_t, if_true]
theorem list_c20 {σ : gS} {M : gM} {T t p : Nat} {x : Int32} (hs : lyT σ T) (ht : t < T) (hp : p < 10) (hne : M (130 + t) p = x) : f_X11_list (110 + t) (iN p) x σ M = some M := by
  have e := guest_c2 (M := M) hs ht hp
  obtain ⟨c1, c2, c3, c4, c5, c6, c7⟩ := (hs.1 t ht).1
  unfold f_X11_list b_X11_list_0
  rw [e]
  simp (disch := omega) only [is_of c2, oB, hne, if_true]
theorem must_c {σ : gS} {M : gM} {T C t p : Nat} {F : Nat → Nat} {x2 x3 : Int32} {out : Bool} (hs : lyT σ T) (hc : cT M T C F) (ht : t < T) (hp : p < 10) (hout : (iN t < x2 ∨ x3 < iN t) ↔ out = true) : f_X11_mustLeave (110 + t) (iN p) x2 x3 σ M = some (bI (out && !overB F C t && !decide (M (130 + t) p = iM))) := by
  obtain ⟨h0, h1, h2, h3, h4, h5⟩ := hc
  obtain ⟨a1, a2, a3, a4⟩ := h5 t ht
  have b1 := h4 T (Nat.le_refl _)
  have b2 := h4 (t + 1) (by omega)
  have c2 := (hs.1 t ht).1.2.1
  have e22 : ∀ o : Bool, b_X11_mustLeave_22 (110 + t) (iN p) (bI o) σ M = some (bI (o && !overB F C t && !decide (M (130 + t) p = iM))) := by
    intro o
    unfold b_X11_mustLeave_22 f_X11_isOver b_X11_isOver_0
    rw [guest_c2 hs ht hp]
    cases o with
    | false => rfl
    | true =>
      by_cases h : F (t + 1) ≤ C
      · simp (disch := omega) only [li_0, li_1, li_2, li_3, li_4, li_5, li_6, li_7, li_8, li_9, li_10, li_11, li_12, li_13, li_14, li_15, li_16, li_18, li_19, li_20, li_24, li_28, li_29, li_30, li_31, li_32, li_36, li_40, li_41, li_42, li_43, li_45, li_48, li_49, li_50, li_56, li_57, li_59, li_60, li_61, li_62, li_63, li_64, li_97, li_99, li_100, li_120, li_121, li_122, li_255, li_270, li_300, li_400, li_500, li_540, li_1000, li_1024, li_1440, li_9999, li_11264, li_32768, li_268435456, li_1073741824, li_m, li_o, iN_add, iN_mul, iN_lt, iN_in, iN_cl, iN_inj, iM_ne, iM_ne', iN_or, iN_xor, iN_bd, sh31n, iN_shl2, iN_shr2, iN_bit2, Nat.one_mul, oB, iff_t, iff_f, if_true, if_false, g_up_ne, g_up_eq, g_z_ne, g_z_eq, bI_t, is_of c2, h3, a2, a3, overB, decide_eq_true h]
        rfl
      · simp (disch := omega) only [li_0, li_1, li_2, li_3, li_4, li_5, li_6, li_7, li_8, li_9, li_10, li_11, li_12, li_13, li_14, li_15, li_16, li_18, li_19, li_20, li_24, li_28, li_29, li_30, li_31, li_32, li_36, li_40, li_41, li_42, li_43, li_45, li_48, li_49, li_50, li_56, li_57, li_59, li_60, li_61, li_62, li_63, li_64, li_97, li_99, li_100, li_120, li_121, li_122, li_255, li_270, li_300, li_400, li_500, li_540, li_1000, li_1024, li_1440, li_9999, li_11264, li_32768, li_268435456, li_1073741824, li_m, li_o, iN_add, iN_mul, iN_lt, iN_in, iN_cl, iN_inj, iM_ne, iM_ne', iN_or, iN_xor, iN_bd, sh31n, iN_shl2, iN_shr2, iN_bit2, Nat.one_mul, oB, iff_t, iff_f, if_true, if_false, g_up_ne, g_up_eq, g_z_ne, g_z_eq, bI_t, is_of c2, h3, a2, a3, overB, decide_eq_false h]
        by_cases hm : M (130 + t) p = iM
        · simp [hm, bI]
        · simp [hm, bI]
  unfold f_X11_mustLeave b_X11_mustLeave_0 b_X11_mustLeave_17
  simp only [is_of c2, if_true, a1]
  by_cases k1 : iN t < x2
  · rw [if_pos k1, hout.mp (Or.inl k1)]
    exact e22 true
  · by_cases k2 : x3 < iN t
    · rw [if_neg k1, if_pos k2, hout.mp (Or.inr k2)]
      exact e22 true
    · rw [if_neg k1, if_neg k2]
      have : out = false := by
        cases out
        · rfl
        · rcases hout.mpr rfl with g | g
          · exact absurd g k1
          · exact absurd g k2
      rw [this]
      exact e22 false
/-- how many below n -/
def cf (f : Nat → Bool) : Nat → Nat
  | 0 => 0
  | n + 1 => cf f n + if f n then 1 else 0
theorem cf_le (f : Nat → Bool) (n : Nat) : cf f n ≤ n := by
  induction n with
  | zero => exact Nat.le_refl _
  | succ n ih => rw [cf]; split <;> omega
theorem cf_mono (f : Nat → Bool) {m n : Nat} (h : m ≤ n) : cf f m ≤ cf f n := by
  induction n with
  | zero => rw [show m = 0 by omega]; exact Nat.le_refl _
  | succ n ih =>
    by_cases hm : m = n + 1
    · subst hm; exact Nat.le_refl _
    · have := ih (by omega)
      rw [cf]; omega
theorem cf_t {f : Nat → Bool} {n : Nat} (h : f n = true) : cf f (n + 1) = cf f n + 1 := by rw [cf, if_pos h]
theorem cf_f {f : Nat → Bool} {n : Nat} (h : f n = false) : cf f (n + 1) = cf f n := by rw [cf, if_neg (by rw [h]; exact Bool.false_ne_true)]; rfl
/-- which towns a person must leave: L tells its rooms -/
def chgB (out : Nat → Bool) (F : Nat → Nat) (C : Nat) (L : Nat → Int32) (t : Nat) : Bool := out t && !overB F C t && !decide (L t = iM)
theorem l_leaveC {σ : gS} {M : gM} {T C p s : Nat} {F : Nat → Nat} {x2 x3 : Int32} {out : Nat → Bool} {L : Nat → Int32} (hs : lyT σ T) (hc : cT M T C F) (hp : p < 10) (hS : M 5 1 = iN s) (hs5 : s ≤ 500) (hout : ∀ t, t < T → ((iN t < x2 ∨ x3 < iN t) ↔ out t = true)) (hL : ∀ t, t < T → M (130 + t) p = L t) : ∀ k i n, i + k = T → k < n →
    l_X11_leave_6 n (iN p) x2 x3 (iN (cf (chgB out F C L) i)) (iN i) σ M = if 500 < s + cf (chgB out F C L) T then some (iN 0, M) else l_X11_leave_58 g_FU (iN p) x2 x3 (iN 0) σ M := by
  have hT6 := hc.1
  refine up_ind (fun n => ?_) (fun i n hi ih => ?_)
  · have := cf_le (chgB out F C L) T
    rw [l_X11_leave_6]
    unfold f_X4_haveSpace b_X4_haveSpace_0
    by_cases h : 500 < s + cf (chgB out F C L) T
    · simp (disch := omega) only [li_0, li_1, li_2, li_3, li_4, li_5, li_6, li_7, li_8, li_9, li_10, li_11, li_12, li_13, li_14, li_15, li_16, li_18, li_19, li_20, li_24, li_28, li_29, li_30, li_31, li_32, li_36, li_40, li_41, li_42, li_43, li_45, li_48, li_49, li_50, li_56, li_57, li_59, li_60, li_61, li_62, li_63, li_64, li_97, li_99, li_100, li_120, li_121, li_122, li_255, li_270, li_300, li_400, li_500, li_540, li_1000, li_1024, li_1440, li_9999, li_11264, li_32768, li_268435456, li_1073741824, li_m, li_o, iN_add, iN_mul, iN_lt, iN_in, iN_cl, iN_inj, iM_ne, iM_ne', iN_or, iN_xor, iN_bd, sh31n, iN_shl2, iN_shr2, iN_bit2, Nat.one_mul, oB, iff_t, iff_f, if_true, if_false, g_up_ne, g_up_eq, g_z_ne, g_z_eq, hc.2.2.1, hS]
    · simp (disch := omega) only [li_0, li_1, li_2, li_3, li_4, li_5, li_6, li_7, li_8, li_9, li_10, li_11, li_12, li_13, li_14, li_15, li_16, li_18, li_19, li_20, li_24, li_28, li_29, li_30, li_31, li_32, li_36, li_40, li_41, li_42, li_43, li_45, li_48, li_49, li_50, li_56, li_57, li_59, li_60, li_61, li_62, li_63, li_64, li_97, li_99, li_100, li_120, li_121, li_122, li_255, li_270, li_300, li_400, li_500, li_540, li_1000, li_1024, li_1440, li_9999, li_11264, li_32768, li_268435456, li_1073741824, li_m, li_o, iN_add, iN_mul, iN_lt, iN_in, iN_cl, iN_inj, iM_ne, iM_ne', iN_or, iN_xor, iN_bd, sh31n, iN_shl2, iN_shr2, iN_bit2, Nat.one_mul, oB, iff_t, iff_f, if_true, if_false, g_up_ne, g_up_eq, g_z_ne, g_z_eq, hc.2.2.1, hS]
  · rw [l_X11_leave_6]
    unfold b_X11_leave_35
    simp (disch := omega) only [li_0, li_1, li_2, li_3, li_4, li_5, li_6, li_7, li_8, li_9, li_10, li_11, li_12, li_13, li_14, li_15, li_16, li_18, li_19, li_20, li_24, li_28, li_29, li_30, li_31, li_32, li_36, li_40, li_41, li_42, li_43, li_45, li_48, li_49, li_50, li_56, li_57, li_59, li_60, li_61, li_62, li_63, li_64, li_97, li_99, li_100, li_120, li_121, li_122, li_255, li_270, li_300, li_400, li_500, li_540, li_1000, li_1024, li_1440, li_9999, li_11264, li_32768, li_268435456, li_1073741824, li_m, li_o, iN_add, iN_mul, iN_lt, iN_in, iN_cl, iN_inj, iM_ne, iM_ne', iN_or, iN_xor, iN_bd, sh31n, iN_shl2, iN_shr2, iN_bit2, Nat.one_mul, oB, iff_t, iff_f, if_true, if_false, g_up_ne, g_up_eq, g_z_ne, g_z_eq, hc.2.2.1, (hs.1 i hi).1.1, must_c hs hc hi hp (hout i hi), hL i hi, bI_0]
    cases hch : chgB out F C L i with
    | false =>
      rw [cf_f hch] at ih
      rw [if_pos (show (out i && !overB F C i && !decide (L i = iM)) = false from hch)]
      exact ih
    | true =>
      rw [cf_t hch] at ih
      rw [if_neg (show ¬ (out i && !overB F C i && !decide (L i = iM)) = false from fun e => by have h2 : (out i && !overB F C i && !decide (L i = iM)) = true := hch; rw [e] at h2; cases h2)]
      exact ih
theorem l_leaveM {σ : gS} {M : gM} {T C p s : Nat} {R F : Nat → Nat} {y2 y3 : Int32} {out : Nat → Bool} {L : Nat → Int32} (hc : mT M T C R F) (hp : p < 10) (hS : M 40 26 = iN s) (hs5 : s ≤ 500) (hout : ∀ t, t < T → f_X12_in (iN t) y2 y3 = some (bI (!out t))) (hL : ∀ t, t < T → M 57 (10 * t + p) = L t) : ∀ k i n, i + k = T → k < n →
    l_X12_leaves_6 n (iN p) y2 y3 (iN (cf (chgB out F C L) i)) (iN i) σ M = if 500 < s + cf (chgB out F C L) T then some (iN 0, M) else l_X12_leaves_84 g_FU (iN p) y2 y3 (iN 0) σ M := by
  have hT6 := hc.1
  refine up_ind (fun n => ?_) (fun i n hi ih => ?_)
  · have := cf_le (chgB out F C L) T
    rw [l_X12_leaves_6]
    by_cases h : 500 < s + cf (chgB out F C L) T
    · simp (disch := omega) only [li_0, li_1, li_2, li_3, li_4, li_5, li_6, li_7, li_8, li_9, li_10, li_11, li_12, li_13, li_14, li_15, li_16, li_18, li_19, li_20, li_24, li_28, li_29, li_30, li_31, li_32, li_36, li_40, li_41, li_42, li_43, li_45, li_48, li_49, li_50, li_56, li_57, li_59, li_60, li_61, li_62, li_63, li_64, li_97, li_99, li_100, li_120, li_121, li_122, li_255, li_270, li_300, li_400, li_500, li_540, li_1000, li_1024, li_1440, li_9999, li_11264, li_32768, li_268435456, li_1073741824, li_m, li_o, iN_add, iN_mul, iN_lt, iN_in, iN_cl, iN_inj, iM_ne, iM_ne', iN_or, iN_xor, iN_bd, sh31n, iN_shl2, iN_shr2, iN_bit2, Nat.one_mul, oB, iff_t, iff_f, if_true, if_false, g_up_ne, g_up_eq, g_z_ne, g_z_eq, hc.2.2.2.1, hS]
    · simp (disch := omega) only [li_0, li_1, li_2, li_3, li_4, li_5, li_6, li_7, li_8, li_9, li_10, li_11, li_12, li_13, li_14, li_15, li_16, li_18, li_19, li_20, li_24, li_28, li_29, li_30, li_31, li_32, li_36, li_40, li_41, li_42, li_43, li_45, li_48, li_49, li_50, li_56, li_57, li_59, li_60, li_61, li_62, li_63, li_64, li_97, li_99, li_100, li_120, li_121, li_122, li_255, li_270, li_300, li_400, li_500, li_540, li_1000, li_1024, li_1440, li_9999, li_11264, li_32768, li_268435456, li_1073741824, li_m, li_o, iN_add, iN_mul, iN_lt, iN_in, iN_cl, iN_inj, iM_ne, iM_ne', iN_or, iN_xor, iN_bd, sh31n, iN_shl2, iN_shr2, iN_bit2, Nat.one_mul, oB, iff_t, iff_f, if_true, if_false, g_up_ne, g_up_eq, g_z_ne, g_z_eq, hc.2.2.2.1, hS]
  · rw [l_X12_leaves_6]
    unfold b_X12_leaves_56 b_X12_leaves_57
    have hov := mover (σ := σ) hc hi
    simp (disch := omega) only [li_0, li_1, li_2, li_3, li_4, li_5, li_6, li_7, li_8, li_9, li_10, li_11, li_12, li_13, li_14, li_15, li_16, li_18, li_19, li_20, li_24, li_28, li_29, li_30, li_31, li_32, li_36, li_40, li_41, li_42, li_43, li_45, li_48, li_49, li_50, li_56, li_57, li_59, li_60, li_61, li_62, li_63, li_64, li_97, li_99, li_100, li_120, li_121, li_122, li_255, li_270, li_300, li_400, li_500, li_540, li_1000, li_1024, li_1440, li_9999, li_11264, li_32768, li_268435456, li_1073741824, li_m, li_o, iN_add, iN_mul, iN_lt, iN_in, iN_cl, iN_inj, iM_ne, iM_ne', iN_or, iN_xor, iN_bd, sh31n, iN_shl2, iN_shr2, iN_bit2, Nat.one_mul, oB, iff_t, iff_f, if_true, if_false, g_up_ne, g_up_eq, g_z_ne, g_z_eq, hc.2.2.2.1, hov, hout i hi, hL i hi, bI_0]
    cases k1 : overB F C i with
    | true =>
      have hch : chgB out F C L i = false := by unfold chgB; rw [k1]; cases out i <;> rfl
      rw [cf_f hch] at ih
      simp only [Bool.true_eq_false, if_false]
      exact ih
    | false =>
      simp only [if_true]
      cases k2 : out i with
      | false =>
        have hch : chgB out F C L i = false := by unfold chgB; rw [k2]; rfl
        rw [cf_f hch] at ih
        simp only [Bool.not_false, Bool.true_eq_false, if_false]
        exact ih
      | true =>
        simp only [Bool.not_true, if_true]
        by_cases k3 : L i = iM
        · have hch : chgB out F C L i = false := by unfold chgB; rw [decide_eq_true k3]; cases out i <;> cases overB F C i <;> rfl
          rw [cf_f hch] at ih
          simp only [k3, if_true]
          exact ih
        · have hch : chgB out F C L i = true := by unfold chgB; rw [decide_eq_false k3, k1, k2]; rfl
          rw [cf_t hch] at ih
          simp only [k3, if_false]
          exact ih
/-- both sides leave, town by town -/
theorem l_leaveW {σ : gS} {P T C p : Nat} {R F : Nat → Nat} {x2 x3 y2 y3 : Int32} {out : Nat → Bool} {L : Nat → Int32} (hp : p < P) (hc : ∀ t, t < T → ((iN t < x2 ∨ x3 < iN t) ↔ out t = true)) (hm : ∀ t, t < T → f_X12_in (iN t) y2 y3 = some (bI (!out t))) : ∀ k i n, i + k = T → k < n → ∀ (Mc Mm : gM) (s : Nat), Iv σ (mg Mc Mm) P T C R F → Mc 5 1 = iN s → s + cf (chgB out F C L) T ≤ 500 + cf (chgB out F C L) i → (∀ t, i ≤ t → t < T → Mm 57 (10 * t + p) = L t) →
    ∃ Mc' Mm', l_X11_leave_58 n (iN p) x2 x3 (iN i) σ Mc = some (iN 1, Mc') ∧ l_X12_leaves_84 n (iN p) y2 y3 (iN i) σ Mm = some (iN 1, Mm') ∧ mEq Mc Mc' ∧ cEq Mm Mm' ∧ Iv σ (mg Mc' Mm') P T C R F ∧ ∀ a j, 41 ≤ a → a ≤ 49 → (mg Mc' Mm') a j = (mg Mc Mm) a j := by
  refine up_ind (fun n Mc Mm s h hS hle hL => ?_) (fun i n hi ih Mc Mm s h hS hle hL => ?_)
  · obtain ⟨hLy, hP, hT, hD, hN, hB, hK, hC, hX⟩ := h
    have c := cT.of hT
    have m := mT.of hLy hT mEq.mg
    have hT6 := hT.1
    refine ⟨Mc, Mm, ?_, ?_, fun _ _ _ _ => rfl, fun _ _ _ => rfl, ⟨hLy, hP, hT, hD, hN, hB, hK, hC, hX⟩, fun _ _ _ _ => rfl⟩
    · rw [l_X11_leave_58]
      simp (disch := omega) only [li_0, li_1, li_2, li_3, li_4, li_5, li_6, li_7, li_8, li_9, li_10, li_11, li_12, li_13, li_14, li_15, li_16, li_18, li_19, li_20, li_24, li_28, li_29, li_30, li_31, li_32, li_36, li_40, li_41, li_42, li_43, li_45, li_48, li_49, li_50, li_56, li_57, li_59, li_60, li_61, li_62, li_63, li_64, li_97, li_99, li_100, li_120, li_121, li_122, li_255, li_270, li_300, li_400, li_500, li_540, li_1000, li_1024, li_1440, li_9999, li_11264, li_32768, li_268435456, li_1073741824, li_m, li_o, iN_add, iN_mul, iN_lt, iN_in, iN_cl, iN_inj, iM_ne, iM_ne', iN_or, iN_xor, iN_bd, sh31n, iN_shl2, iN_shr2, iN_bit2, Nat.one_mul, oB, iff_t, iff_f, if_true, if_false, g_up_ne, g_up_eq, g_z_ne, g_z_eq, c.2.2.1]
    · rw [l_X12_leaves_84]
      simp (disch := omega) only [li_0, li_1, li_2, li_3, li_4, li_5, li_6, li_7, li_8, li_9, li_10, li_11, li_12, li_13, li_14, li_15, li_16, li_18, li_19, li_20, li_24, li_28, li_29, li_30, li_31, li_32, li_36, li_40, li_41, li_42, li_43, li_45, li_48, li_49, li_50, li_56, li_57, li_59, li_60, li_61, li_62, li_63, li_64, li_97, li_99, li_100, li_120, li_121, li_122, li_255, li_270, li_300, li_400, li_500, li_540, li_1000, li_1024, li_1440, li_9999, li_11264, li_32768, li_268435456, li_1073741824, li_m, li_o, iN_add, iN_mul, iN_lt, iN_in, iN_cl, iN_inj, iM_ne, iM_ne', iN_or, iN_xor, iN_bd, sh31n, iN_shl2, iN_shr2, iN_bit2, Nat.one_mul, oB, iff_t, iff_f, if_true, if_false, g_up_ne, g_up_eq, g_z_ne, g_z_eq, m.2.2.2.1]
  · have h0 := h
    obtain ⟨hLy, hP, hT, hD, hN, hB, hK, hC, hX⟩ := h
    have c := cT.of hT
    have m := mT.of hLy hT mEq.mg
    have hT6 := hT.1
    have hP10 := hP.1
    have hov := mover (σ := σ) m hi
    have v1 := (hT.2.2.2.2.2.2.2.2.2.1 i hi).2.2.2.2 p (by omega)
    rw [mg_c (by omega), mg_m (by omega), hL i (Nat.le_refl _) hi] at v1
    have hcf := cf_mono (chgB out F C L) (show i + 1 ≤ T by omega)
    rw [l_X11_leave_58, l_X12_leaves_84]
    unfold b_X11_leave_97 b_X12_leaves_120
    simp (disch := omega) only [li_0, li_1, li_2, li_3, li_4, li_5, li_6, li_7, li_8, li_9, li_10, li_11, li_12, li_13, li_14, li_15, li_16, li_18, li_19, li_20, li_24, li_28, li_29, li_30, li_31, li_32, li_36, li_40, li_41, li_42, li_43, li_45, li_48, li_49, li_50, li_56, li_57, li_59, li_60, li_61, li_62, li_63, li_64, li_97, li_99, li_100, li_120, li_121, li_122, li_255, li_270, li_300, li_400, li_500, li_540, li_1000, li_1024, li_1440, li_9999, li_11264, li_32768, li_268435456, li_1073741824, li_m, li_o, iN_add, iN_mul, iN_lt, iN_in, iN_cl, iN_inj, iM_ne, iM_ne', iN_or, iN_xor, iN_bd, sh31n, iN_shl2, iN_shr2, iN_bit2, Nat.one_mul, oB, iff_t, iff_f, if_true, if_false, g_up_ne, g_up_eq, g_z_ne, g_z_eq, c.2.2.1, (hLy.2.2.1.1 i hi).1.1, must_c hLy.2.2.1 c hi (show p < 10 by omega) (hc i hi), v1, bI_0, m.2.2.2.1, hov, hm i hi]
    cases hch : chgB out F C L i with
    | false =>
      have hch0 : (out i && !overB F C i && !decide (L i = iM)) = false := hch
      rw [if_pos hch0]
      have := ih Mc Mm s h0 hS (by rw [cf_f hch]; exact hle) (fun t h1 h2 => hL t (by omega) h2)
      cases k1 : overB F C i with
      | true =>
        simp only [Bool.true_eq_false, if_false]
        exact this
      | false =>
        simp only [if_true]
        cases k2 : out i with
        | false =>
          simp only [Bool.not_false, Bool.true_eq_false, if_false]
          exact this
        | true =>
          simp only [Bool.not_true, if_true]
          have k3 : L i = iM := by
            rw [k1, k2] at hch0
            have : decide (L i = iM) = true := by cases h : decide (L i = iM) <;> rw [h] at hch0 <;> simp_all
            exact of_decide_eq_true this
          rw [list_m0 (by omega) (by omega) (by rw [hL i (Nat.le_refl _) hi]; exact k3)]
          simp only [oB]
          exact this
    | true =>
      have hch0 : (out i && !overB F C i && !decide (L i = iM)) = true := hch
      rw [if_neg (by rw [hch0]; simp)]
      obtain ⟨k12, k3⟩ := (Bool.and_eq_true _ _).mp hch0
      obtain ⟨k2, k1⟩ := (Bool.and_eq_true _ _).mp k12
      have k1 : overB F C i = false := by cases h : overB F C i <;> rw [h] at k1 <;> simp_all
      have k3 : ¬ L i = iM := by
        intro e; rw [decide_eq_true e] at k3; cases k3
      simp only [k1, k2, if_true, Bool.not_true]
      rw [cf_t hch] at hcf
      obtain ⟨s', n1, n2, n3, n4⟩ := hN
      rw [mg_c (by omega), hS, iN_inj (by have := cf_le (chgB out F C L) i; omega) (by omega)] at n2
      subst n2
      rw [mg_m (by omega)] at n3
      obtain ⟨⟨d, hd, d1, d2⟩, hD2⟩ := hD
      rw [mg_c (by omega)] at d1
      rw [mg_m (by omega)] at d2
      have hs5 : s < 500 := by omega
      rw [list_c2 (r := 0) hLy.2.2.1 hT6 hi (c.2.2.2.2.2 i hi).1 (by omega) hS hs5 d1 hd (by omega) (by rfl) (by rw [v1]; exact k3), list_m (by omega) (by omega) n3 hs5 d2 (by rw [hL i (Nat.le_refl _) hi]; exact k3)]
      simp only [oB]
      have hwr : Iv σ (mg (wrC Mc i p s iM (iN (2048 * d + 256 * i + 16 * p + 0))) (wrM Mm i p s iM (iN d))) P T C R F := by
        refine iv_wr (s := s) (d := d) (r := 0) h0 hp hi (Or.inl rfl) (by rw [mg_c (by omega)]; exact hS) hs5 hd (by omega) rfl ?_ ?_ ?_ ?_ ?_ ?_ ?_ ?_ ?_
        · rw [mg_c (by omega)]; unfold wrC; simp (disch := omega) only [li_0, li_1, li_2, li_3, li_4, li_5, li_6, li_7, li_8, li_9, li_10, li_11, li_12, li_13, li_14, li_15, li_16, li_18, li_19, li_20, li_24, li_28, li_29, li_30, li_31, li_32, li_36, li_40, li_41, li_42, li_43, li_45, li_48, li_49, li_50, li_56, li_57, li_59, li_60, li_61, li_62, li_63, li_64, li_97, li_99, li_100, li_120, li_121, li_122, li_255, li_270, li_300, li_400, li_500, li_540, li_1000, li_1024, li_1440, li_9999, li_11264, li_32768, li_268435456, li_1073741824, li_m, li_o, iN_add, iN_mul, iN_lt, iN_in, iN_cl, iN_inj, iM_ne, iM_ne', iN_or, iN_xor, iN_bd, sh31n, iN_shl2, iN_shr2, iN_bit2, Nat.one_mul, oB, iff_t, iff_f, if_true, if_false, g_up_ne, g_up_eq, g_z_ne, g_z_eq]
        · rw [mg_m (by omega)]; unfold wrM; simp (disch := omega) only [li_0, li_1, li_2, li_3, li_4, li_5, li_6, li_7, li_8, li_9, li_10, li_11, li_12, li_13, li_14, li_15, li_16, li_18, li_19, li_20, li_24, li_28, li_29, li_30, li_31, li_32, li_36, li_40, li_41, li_42, li_43, li_45, li_48, li_49, li_50, li_56, li_57, li_59, li_60, li_61, li_62, li_63, li_64, li_97, li_99, li_100, li_120, li_121, li_122, li_255, li_270, li_300, li_400, li_500, li_540, li_1000, li_1024, li_1440, li_9999, li_11264, li_32768, li_268435456, li_1073741824, li_m, li_o, iN_add, iN_mul, iN_lt, iN_in, iN_cl, iN_inj, iM_ne, iM_ne', iN_or, iN_xor, iN_bd, sh31n, iN_shl2, iN_shr2, iN_bit2, Nat.one_mul, oB, iff_t, iff_f, if_true, if_false, g_up_ne, g_up_eq, g_z_ne, g_z_eq]
        · rw [mg_c (by omega)]; unfold wrC; simp (disch := omega) only [li_0, li_1, li_2, li_3, li_4, li_5, li_6, li_7, li_8, li_9, li_10, li_11, li_12, li_13, li_14, li_15, li_16, li_18, li_19, li_20, li_24, li_28, li_29, li_30, li_31, li_32, li_36, li_40, li_41, li_42, li_43, li_45, li_48, li_49, li_50, li_56, li_57, li_59, li_60, li_61, li_62, li_63, li_64, li_97, li_99, li_100, li_120, li_121, li_122, li_255, li_270, li_300, li_400, li_500, li_540, li_1000, li_1024, li_1440, li_9999, li_11264, li_32768, li_268435456, li_1073741824, li_m, li_o, iN_add, iN_mul, iN_lt, iN_in, iN_cl, iN_inj, iM_ne, iM_ne', iN_or, iN_xor, iN_bd, sh31n, iN_shl2, iN_shr2, iN_bit2, Nat.one_mul, oB, iff_t, iff_f, if_true, if_false, g_up_ne, g_up_eq, g_z_ne, g_z_eq]
        · rw [mg_m (by omega)]; unfold wrM; simp (disch := omega) only [li_0, li_1, li_2, li_3, li_4, li_5, li_6, li_7, li_8, li_9, li_10, li_11, li_12, li_13, li_14, li_15, li_16, li_18, li_19, li_20, li_24, li_28, li_29, li_30, li_31, li_32, li_36, li_40, li_41, li_42, li_43, li_45, li_48, li_49, li_50, li_56, li_57, li_59, li_60, li_61, li_62, li_63, li_64, li_97, li_99, li_100, li_120, li_121, li_122, li_255, li_270, li_300, li_400, li_500, li_540, li_1000, li_1024, li_1440, li_9999, li_11264, li_32768, li_268435456, li_1073741824, li_m, li_o, iN_add, iN_mul, iN_lt, iN_in, iN_cl, iN_inj, iM_ne, iM_ne', iN_or, iN_xor, iN_bd, sh31n, iN_shl2, iN_shr2, iN_bit2, Nat.one_mul, oB, iff_t, iff_f, if_true, if_false, g_up_ne, g_up_eq, g_z_ne, g_z_eq]
        · rw [mg_m (by omega)]; unfold wrM; simp (disch := omega) only [li_0, li_1, li_2, li_3, li_4, li_5, li_6, li_7, li_8, li_9, li_10, li_11, li_12, li_13, li_14, li_15, li_16, li_18, li_19, li_20, li_24, li_28, li_29, li_30, li_31, li_32, li_36, li_40, li_41, li_42, li_43, li_45, li_48, li_49, li_50, li_56, li_57, li_59, li_60, li_61, li_62, li_63, li_64, li_97, li_99, li_100, li_120, li_121, li_122, li_255, li_270, li_300, li_400, li_500, li_540, li_1000, li_1024, li_1440, li_9999, li_11264, li_32768, li_268435456, li_1073741824, li_m, li_o, iN_add, iN_mul, iN_lt, iN_in, iN_cl, iN_inj, iM_ne, iM_ne', iN_or, iN_xor, iN_bd, sh31n, iN_shl2, iN_shr2, iN_bit2, Nat.one_mul, oB, iff_t, iff_f, if_true, if_false, g_up_ne, g_up_eq, g_z_ne, g_z_eq]
        · rw [mg_m (by omega)]; unfold wrM; simp (disch := omega) only [li_0, li_1, li_2, li_3, li_4, li_5, li_6, li_7, li_8, li_9, li_10, li_11, li_12, li_13, li_14, li_15, li_16, li_18, li_19, li_20, li_24, li_28, li_29, li_30, li_31, li_32, li_36, li_40, li_41, li_42, li_43, li_45, li_48, li_49, li_50, li_56, li_57, li_59, li_60, li_61, li_62, li_63, li_64, li_97, li_99, li_100, li_120, li_121, li_122, li_255, li_270, li_300, li_400, li_500, li_540, li_1000, li_1024, li_1440, li_9999, li_11264, li_32768, li_268435456, li_1073741824, li_m, li_o, iN_add, iN_mul, iN_lt, iN_in, iN_cl, iN_inj, iM_ne, iM_ne', iN_or, iN_xor, iN_bd, sh31n, iN_shl2, iN_shr2, iN_bit2, Nat.one_mul, oB, iff_t, iff_f, if_true, if_false, g_up_ne, g_up_eq, g_z_ne, g_z_eq]
        · rw [mg_c (by omega)]; unfold wrC; simp (disch := omega) only [li_0, li_1, li_2, li_3, li_4, li_5, li_6, li_7, li_8, li_9, li_10, li_11, li_12, li_13, li_14, li_15, li_16, li_18, li_19, li_20, li_24, li_28, li_29, li_30, li_31, li_32, li_36, li_40, li_41, li_42, li_43, li_45, li_48, li_49, li_50, li_56, li_57, li_59, li_60, li_61, li_62, li_63, li_64, li_97, li_99, li_100, li_120, li_121, li_122, li_255, li_270, li_300, li_400, li_500, li_540, li_1000, li_1024, li_1440, li_9999, li_11264, li_32768, li_268435456, li_1073741824, li_m, li_o, iN_add, iN_mul, iN_lt, iN_in, iN_cl, iN_inj, iM_ne, iM_ne', iN_or, iN_xor, iN_bd, sh31n, iN_shl2, iN_shr2, iN_bit2, Nat.one_mul, oB, iff_t, iff_f, if_true, if_false, g_up_ne, g_up_eq, g_z_ne, g_z_eq]
        · rw [mg_m (by omega)]; unfold wrM; simp (disch := omega) only [li_0, li_1, li_2, li_3, li_4, li_5, li_6, li_7, li_8, li_9, li_10, li_11, li_12, li_13, li_14, li_15, li_16, li_18, li_19, li_20, li_24, li_28, li_29, li_30, li_31, li_32, li_36, li_40, li_41, li_42, li_43, li_45, li_48, li_49, li_50, li_56, li_57, li_59, li_60, li_61, li_62, li_63, li_64, li_97, li_99, li_100, li_120, li_121, li_122, li_255, li_270, li_300, li_400, li_500, li_540, li_1000, li_1024, li_1440, li_9999, li_11264, li_32768, li_268435456, li_1073741824, li_m, li_o, iN_add, iN_mul, iN_lt, iN_in, iN_cl, iN_inj, iM_ne, iM_ne', iN_or, iN_xor, iN_bd, sh31n, iN_shl2, iN_shr2, iN_bit2, Nat.one_mul, oB, iff_t, iff_f, if_true, if_false, g_up_ne, g_up_eq, g_z_ne, g_z_eq]
        · intro a j q1 q2 q3 q4 q5 q6
          unfold mg
          split
          · unfold wrM; simp (disch := omega) only [li_0, li_1, li_2, li_3, li_4, li_5, li_6, li_7, li_8, li_9, li_10, li_11, li_12, li_13, li_14, li_15, li_16, li_18, li_19, li_20, li_24, li_28, li_29, li_30, li_31, li_32, li_36, li_40, li_41, li_42, li_43, li_45, li_48, li_49, li_50, li_56, li_57, li_59, li_60, li_61, li_62, li_63, li_64, li_97, li_99, li_100, li_120, li_121, li_122, li_255, li_270, li_300, li_400, li_500, li_540, li_1000, li_1024, li_1440, li_9999, li_11264, li_32768, li_268435456, li_1073741824, li_m, li_o, iN_add, iN_mul, iN_lt, iN_in, iN_cl, iN_inj, iM_ne, iM_ne', iN_or, iN_xor, iN_bd, sh31n, iN_shl2, iN_shr2, iN_bit2, Nat.one_mul, oB, iff_t, iff_f, if_true, if_false, g_up_ne, g_up_eq, g_z_ne, g_z_eq]
          · unfold wrC; simp (disch := omega) only [li_0, li_1, li_2, li_3, li_4, li_5, li_6, li_7, li_8, li_9, li_10, li_11, li_12, li_13, li_14, li_15, li_16, li_18, li_19, li_20, li_24, li_28, li_29, li_30, li_31, li_32, li_36, li_40, li_41, li_42, li_43, li_45, li_48, li_49, li_50, li_56, li_57, li_59, li_60, li_61, li_62, li_63, li_64, li_97, li_99, li_100, li_120, li_121, li_122, li_255, li_270, li_300, li_400, li_500, li_540, li_1000, li_1024, li_1440, li_9999, li_11264, li_32768, li_268435456, li_1073741824, li_m, li_o, iN_add, iN_mul, iN_lt, iN_in, iN_cl, iN_inj, iM_ne, iM_ne', iN_or, iN_xor, iN_bd, sh31n, iN_shl2, iN_shr2, iN_bit2, Nat.one_mul, oB, iff_t, iff_f, if_true, if_false, g_up_ne, g_up_eq, g_z_ne, g_z_eq]
      obtain ⟨Mc', Mm', r1, r2, r3, r4, r5, r6⟩ := ih _ _ (s + 1) hwr (by unfold wrC; simp (disch := omega) only [li_0, li_1, li_2, li_3, li_4, li_5, li_6, li_7, li_8, li_9, li_10, li_11, li_12, li_13, li_14, li_15, li_16, li_18, li_19, li_20, li_24, li_28, li_29, li_30, li_31, li_32, li_36, li_40, li_41, li_42, li_43, li_45, li_48, li_49, li_50, li_56, li_57, li_59, li_60, li_61, li_62, li_63, li_64, li_97, li_99, li_100, li_120, li_121, li_122, li_255, li_270, li_300, li_400, li_500, li_540, li_1000, li_1024, li_1440, li_9999, li_11264, li_32768, li_268435456, li_1073741824, li_m, li_o, iN_add, iN_mul, iN_lt, iN_in, iN_cl, iN_inj, iM_ne, iM_ne', iN_or, iN_xor, iN_bd, sh31n, iN_shl2, iN_shr2, iN_bit2, Nat.one_mul, oB, iff_t, iff_f, if_true, if_false, g_up_ne, g_up_eq, g_z_ne, g_z_eq]) (by rw [cf_t hch]; omega) (fun t h1 h2 => by
        have := hL t (by omega) h2
        unfold wrM; simp (disch := omega) only [li_0, li_1, li_2, li_3, li_4, li_5, li_6, li_7, li_8, li_9, li_10, li_11, li_12, li_13, li_14, li_15, li_16, li_18, li_19, li_20, li_24, li_28, li_29, li_30, li_31, li_32, li_36, li_40, li_41, li_42, li_43, li_45, li_48, li_49, li_50, li_56, li_57, li_59, li_60, li_61, li_62, li_63, li_64, li_97, li_99, li_100, li_120, li_121, li_122, li_255, li_270, li_300, li_400, li_500, li_540, li_1000, li_1024, li_1440, li_9999, li_11264, li_32768, li_268435456, li_1073741824, li_m, li_o, iN_add, iN_mul, iN_lt, iN_in, iN_cl, iN_inj, iM_ne, iM_ne', iN_or, iN_xor, iN_bd, sh31n, iN_shl2, iN_shr2, iN_bit2, Nat.one_mul, oB, iff_t, iff_f, if_true, if_false, g_up_ne, g_up_eq, g_z_ne, g_z_eq]
        exact this)
      refine ⟨Mc', Mm', r1, r2, fun a k h1 h2 => ?_, fun a k h => ?_, r5, fun a j h1 h2 => ?_⟩
      · rw [r3 a k h1 h2]; unfold wrC; simp (disch := omega) only [li_0, li_1, li_2, li_3, li_4, li_5, li_6, li_7, li_8, li_9, li_10, li_11, li_12, li_13, li_14, li_15, li_16, li_18, li_19, li_20, li_24, li_28, li_29, li_30, li_31, li_32, li_36, li_40, li_41, li_42, li_43, li_45, li_48, li_49, li_50, li_56, li_57, li_59, li_60, li_61, li_62, li_63, li_64, li_97, li_99, li_100, li_120, li_121, li_122, li_255, li_270, li_300, li_400, li_500, li_540, li_1000, li_1024, li_1440, li_9999, li_11264, li_32768, li_268435456, li_1073741824, li_m, li_o, iN_add, iN_mul, iN_lt, iN_in, iN_cl, iN_inj, iM_ne, iM_ne', iN_or, iN_xor, iN_bd, sh31n, iN_shl2, iN_shr2, iN_bit2, Nat.one_mul, oB, iff_t, iff_f, if_true, if_false, g_up_ne, g_up_eq, g_z_ne, g_z_eq]
      · rw [r4 a k h]; unfold wrM; simp (disch := omega) only [li_0, li_1, li_2, li_3, li_4, li_5, li_6, li_7, li_8, li_9, li_10, li_11, li_12, li_13, li_14, li_15, li_16, li_18, li_19, li_20, li_24, li_28, li_29, li_30, li_31, li_32, li_36, li_40, li_41, li_42, li_43, li_45, li_48, li_49, li_50, li_56, li_57, li_59, li_60, li_61, li_62, li_63, li_64, li_97, li_99, li_100, li_120, li_121, li_122, li_255, li_270, li_300, li_400, li_500, li_540, li_1000, li_1024, li_1440, li_9999, li_11264, li_32768, li_268435456, li_1073741824, li_m, li_o, iN_add, iN_mul, iN_lt, iN_in, iN_cl, iN_inj, iM_ne, iM_ne', iN_or, iN_xor, iN_bd, sh31n, iN_shl2, iN_shr2, iN_bit2, Nat.one_mul, oB, iff_t, iff_f, if_true, if_false, g_up_ne, g_up_eq, g_z_ne, g_z_eq]
      · rw [r6 a j h1 h2, mg_m (by omega), mg_m (by omega)]; unfold wrM; simp (disch := omega) only [li_0, li_1, li_2, li_3, li_4, li_5, li_6, li_7, li_8, li_9, li_10, li_11, li_12, li_13, li_14, li_15, li_16, li_18, li_19, li_20, li_24, li_28, li_29, li_30, li_31, li_32, li_36, li_40, li_41, li_42, li_43, li_45, li_48, li_49, li_50, li_56, li_57, li_59, li_60, li_61, li_62, li_63, li_64, li_97, li_99, li_100, li_120, li_121, li_122, li_255, li_270, li_300, li_400, li_500, li_540, li_1000, li_1024, li_1440, li_9999, li_11264, li_32768, li_268435456, li_1073741824, li_m, li_o, iN_add, iN_mul, iN_lt, iN_in, iN_cl, iN_inj, iM_ne, iM_ne', iN_or, iN_xor, iN_bd, sh31n, iN_shl2, iN_shr2, iN_bit2, Nat.one_mul, oB, iff_t, iff_f, if_true, if_false, g_up_ne, g_up_eq, g_z_ne, g_z_eq]
theorem leave_lock {σ : gS} {M Mm : gM} {P T C p : Nat} {R F : Nat → Nat} {x2 x3 y2 y3 : Int32} {out : Nat → Bool} (h : Iv σ M P T C R F) (hg : mg M Mm = M) (hp : p < P) (hc : ∀ t, t < T → ((iN t < x2 ∨ x3 < iN t) ↔ out t = true)) (hm : ∀ t, t < T → f_X12_in (iN t) y2 y3 = some (bI (!out t))) :
    (f_X11_leave (iN p) x2 x3 σ M = some (iN 0, M) ∧ f_X12_leaves (iN p) y2 y3 σ Mm = some (iN 0, Mm)) ∨ ∃ Mc' Mm', f_X11_leave (iN p) x2 x3 σ M = some (iN 1, Mc') ∧ f_X12_leaves (iN p) y2 y3 σ Mm = some (iN 1, Mm') ∧ mEq M Mc' ∧ cEq Mm Mm' ∧ Iv σ (mg Mc' Mm') P T C R F ∧ ∀ a j, 41 ≤ a → a ≤ 49 → (mg Mc' Mm') a j = M a j := by
  have h0 := h
  obtain ⟨hLy, hP, hT, hD, hN, hB, hK, hC, hX⟩ := h
  have hT6 := hT.1
  have hP10 := hP.1
  have hme := mEq.of hg
  have c : cT M T C F := cT.of (Mm := M) (R := R) (by rw [mg_self]; exact hT)
  have m := mT.of hLy hT hme
  obtain ⟨s, n1, n2, n3, n4⟩ := hN
  have hl1 := l_leaveC (L := fun t => M 57 (10 * t + p)) hLy.2.2.1 c (show p < 10 by omega) n2 n1 hc (fun t ht => (hT.2.2.2.2.2.2.2.2.2.1 t ht).2.2.2.2 p (by omega)) T 0 g_FU (by omega) (by unfold g_FU; omega)
  have hl2 := l_leaveM (σ := σ) (L := fun t => M 57 (10 * t + p)) m (show p < 10 by omega) (show Mm 40 26 = iN s by rw [hme _ _ (by omega) (by omega)]; exact n3) n1 hm (fun t ht => hme _ _ (by omega) (by omega)) T 0 g_FU (by omega) (by unfold g_FU; omega)
  by_cases hh : 500 < s + cf (chgB out F C (fun t => M 57 (10 * t + p))) T
  · rw [if_pos hh] at hl1 hl2
    exact Or.inl ⟨hl1, hl2⟩
  · rw [if_neg hh] at hl1 hl2
    obtain ⟨Mc', Mm', r1, r2, r3, r4, r5, r6⟩ := l_leaveW (σ := σ) (R := R) (L := fun t => M 57 (10 * t + p)) hp hc hm T 0 g_FU (by omega) (by unfold g_FU; omega) M Mm s (by rw [hg]; exact h0) n2 (by rw [cf]; omega) (fun t _ _ => hme _ _ (by omega) (by omega))
    refine Or.inr ⟨Mc', Mm', hl1.trans r1, hl2.trans r2, r3, r4, r5, fun a j h1 h2 => ?_⟩
    rw [r6 a j h1 h2, hg]
