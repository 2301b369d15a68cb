/-! A change on a list keeps the invariant; the two sides in step. -/
def Iv (σ : gS) (M : gM) (P T C : Nat) (R F : Nat → Nat) : Prop := Lay σ P T R ∧ vP M P ∧ vT M T C R F ∧ vD M ∧ vN M ∧ vB M C ∧ vK M ∧ vC M ∧ vX σ M T
theorem iv_wr {σ : gS} {M M' : gM} {P T C t p s d r : Nat} {R F : Nat → Nat} {x : Int32} (h : Iv σ M P T C R F) (hp : p < P) (ht : t < T) (hx : oN x (R t)) (hs : M 5 1 = iN s) (hs5 : s < 500) (hd : d ≤ 1000) (hr : r ≤ 10) (hx1 : x = iN r - iN 1)
    (c1 : M' (130 + t) p = x) (c2 : M' 57 (10 * t + p) = x) (c3 : M' 6 s = iN (2048 * d + 256 * t + 16 * p + r)) (c4 : M' 58 s = iN d) (c5 : M' 59 s = iN (10 * t + p)) (c6 : M' 60 s = x) (c7 : M' 5 1 = iN (s + 1)) (c8 : M' 40 26 = iN (s + 1))
    (fr : ∀ a j, ¬ (a = 130 + t ∧ j = p) → ¬ (a = 57 ∧ j = 10 * t + p) → ¬ (a = 6 ∧ j = s) → ¬ (58 ≤ a ∧ a ≤ 60 ∧ j = s) → ¬ (a = 5 ∧ j = 1) → ¬ (a = 40 ∧ j = 26) → M' a j = M a j) : Iv σ M' P T C R F := by
  obtain ⟨hL, hP, hT, hD, hN, hB, hK, hC, hX⟩ := h
  have hT6 := hT.1
  have hRle : ∀ t, t < 6 → R t ≤ 10 := fun t ht => (hL.2.2.2.1.1 t ht).1
  refine ⟨hL, ?_, ?_, hD.keep (fun a j h => fr a j (by omega) (by omega) (by omega) (by omega) (by omega) (by omega)), ?_, hB.keep (fun a j h => fr a j (by omega) (by omega) (by omega) (by omega) (by omega) (by omega)), hK.keep (fun a j h => fr a j (by omega) (by omega) (by omega) (by omega) (by omega) (by omega)), hC.keep (fun a j h => fr a j (by omega) (by omega) (by omega) (by omega) (by omega) (by omega)), hX.keep hL.2.2.2.2.1 hT.1 (fun a j h => fr a j (by omega) (by omega) (by omega) (by omega) (by omega) (by omega))⟩
  · obtain ⟨hP10, p1, p2, g3, g4, g5, g6, g7, g8⟩ := hP
    refine ⟨hP10, ?_, ?_, fun q hq => ?_, fun q hq => ?_, fun q hq => ?_, fun q hq => ?_, fun q hq hq2 => ?_, fun a b ha hb => ?_⟩
    · simp (disch := omega) only [fr]; exact p1
    · simp (disch := omega) only [fr]; exact p2
    · have := g3 q hq
      unfold vP1 at *
      simp (disch := omega) only [fr]
      exact this
    · have := g4 q hq
      unfold vP2 at *
      simp (disch := omega) only [fr]
      exact this
    · have := g5 q hq
      unfold vP3 at *
      simp (disch := omega) only [fr]
      exact this
    · have := g6 q hq
      unfold vP4 at *
      simp (disch := omega) only [fr]
      exact this
    · obtain ⟨v1, v2, v3, v4, v5⟩ := g7 q hq hq2
      refine ⟨?_, ?_, ?_, ?_, fun u hu => ?_⟩
      · simp (disch := omega) only [fr]; exact v1
      · simp (disch := omega) only [fr]; exact v2
      · simp (disch := omega) only [fr]; exact v3
      · simp (disch := omega) only [fr]; exact v4
      · simp (disch := omega) only [fr]; exact v5 u hu
    · simp (disch := omega) only [fr]; exact g8 a b ha hb
  · obtain ⟨_, hF0, hC2, t1, t2, t3, t4, k1, k2, g7, g8, g9, g10, g11⟩ := hT
    have hP10 := hP.1
    refine ⟨hT6, hF0, hC2, ?_, ?_, ?_, ?_, ?_, ?_, fun u hu => ?_, fun u hu => ?_, fun u hu => ?_, fun u q hu hq => ?_, fun u q hu hq => ?_⟩
    · simp (disch := omega) only [fr]; exact t1
    · simp (disch := omega) only [fr]; exact t2
    · simp (disch := omega) only [fr]; exact t3
    · simp (disch := omega) only [fr]; exact t4
    · simp (disch := omega) only [fr]; exact k1
    · simp (disch := omega) only [fr]; exact k2
    · obtain ⟨v1, v2, v3, v4, v5⟩ := g7 u hu
      refine ⟨?_, ?_, ?_, ?_, fun q hq => ?_⟩
      · simp (disch := omega) only [fr]; exact v1
      · simp (disch := omega) only [fr]; exact v2
      · simp (disch := omega) only [fr]; exact v3
      · simp (disch := omega) only [fr]; exact v4
      · by_cases he : u = t ∧ q = p
        · obtain ⟨rfl, rfl⟩ := he
          rw [c1, c2]
        · simp (disch := omega) only [fr]; exact v5 q hq
    · have := g8 u hu
      unfold vT2 at *
      simp (disch := omega) only [fr]
      exact this
    · obtain ⟨v1, v2⟩ := g9 u hu
      refine ⟨?_, fun q hq => ?_⟩
      · simp (disch := omega) only [fr]; exact v1
      · by_cases he : u = t ∧ q = p
        · obtain ⟨rfl, rfl⟩ := he
          rw [c2]; exact hx
        · simp (disch := omega) only [fr]; exact v2 q hq
    · have := g10 u q hu hq
      have h9 := hRle u hu
      unfold vR1 at *
      simp (disch := omega) only [fr]
      exact this
    · have := g11 u q hu hq
      unfold vR2 at *
      simp (disch := omega) only [fr]
      exact this
  · obtain ⟨s', n1, n2, n3, n4⟩ := hN
    have hs' : s' = s := by
      rw [n2] at hs
      simp (disch := omega) only [li_0, li_1, li_2, li_3, li_4, li_5, li_6, li_7, li_8, li_9, li_10, li_11, li_12, li_13, li_14, li_15, li_16, li_18, li_19, li_20, li_24, li_28, li_29, li_30, li_31, li_32, li_36, li_40, li_41, li_42, li_43, li_45, li_48, li_49, li_50, li_56, li_57, li_59, li_60, li_61, li_62, li_63, li_64, li_97, li_99, li_100, li_120, li_121, li_122, li_255, li_270, li_300, li_400, li_500, li_540, li_1000, li_1024, li_1440, li_9999, li_11264, li_32768, li_268435456, li_1073741824, li_m, li_o, iN_add, iN_mul, iN_lt, iN_in, iN_cl, iN_inj, iM_ne, iM_ne', iN_or, iN_xor, iN_bd, sh31n, iN_shl2, iN_shr2, iN_bit2, Nat.one_mul] at hs
      exact hs
    subst hs'
    have hP10 := hP.1
    refine ⟨s' + 1, by omega, c7, c8, fun k hk => ?_⟩
    by_cases he : k = s'
    · subst he
      exact ⟨d, t, p, r, hd, by omega, by omega, hr, c3, c4, c5, by rw [c6]; exact hx1⟩
    · have := n4 k (by omega)
      unfold vN1 at *
      simp (disch := omega) only [fr]
      exact this
/-- class cells of A, model cells of B -/
def mg (A B : gM) : gM := fun a k => if 40 ≤ a ∧ a < 100 then B a k else A a k
theorem mg_c {A B : gM} {a k : Nat} (h : a < 40 ∨ 100 ≤ a) : mg A B a k = A a k := if_neg (by omega)
theorem mg_m {A B : gM} {a k : Nat} (h : 40 ≤ a ∧ a < 100) : mg A B a k = B a k := if_pos h
theorem mg_self {A : gM} : mg A A = A := by funext a k; unfold mg; split <;> rfl
theorem mg_eq {A B : gM} (h : ∀ a k, a < 40 ∨ 100 ≤ a → B a k = A a k) : mg A B = B := by
  funext a k
  unfold mg
  split
  · rfl
  · rw [h a k (by omega)]
theorem mg_eq' {A B M : gM} (h1 : ∀ a k, a < 40 ∨ 100 ≤ a → M a k = A a k) (h2 : ∀ a k, 40 ≤ a → a < 100 → M a k = B a k) : mg A B = M := by
  funext a k
  unfold mg
  split
  · next h => rw [h2 a k h.1 h.2]
  · rw [h1 a k (by omega)]
/-- the two sides in step: the class from M, the model from wherever the class came to -/
theorem lock {σ : gS} {M : gM} {α : Type} {fc fm : gM → Option (α × gM)} {Q : gM → Prop} (H : ∀ Mm, mg M Mm = M → ∃ r Mc' Mm', fc M = some (r, Mc') ∧ fm Mm = some (r, Mm') ∧ (∀ a k, 40 ≤ a → a < 100 → Mc' a k = M a k) ∧ (∀ a k, a < 40 ∨ 100 ≤ a → Mm' a k = Mm a k) ∧ Q (mg Mc' Mm')) : ∃ r M1 M2, fc M = some (r, M1) ∧ fm M1 = some (r, M2) ∧ Q M2 := by
  obtain ⟨r, M1, _, h1, _, h3, _, _⟩ := H M mg_self
  obtain ⟨r', M1', M2, g1, g2, _, g4, g5⟩ := H M1 (mg_eq' (fun a k _ => rfl) (fun a k h h' => (h3 a k h h').symm))
  rw [h1] at g1
  obtain ⟨rfl, rfl⟩ := Prod.mk.inj (Option.some.inj g1)
  refine ⟨r, M1, M2, h1, g2, ?_⟩
  rwa [mg_eq g4] at g5
/-! sharing -/
def shareB (M : gM) (a b : Nat) : Bool := decide (M 48 a = iN b) || (decide (M 48 a = iM) && decide (M 48 b = iM) && decide (M 49 (10 * a + b) = iN 0) && decide (¬ M 41 a = iN 0) && decide (¬ M 41 b = iN 0) && decide (M 42 a = M 42 b))
theorem share_m {σ : gS} {M : gM} {a b : Nat} (ha : a < 10) (hb : b < 10) : f_X12_mayShare (iN a) (iN b) σ M = some (bI (shareB M a b)) := by
  unfold f_X12_mayShare b_X12_mayShare_0 shareB
  have hm : ¬ iM = iN b := by rw [iM_ne' (by omega)]; exact not_false
  simp (disch := omega) only [li_0, li_1, li_2, li_3, li_4, li_5, li_6, li_7, li_8, li_9, li_10, li_11, li_12, li_13, li_14, li_15, li_16, li_18, li_19, li_20, li_24, li_28, li_29, li_30, li_31, li_32, li_36, li_40, li_41, li_42, li_43, li_45, li_48, li_49, li_50, li_56, li_57, li_59, li_60, li_61, li_62, li_63, li_64, li_97, li_99, li_100, li_120, li_121, li_122, li_255, li_270, li_300, li_400, li_500, li_540, li_1000, li_1024, li_1440, li_9999, li_11264, li_32768, li_268435456, li_1073741824, li_m, li_o, iN_add, iN_mul, iN_lt, iN_in, iN_cl, iN_inj, iM_ne, iM_ne', iN_or, iN_xor, iN_bd, sh31n, iN_shl2, iN_shr2, iN_bit2, Nat.one_mul, oB, iff_t, iff_f, if_true, if_false, g_up_ne, g_up_eq, g_z_ne, g_z_eq]
  by_cases h1 : M 48 a = iN b
  · simp [h1, bI, hm]
  by_cases h2 : M 41 a = iN 0
  · simp [h1, h2, bI, hm]
  by_cases h3 : M 41 b = iN 0
  · simp [h1, h2, h3, bI, hm]
  by_cases h4 : M 42 a = M 42 b
  · by_cases h5 : M 48 a = iM
    · by_cases h6 : M 48 b = iM
      · by_cases h7 : M 49 (10 * a + b) = iN 0
        · simp [h1, h2, h3, h4, h5, h6, h7, bI, hm]
        · simp [h1, h2, h3, h4, h5, h6, h7, bI, hm]
      · simp [h1, h2, h3, h4, h5, h6, bI, hm]
    · simp [h1, h2, h3, h4, h5, bI, hm]
  · simp [h1, h2, h3, h4, bI, hm]
theorem barred_c {σ : gS} {M : gM} {P a b w : Nat} (hs : lyP σ P) (ha : a < P) (hw : w < 1024) (hb : b < 10) (h : M (100 + a) 8 = iN w) : f_X6_isBarred (100 + a) (iN b) σ M = some (bI (w.testBit b)) := by
  unfold f_X6_isBarred b_X6_isBarred_0
  simp (disch := omega) only [li_0, li_1, li_2, li_3, li_4, li_5, li_6, li_7, li_8, li_9, li_10, li_11, li_12, li_13, li_14, li_15, li_16, li_18, li_19, li_20, li_24, li_28, li_29, li_30, li_31, li_32, li_36, li_40, li_41, li_42, li_43, li_45, li_48, li_49, li_50, li_56, li_57, li_59, li_60, li_61, li_62, li_63, li_64, li_97, li_99, li_100, li_120, li_121, li_122, li_255, li_270, li_300, li_400, li_500, li_540, li_1000, li_1024, li_1440, li_9999, li_11264, li_32768, li_268435456, li_1073741824, li_m, li_o, iN_add, iN_mul, iN_lt, iN_in, iN_cl, iN_inj, iM_ne, iM_ne', iN_or, iN_xor, iN_bd, sh31n, iN_shl2, iN_shr2, iN_bit2, Nat.one_mul, oB, iff_t, iff_f, if_true, if_false, g_up_ne, g_up_eq, g_z_ne, g_z_eq, is_of (hs.1 a ha).1, h]
  cases w.testBit b <;> rfl
theorem m69_c {σ : gS} {M : gM} {P a b : Nat} (hs : lyP σ P) (ha : a < P) (hb : b < P) (a0 : M (100 + a) 0 = M 41 a) (b0 : M (100 + b) 0 = M 41 b) (a1 : M (100 + a) 1 = M 42 a) (b1 : M (100 + b) 1 = M 42 b) : b_X5_mayShare_69 (100 + a) (100 + b) (iN 1) σ M = some (bI (decide (¬ M 41 a = iN 0) && decide (¬ M 41 b = iN 0) && decide (M 42 a = M 42 b))) := by
  unfold b_X5_mayShare_69
  simp (disch := omega) only [li_0, li_1, li_2, li_3, li_4, li_5, li_6, li_7, li_8, li_9, li_10, li_11, li_12, li_13, li_14, li_15, li_16, li_18, li_19, li_20, li_24, li_28, li_29, li_30, li_31, li_32, li_36, li_40, li_41, li_42, li_43, li_45, li_48, li_49, li_50, li_56, li_57, li_59, li_60, li_61, li_62, li_63, li_64, li_97, li_99, li_100, li_120, li_121, li_122, li_255, li_270, li_300, li_400, li_500, li_540, li_1000, li_1024, li_1440, li_9999, li_11264, li_32768, li_268435456, li_1073741824, li_m, li_o, iN_add, iN_mul, iN_lt, iN_in, iN_cl, iN_inj, iM_ne, iM_ne', iN_or, iN_xor, iN_bd, sh31n, iN_shl2, iN_shr2, iN_bit2, Nat.one_mul, oB, iff_t, iff_f, if_true, if_false, g_up_ne, g_up_eq, g_z_ne, g_z_eq, is_of (hs.1 a ha).1, is_of (hs.1 b hb).1, a0, a1, b0, b1]
  by_cases h2 : M 41 a = iN 0
  · simp [h2, bI]
  by_cases h3 : M 41 b = iN 0
  · simp [h2, h3, bI]
  by_cases h4 : M 42 a = M 42 b
  · simp [h2, h3, h4, bI]
  · simp [h2, h3, h4, bI]
theorem share_c {σ : gS} {M : gM} {P a b : Nat} (hs : lyP σ P) (hP : vP M P) (ha : a < P) (hb : b < P) (hab : a ≠ b) : f_X5_mayShare (iN a) (iN b) σ M = some (bI (shareB M a b)) := by
  obtain ⟨hP10, p1, p2, g3, g4, g5, g6, g7, g8⟩ := hP
  obtain ⟨a0, a1, a2, a3, a4, a5, a6, a7, a8⟩ := g3 a ha
  obtain ⟨b0, b1, b2, b3, b4, b5, b6, b7, b8⟩ := g3 b hb
  obtain ⟨⟨ba, la, ea8, na⟩, _⟩ := g5 a ha
  have hn := na b (by omega)
  have hm : ¬ iM = iN b := by rw [iM_ne' (by omega)]; exact not_false
  unfold f_X5_mayShare b_X5_mayShare_0
  rw [at_in hs p1 hP10 ha, at_in hs p1 hP10 hb]
  simp (disch := omega) only [li_0, li_1, li_2, li_3, li_4, li_5, li_6, li_7, li_8, li_9, li_10, li_11, li_12, li_13, li_14, li_15, li_16, li_18, li_19, li_20, li_24, li_28, li_29, li_30, li_31, li_32, li_36, li_40, li_41, li_42, li_43, li_45, li_48, li_49, li_50, li_56, li_57, li_59, li_60, li_61, li_62, li_63, li_64, li_97, li_99, li_100, li_120, li_121, li_122, li_255, li_270, li_300, li_400, li_500, li_540, li_1000, li_1024, li_1440, li_9999, li_11264, li_32768, li_268435456, li_1073741824, li_m, li_o, iN_add, iN_mul, iN_lt, iN_in, iN_cl, iN_inj, iM_ne, iM_ne', iN_or, iN_xor, iN_bd, sh31n, iN_shl2, iN_shr2, iN_bit2, Nat.one_mul, oB, iff_t, iff_f, if_true, if_false, g_up_ne, g_up_eq, g_z_ne, g_z_eq, is_of (hs.1 a ha).1, is_of (hs.1 b hb).1, a7, b7, barred_c hs ha la (show b < 10 by omega) ea8, m69_c hs ha hb a0 b0 a1 b1]
  unfold b_X5_mayShare_68 b_X5_mayShare_69 shareB
  rw [hn]
  by_cases h1 : M 48 a = iN b
  · simp [h1, bI]
  by_cases h5 : M 48 a = iM
  · by_cases h6 : M 48 b = iM
    · cases h7 : ba.testBit b
      · simp [h1, h5, h6, bI, hm]
      · simp [h1, h5, h6, bI, iN_inj, hm]
        rfl
    · simp [h1, h5, h6, bI, hm]
      rfl
  · simp [h1, h5, bI, hm]
    rfl
theorem share_sym {M : gM} {P a b : Nat} (hP : vP M P) (ha : a < P) (hb : b < P) : shareB M a b = shareB M b a := by
  obtain ⟨hP10, p1, p2, g3, g4, g5, g6, g7, g8⟩ := hP
  have e1 : (M 48 a = iN b) = (M 48 b = iN a) := by
    apply propext
    constructor
    · intro h
      rcases g6 a ha with q | ⟨q, q1, q2, q3, q4, q5⟩
      · rw [q] at h; exact absurd h (by simp (disch := omega) only [li_0, li_1, li_2, li_3, li_4, li_5, li_6, li_7, li_8, li_9, li_10, li_11, li_12, li_13, li_14, li_15, li_16, li_18, li_19, li_20, li_24, li_28, li_29, li_30, li_31, li_32, li_36, li_40, li_41, li_42, li_43, li_45, li_48, li_49, li_50, li_56, li_57, li_59, li_60, li_61, li_62, li_63, li_64, li_97, li_99, li_100, li_120, li_121, li_122, li_255, li_270, li_300, li_400, li_500, li_540, li_1000, li_1024, li_1440, li_9999, li_11264, li_32768, li_268435456, li_1073741824, li_m, li_o, iN_add, iN_mul, iN_lt, iN_in, iN_cl, iN_inj, iM_ne, iM_ne', iN_or, iN_xor, iN_bd, sh31n, iN_shl2, iN_shr2, iN_bit2, Nat.one_mul]; exact not_false)
      · rw [q3] at h; simp (disch := omega) only [li_0, li_1, li_2, li_3, li_4, li_5, li_6, li_7, li_8, li_9, li_10, li_11, li_12, li_13, li_14, li_15, li_16, li_18, li_19, li_20, li_24, li_28, li_29, li_30, li_31, li_32, li_36, li_40, li_41, li_42, li_43, li_45, li_48, li_49, li_50, li_56, li_57, li_59, li_60, li_61, li_62, li_63, li_64, li_97, li_99, li_100, li_120, li_121, li_122, li_255, li_270, li_300, li_400, li_500, li_540, li_1000, li_1024, li_1440, li_9999, li_11264, li_32768, li_268435456, li_1073741824, li_m, li_o, iN_add, iN_mul, iN_lt, iN_in, iN_cl, iN_inj, iM_ne, iM_ne', iN_or, iN_xor, iN_bd, sh31n, iN_shl2, iN_shr2, iN_bit2, Nat.one_mul] at h; subst h; exact q4
    · intro h
      rcases g6 b hb with q | ⟨q, q1, q2, q3, q4, q5⟩
      · rw [q] at h; exact absurd h (by simp (disch := omega) only [li_0, li_1, li_2, li_3, li_4, li_5, li_6, li_7, li_8, li_9, li_10, li_11, li_12, li_13, li_14, li_15, li_16, li_18, li_19, li_20, li_24, li_28, li_29, li_30, li_31, li_32, li_36, li_40, li_41, li_42, li_43, li_45, li_48, li_49, li_50, li_56, li_57, li_59, li_60, li_61, li_62, li_63, li_64, li_97, li_99, li_100, li_120, li_121, li_122, li_255, li_270, li_300, li_400, li_500, li_540, li_1000, li_1024, li_1440, li_9999, li_11264, li_32768, li_268435456, li_1073741824, li_m, li_o, iN_add, iN_mul, iN_lt, iN_in, iN_cl, iN_inj, iM_ne, iM_ne', iN_or, iN_xor, iN_bd, sh31n, iN_shl2, iN_shr2, iN_bit2, Nat.one_mul]; exact not_false)
      · rw [q3] at h; simp (disch := omega) only [li_0, li_1, li_2, li_3, li_4, li_5, li_6, li_7, li_8, li_9, li_10, li_11, li_12, li_13, li_14, li_15, li_16, li_18, li_19, li_20, li_24, li_28, li_29, li_30, li_31, li_32, li_36, li_40, li_41, li_42, li_43, li_45, li_48, li_49, li_50, li_56, li_57, li_59, li_60, li_61, li_62, li_63, li_64, li_97, li_99, li_100, li_120, li_121, li_122, li_255, li_270, li_300, li_400, li_500, li_540, li_1000, li_1024, li_1440, li_9999, li_11264, li_32768, li_268435456, li_1073741824, li_m, li_o, iN_add, iN_mul, iN_lt, iN_in, iN_cl, iN_inj, iM_ne, iM_ne', iN_or, iN_xor, iN_bd, sh31n, iN_shl2, iN_shr2, iN_bit2, Nat.one_mul] at h; subst h; exact q4
  have e2 := g8 a b (by omega) (by omega)
  have e3 : (M 42 a = M 42 b) = (M 42 b = M 42 a) := propext ⟨Eq.symm, Eq.symm⟩
  unfold shareB
  simp only [e1, e2, e3]
  congr 1
  cases decide (M 48 a = iM) <;> cases decide (M 48 b = iM) <;> cases decide (M 49 (10 * b + a) = iN 0) <;> cases decide (¬ M 41 a = iN 0) <;> cases decide (¬ M 41 b = iN 0) <;> rfl
