/-! Who may be in a room: both sides; put, right. -/
noncomputable def bP (p : Prop) : Bool := @decide p (Classical.propDecidable p)
theorem bP_t {p : Prop} (h : p) : bP p = true := @decide_eq_true p (Classical.propDecidable p) h
theorem bP_f {p : Prop} (h : ¬ p) : bP p = false := @decide_eq_false p (Classical.propDecidable p) h
theorem bP_iff {p q : Prop} (h : p ↔ q) : bP p = bP q := by rw [propext h]
/-- how many of a set are below n -/
def cnt (s : Nat) : Nat → Nat
  | 0 => 0
  | n + 1 => cnt s n + if s.testBit n then 1 else 0
theorem cnt_mono (s : Nat) {m n : Nat} (h : m ≤ n) : cnt s m ≤ cnt s n := by
  induction n with
  | zero => rw [show m = 0 by omega]; exact Nat.le_refl _
  | succ n ih =>
    by_cases hm : m = n + 1
    · subst hm; exact Nat.le_refl _
    · have := ih (by omega)
      rw [cnt]; omega
theorem cnt_t {s n : Nat} (h : s.testBit n = true) : cnt s (n + 1) = cnt s n + 1 := by rw [cnt, if_pos h]
theorem cnt_f {s n : Nat} (h : s.testBit n = false) : cnt s (n + 1) = cnt s n := by rw [cnt, if_neg (by rw [h]; exact Bool.false_ne_true)]; rfl
theorem cnt_pos {s p n : Nat} (hp : p < n) (h : s.testBit p = true) : 1 ≤ cnt s n := by
  have h1 := cnt_mono s (show p + 1 ≤ n by omega)
  rw [cnt_t h] at h1
  omega
theorem cnt_two {s p q n : Nat} (hpq : p < q) (hq : q < n) (h1 : s.testBit p = true) (h2 : s.testBit q = true) : 2 ≤ cnt s n := by
  have a1 := cnt_pos hpq h1
  have a2 := cnt_mono s (show q + 1 ≤ n by omega)
  rw [cnt_t h2] at a2
  omega
theorem cnt_le (s n : Nat) : cnt s n ≤ n := by
  induction n with
  | zero => exact Nat.le_refl _
  | succ n ih => rw [cnt]; split <;> omega
theorem cnt_zero {s n : Nat} (h : ∀ p, p < n → s.testBit p = false) : cnt s n = 0 := by
  induction n with
  | zero => rfl
  | succ n ih => rw [cnt_f (h n (by omega))]; exact ih (fun p hp => h p (by omega))
theorem cnt_ex {s n : Nat} (h : cnt s n ≠ 0) : ∃ p, p < n ∧ s.testBit p = true := by
  apply Classical.byContradiction
  intro hn
  exact h (cnt_zero (fun p hp => by
    cases hc : s.testBit p
    · rfl
    · exact absurd ⟨p, hp, hc⟩ hn))
theorem cnt_congr {s s' n : Nat} (h : ∀ p, p < n → s.testBit p = s'.testBit p) : cnt s n = cnt s' n := by
  induction n with
  | zero => rfl
  | succ n ih => rw [cnt, cnt, h n (by omega), ih (fun p hp => h p (by omega))]
theorem cnt_more {s n m : Nat} (hm : n ≤ m) (h : ∀ p, n ≤ p → p < m → s.testBit p = false) : cnt s m = cnt s n := by
  induction m with
  | zero => rw [show n = 0 by omega]
  | succ m ih =>
    by_cases hn : n = m + 1
    · subst hn; rfl
    · rw [cnt_f (h m (by omega) (by omega))]
      exact ih (by omega) (fun p h1 h2 => h p h1 (by omega))
theorem cnt_bd {s p n : Nat} (hp : p < n) (h : s.testBit p = true) : cnt s n = cnt (bd s (2 ^ p)) n + 1 := by
  induction n with
  | zero => omega
  | succ n ih =>
    by_cases hn : p = n
    · subst hn
      rw [cnt_t h, cnt_f (by rw [bd2_bit]; simp), cnt_congr (s := s) (s' := bd s (2 ^ p)) (fun q hq => by rw [bd2_bit, decide_eq_false (by omega)]; simp)]
    · have := ih (by omega)
      rw [cnt, cnt, this, bd2_bit, decide_eq_false hn]
      simp only [Bool.not_false, Bool.and_true]
      omega
theorem pc_fold (s : Nat) : ∀ n, (List.range n).foldl (fun n i => if s.testBit i then n + 1 else n) 0 = cnt s n := by
  intro n
  induction n with
  | zero => rfl
  | succ n ih =>
    rw [List.range_succ, List.foldl_append, ih, cnt]
    simp only [List.foldl_cons, List.foldl_nil]
    cases s.testBit n <;> rfl
theorem pc10_cnt (s : Nat) : pc10 s = cnt s 10 := pc_fold s 10
/-- one alone may be in a room -/
def okP (M : gM) (t r p : Nat) : Prop := ¬ M 56 (10 * t + r) = iN 0 ∧ (M 43 p = iN 0 ∨ ¬ M 54 (10 * t + r) = iN 0)
/-- a set may be in a room with so many beds -/
def mayP (M : gM) (P t r b s : Nat) : Prop := (∀ p, p < P → s.testBit p = true → okP M t r p) ∧ cnt s P ≤ b ∧ ∀ p q, p < q → q < P → s.testBit p = true → s.testBit q = true → shareB M p q = true
theorem l_mayBe {σ : gS} {M : gM} {P t r b s : Nat} (ht : t < 6) (hr : r < 10) (hs : s < 1024) (hP : M 40 1 = iN P) (h10 : P ≤ 10) (hb : M 53 (10 * t + r) = iN b) (hb1 : 1 ≤ b) (hb2 : b ≤ 2) : ∀ k i n, i + k = P → k < n → ∀ (o : Int32), (∀ p, p < i → s.testBit p = true → okP M t r p) → cnt s i ≤ b → (∀ p q, p < q → q < i → s.testBit p = true → s.testBit q = true → shareB M p q = true) → (cnt s i ≠ 0 → ∃ w, w < i ∧ o = iN w ∧ s.testBit w = true) →
    l_X12_mayBe_17 n (iN s) (iN (10 * t + r)) (iN (cnt s i)) o (iN i) σ M = some (bI (bP (mayP M P t r b s))) := by
  refine up_ind (fun n o h1 h2 h3 h4 => ?_) (fun i n hi ih o h1 h2 h3 h4 => ?_)
  · rw [l_X12_mayBe_17]
    simp (disch := omega) only [li_0, li_1, li_2, li_3, li_4, li_5, li_6, li_7, li_8, li_9, li_10, li_11, li_12, li_13, li_14, li_15, li_16, li_18, li_19, li_20, li_24, li_28, li_29, li_30, li_31, li_32, li_36, li_40, li_41, li_42, li_43, li_45, li_48, li_49, li_50, li_56, li_57, li_59, li_60, li_61, li_62, li_63, li_64, li_97, li_99, li_100, li_120, li_121, li_122, li_255, li_270, li_300, li_400, li_500, li_540, li_1000, li_1024, li_1440, li_9999, li_11264, li_32768, li_268435456, li_1073741824, li_m, li_o, iN_add, iN_mul, iN_lt, iN_in, iN_cl, iN_inj, iM_ne, iM_ne', iN_or, iN_xor, iN_bd, sh31n, iN_shl2, iN_shr2, iN_bit2, Nat.one_mul, oB, iff_t, iff_f, if_true, if_false, g_up_ne, g_up_eq, g_z_ne, g_z_eq, hP]
    rw [bP_t ⟨h1, h2, h3⟩]
    rfl
  · rw [l_X12_mayBe_17]
    unfold b_X12_mayBe_106 b_X12_mayBe_68 b_X12_mayBe_99 b_X12_mayBe_106
    simp (disch := omega) only [li_0, li_1, li_2, li_3, li_4, li_5, li_6, li_7, li_8, li_9, li_10, li_11, li_12, li_13, li_14, li_15, li_16, li_18, li_19, li_20, li_24, li_28, li_29, li_30, li_31, li_32, li_36, li_40, li_41, li_42, li_43, li_45, li_48, li_49, li_50, li_56, li_57, li_59, li_60, li_61, li_62, li_63, li_64, li_97, li_99, li_100, li_120, li_121, li_122, li_255, li_270, li_300, li_400, li_500, li_540, li_1000, li_1024, li_1440, li_9999, li_11264, li_32768, li_268435456, li_1073741824, li_m, li_o, iN_add, iN_mul, iN_lt, iN_in, iN_cl, iN_inj, iM_ne, iM_ne', iN_or, iN_xor, iN_bd, sh31n, iN_shl2, iN_shr2, iN_bit2, Nat.one_mul, oB, iff_t, iff_f, if_true, if_false, g_up_ne, g_up_eq, g_z_ne, g_z_eq, hP, bI_0]
    cases hbit : s.testBit i with
    | false =>
      have hne : ∀ q, q < i + 1 → s.testBit q = true → q < i := fun q h g => by
        rcases Nat.lt_or_ge q i with h2 | h2
        · exact h2
        · rw [show q = i by omega, hbit] at g; cases g
      have := ih o (fun p hp hq => h1 p (hne p hp hq) hq) (by rw [cnt_f hbit]; exact h2) (fun p q hpq hq g1 g2 => h3 p q hpq (hne q hq g2) g1 g2) (by rw [cnt_f hbit]; intro hc; obtain ⟨w, w1, w2⟩ := h4 hc; exact ⟨w, by omega, w2⟩)
      rw [cnt_f hbit] at this
      simp only [if_true]
      exact this
    | true =>
      simp only [Bool.true_eq_false, if_false]
      by_cases k1 : M 56 (10 * t + r) = iN 0
      · rw [bP_f (fun hm => (hm.1 i (by omega) hbit).1 k1)]
        simp only [k1, if_true]
        rfl
      · have key : okP M t r i → (if cnt s i = b then some (iN 0) else if cnt s i = 1 then (f_X12_mayShare o (iN i) σ M).bind fun q91 => if q91 = iN 0 then some (iN 0) else l_X12_mayBe_17 n (iN s) (iN (10 * t + r)) (iN (cnt s i + 1)) (iN i) (iN (i + 1)) σ M else l_X12_mayBe_17 n (iN s) (iN (10 * t + r)) (iN (cnt s i + 1)) (iN i) (iN (i + 1)) σ M) = some (bI (bP (mayP M P t r b s))) := by
          intro hok
          by_cases k2 : cnt s i = b
          · rw [if_pos k2, bP_f (fun hm => by
              have a1 := hm.2.1
              have a2 := cnt_mono s (show i + 1 ≤ P by omega)
              rw [cnt_t hbit] at a2
              omega)]
            rfl
          · rw [if_neg k2]
            have cont : (cnt s i = 1 → ∀ w, w < i → s.testBit w = true → shareB M w i = true) → l_X12_mayBe_17 n (iN s) (iN (10 * t + r)) (iN (cnt s i + 1)) (iN i) (iN (i + 1)) σ M = some (bI (bP (mayP M P t r b s))) := by
              intro hw
              have := ih (iN i) (fun p hp hq => by
                by_cases e : p = i
                · subst e; exact hok
                · exact h1 p (by omega) hq) (by rw [cnt_t hbit]; omega) (fun p q hpq hq g1 g2 => by
                by_cases e : q = i
                · subst e
                  have := cnt_pos hpq g1
                  exact hw (by omega) p hpq g1
                · exact h3 p q hpq (by omega) g1 g2) (fun _ => ⟨i, by omega, rfl, hbit⟩)
              rw [cnt_t hbit] at this
              exact this
            by_cases k3 : cnt s i = 1
            · rw [if_pos k3]
              obtain ⟨w, w1, rfl, w3⟩ := h4 (by omega)
              rw [share_m (by omega) (by omega)]
              simp only [oB, bI_0]
              cases hsh : shareB M w i with
              | false =>
                simp only [if_true]
                rw [bP_f (fun hm => by
                  have := hm.2.2 w i w1 (by omega) w3 hbit
                  rw [hsh] at this; cases this)]
                rfl
              | true =>
                simp only [Bool.true_eq_false, if_false]
                apply cont
                intro _ v v1 v2
                have : v = w := by
                  apply Classical.byContradiction
                  intro hne
                  have : 2 ≤ cnt s i := by
                    rcases Nat.lt_or_gt_of_ne hne with g | g
                    · exact cnt_two g w1 v2 w3
                    · exact cnt_two g v1 w3 v2
                  omega
                subst this; exact hsh
            · rw [if_neg k3]
              exact cont (fun hc => absurd hc k3)
        have hci := cnt_le s i
        simp only [k1, if_false]
        by_cases k4 : M 43 i = iN 0
        · have := key ⟨k1, Or.inl k4⟩
          simp only [k4, if_true]
          simp (disch := omega) only [li_0, li_1, li_2, li_3, li_4, li_5, li_6, li_7, li_8, li_9, li_10, li_11, li_12, li_13, li_14, li_15, li_16, li_18, li_19, li_20, li_24, li_28, li_29, li_30, li_31, li_32, li_36, li_40, li_41, li_42, li_43, li_45, li_48, li_49, li_50, li_56, li_57, li_59, li_60, li_61, li_62, li_63, li_64, li_97, li_99, li_100, li_120, li_121, li_122, li_255, li_270, li_300, li_400, li_500, li_540, li_1000, li_1024, li_1440, li_9999, li_11264, li_32768, li_268435456, li_1073741824, li_m, li_o, iN_add, iN_mul, iN_lt, iN_in, iN_cl, iN_inj, iM_ne, iM_ne', iN_or, iN_xor, iN_bd, sh31n, iN_shl2, iN_shr2, iN_bit2, Nat.one_mul, oB, iff_t, iff_f, if_true, if_false, g_up_ne, g_up_eq, g_z_ne, g_z_eq, hb]
          exact this
        · by_cases k5 : M 54 (10 * t + r) = iN 0
          · rw [bP_f (fun hm => by
              rcases (hm.1 i (by omega) hbit).2 with g | g
              · exact k4 g
              · exact g k5)]
            simp only [k4, k5, if_true, if_false]
            rfl
          · have := key ⟨k1, Or.inr k5⟩
            simp only [k4, k5, if_false]
            simp (disch := omega) only [li_0, li_1, li_2, li_3, li_4, li_5, li_6, li_7, li_8, li_9, li_10, li_11, li_12, li_13, li_14, li_15, li_16, li_18, li_19, li_20, li_24, li_28, li_29, li_30, li_31, li_32, li_36, li_40, li_41, li_42, li_43, li_45, li_48, li_49, li_50, li_56, li_57, li_59, li_60, li_61, li_62, li_63, li_64, li_97, li_99, li_100, li_120, li_121, li_122, li_255, li_270, li_300, li_400, li_500, li_540, li_1000, li_1024, li_1440, li_9999, li_11264, li_32768, li_268435456, li_1073741824, li_m, li_o, iN_add, iN_mul, iN_lt, iN_in, iN_cl, iN_inj, iM_ne, iM_ne', iN_or, iN_xor, iN_bd, sh31n, iN_shl2, iN_shr2, iN_bit2, Nat.one_mul, oB, iff_t, iff_f, if_true, if_false, g_up_ne, g_up_eq, g_z_ne, g_z_eq, hb]
            exact this
theorem mayBe_m {σ : gS} {M : gM} {P t r b s : Nat} (ht : t < 6) (hr : r < 10) (hs : s < 1024) (hP : M 40 1 = iN P) (h10 : P ≤ 10) (hb : M 53 (10 * t + r) = iN b) (hb1 : 1 ≤ b) (hb2 : b ≤ 2) : f_X12_mayBe (iN t) (iN r) (iN s) σ M = some (bI (bP (mayP M P t r b s))) := by
  unfold f_X12_mayBe b_X12_mayBe_0
  simp (disch := omega) only [li_0, li_1, li_2, li_3, li_4, li_5, li_6, li_7, li_8, li_9, li_10, li_11, li_12, li_13, li_14, li_15, li_16, li_18, li_19, li_20, li_24, li_28, li_29, li_30, li_31, li_32, li_36, li_40, li_41, li_42, li_43, li_45, li_48, li_49, li_50, li_56, li_57, li_59, li_60, li_61, li_62, li_63, li_64, li_97, li_99, li_100, li_120, li_121, li_122, li_255, li_270, li_300, li_400, li_500, li_540, li_1000, li_1024, li_1440, li_9999, li_11264, li_32768, li_268435456, li_1073741824, li_m, li_o, iN_add, iN_mul, iN_lt, iN_in, iN_cl, iN_inj, iM_ne, iM_ne', iN_or, iN_xor, iN_bd, sh31n, iN_shl2, iN_shr2, iN_bit2, Nat.one_mul, oB, iff_t, iff_f, if_true, if_false, g_up_ne, g_up_eq, g_z_ne, g_z_eq]
  exact l_mayBe ht hr hs hP h10 hb hb1 hb2 P 0 g_FU (by omega) (by unfold g_FU; omega) iM (fun p hp => by omega) (by rw [cnt]; omega) (fun p q _ hq => by omega) (fun h => absurd rfl h)
