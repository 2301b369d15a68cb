/-! literals as small naturals; sets of bits; the first loops -/
theorem li_0 : (0 : Int32) = iN 0 := rfl
theorem li_1 : (1 : Int32) = iN 1 := rfl
theorem li_2 : (2 : Int32) = iN 2 := rfl
theorem li_3 : (3 : Int32) = iN 3 := rfl
theorem li_4 : (4 : Int32) = iN 4 := rfl
theorem li_5 : (5 : Int32) = iN 5 := rfl
theorem li_6 : (6 : Int32) = iN 6 := rfl
theorem li_7 : (7 : Int32) = iN 7 := rfl
theorem li_8 : (8 : Int32) = iN 8 := rfl
theorem li_9 : (9 : Int32) = iN 9 := rfl
theorem li_10 : (10 : Int32) = iN 10 := rfl
theorem li_11 : (11 : Int32) = iN 11 := rfl
theorem li_12 : (12 : Int32) = iN 12 := rfl
theorem li_13 : (13 : Int32) = iN 13 := rfl
theorem li_14 : (14 : Int32) = iN 14 := rfl
theorem li_15 : (15 : Int32) = iN 15 := rfl
theorem li_16 : (16 : Int32) = iN 16 := rfl
theorem li_18 : (18 : Int32) = iN 18 := rfl
theorem li_19 : (19 : Int32) = iN 19 := rfl
theorem li_20 : (20 : Int32) = iN 20 := rfl
theorem li_24 : (24 : Int32) = iN 24 := rfl
theorem li_28 : (28 : Int32) = iN 28 := rfl
theorem li_29 : (29 : Int32) = iN 29 := rfl
theorem li_30 : (30 : Int32) = iN 30 := rfl
theorem li_31 : (31 : Int32) = iN 31 := rfl
theorem li_32 : (32 : Int32) = iN 32 := rfl
theorem li_36 : (36 : Int32) = iN 36 := rfl
theorem li_40 : (40 : Int32) = iN 40 := rfl
theorem li_41 : (41 : Int32) = iN 41 := rfl
theorem li_42 : (42 : Int32) = iN 42 := rfl
theorem li_43 : (43 : Int32) = iN 43 := rfl
theorem li_45 : (45 : Int32) = iN 45 := rfl
theorem li_48 : (48 : Int32) = iN 48 := rfl
theorem li_49 : (49 : Int32) = iN 49 := rfl
theorem li_50 : (50 : Int32) = iN 50 := rfl
theorem li_56 : (56 : Int32) = iN 56 := rfl
theorem li_57 : (57 : Int32) = iN 57 := rfl
theorem li_59 : (59 : Int32) = iN 59 := rfl
theorem li_60 : (60 : Int32) = iN 60 := rfl
theorem li_61 : (61 : Int32) = iN 61 := rfl
theorem li_62 : (62 : Int32) = iN 62 := rfl
theorem li_63 : (63 : Int32) = iN 63 := rfl
theorem li_64 : (64 : Int32) = iN 64 := rfl
theorem li_97 : (97 : Int32) = iN 97 := rfl
theorem li_99 : (99 : Int32) = iN 99 := rfl
theorem li_100 : (100 : Int32) = iN 100 := rfl
theorem li_120 : (120 : Int32) = iN 120 := rfl
theorem li_121 : (121 : Int32) = iN 121 := rfl
theorem li_122 : (122 : Int32) = iN 122 := rfl
theorem li_255 : (255 : Int32) = iN 255 := rfl
theorem li_270 : (270 : Int32) = iN 270 := rfl
theorem li_300 : (300 : Int32) = iN 300 := rfl
theorem li_400 : (400 : Int32) = iN 400 := rfl
theorem li_500 : (500 : Int32) = iN 500 := rfl
theorem li_540 : (540 : Int32) = iN 540 := rfl
theorem li_1000 : (1000 : Int32) = iN 1000 := rfl
theorem li_1024 : (1024 : Int32) = iN 1024 := rfl
theorem li_1440 : (1440 : Int32) = iN 1440 := rfl
theorem li_9999 : (9999 : Int32) = iN 9999 := rfl
theorem li_11264 : (11264 : Int32) = iN 11264 := rfl
theorem li_32768 : (32768 : Int32) = iN 32768 := rfl
theorem li_268435456 : (268435456 : Int32) = iN 268435456 := rfl
theorem li_1073741824 : (1073741824 : Int32) = iN 1073741824 := rfl
theorem li_m : -iN 1 = iM := rfl
theorem li_o (n : Nat) : Int32.ofNat n = iN n := rfl
theorem sh31n {p : Nat} (hp : p < 32) : iN p &&& iN 31 = iN p := sh31 p hp
theorem iN_shl2 {a p : Nat} (hp : p < 32) : iN a <<< iN p = iN (a * 2 ^ p) := by
  have := iN_shl (a := a) hp
  rwa [sh31 p hp] at this
theorem iN_shr2 {a p : Nat} (ha : a < 2147483648) (hp : p < 32) : iN a >>> iN p = iN (a / 2 ^ p) := by
  have := iN_shr (a := a) ha hp
  rwa [sh31 p hp] at this
theorem bit_div (a p : Nat) : (a / 2 ^ p) % 2 = if a.testBit p then 1 else 0 := by
  rw [Nat.testBit_eq_decide_div_mod_eq]
  rcases Nat.mod_two_eq_zero_or_one (a / 2 ^ p) with h | h <;> simp [h]
/-- truth as an int -/
def bI (b : Bool) : Int32 := if b then iN 1 else iN 0
theorem iN_bit2 {a p : Nat} : iN (a / 2 ^ p) &&& iN 1 = bI (a.testBit p) := by
  rw [iN_and, Nat.and_one_is_mod, bit_div]
  cases a.testBit p <;> rfl
/-- the set of those below n that f tells -/
def setOf (f : Nat → Bool) : Nat → Nat
  | 0 => 0
  | n + 1 => setOf f n ||| (if f n then 2 ^ n else 0)
theorem setOf_bit (f : Nat → Bool) (n i : Nat) : (setOf f n).testBit i = (decide (i < n) && f i) := by
  induction n with
  | zero => simp [setOf]
  | succ n ih =>
    rw [setOf, Nat.testBit_or, ih]
    by_cases h : f n = true
    · rw [if_pos h, Nat.testBit_two_pow]
      by_cases hi : i = n
      · subst hi; simp [h]
      · rw [show decide (n = i) = false from decide_eq_false (fun e => hi e.symm), Bool.or_false]
        congr 1
        apply decide_eq_decide.mpr; omega
    · rw [if_neg h, Nat.zero_testBit, Bool.or_false]
      by_cases hi : i = n
      · subst hi; simp [h]
      · congr 1
        apply decide_eq_decide.mpr; omega
theorem setOf_lt (f : Nat → Bool) (n : Nat) : setOf f n < 2 ^ n := by
  apply Nat.lt_pow_two_of_testBit
  intro i hi
  rw [setOf_bit, show decide (i < n) = false from decide_eq_false (by omega), Bool.false_and]
theorem setOf_congr {f g : Nat → Bool} {n : Nat} (h : ∀ i, i < n → f i = g i) : setOf f n = setOf g n := by
  apply Nat.eq_of_testBit_eq
  intro i
  rw [setOf_bit, setOf_bit]
  by_cases hi : i < n
  · rw [h i hi]
  · simp [hi]
theorem setOf_more {f : Nat → Bool} {n m : Nat} (hm : n ≤ m) (h : ∀ i, n ≤ i → i < m → f i = false) : setOf f m = setOf f n := by
  apply Nat.eq_of_testBit_eq
  intro i
  rw [setOf_bit, setOf_bit]
  by_cases hi : i < n
  · simp [hi, show i < m by omega]
  · by_cases h2 : i < m
    · simp [h i (by omega) h2, hi]
    · simp [hi, h2]
theorem l_setIn {σ : gS} {M : gM} {t P : Nat} {x2 : Int32} (ht : t < 6) (hP : M 40 1 = iN P) (h10 : P ≤ 10) : ∀ k i n, i + k = P → k < n →
    l_X12_setIn_5 n (iN t) x2 (iN (setOf (fun p => decide (M 57 (10 * t + p) = x2)) i)) (iN i) σ M = some (iN (setOf (fun p => decide (M 57 (10 * t + p) = x2)) P)) := by
  intro k
  induction k with
  | zero =>
    intro i n hi hn
    obtain ⟨n, rfl⟩ : ∃ m, n = m + 1 := ⟨n - 1, by omega⟩
    rw [l_X12_setIn_5, hP]
    simp (disch := omega) only [li_0, li_1, li_2, li_3, li_4, li_5, li_6, li_7, li_8, li_9, li_10, li_11, li_12, li_13, li_14, li_15, li_16, li_18, li_19, li_20, li_24, li_28, li_29, li_30, li_31, li_32, li_36, li_40, li_41, li_42, li_43, li_45, li_48, li_49, li_50, li_56, li_57, li_59, li_60, li_61, li_62, li_63, li_64, li_97, li_99, li_100, li_120, li_121, li_122, li_255, li_270, li_300, li_400, li_500, li_540, li_1000, li_1024, li_1440, li_9999, li_11264, li_32768, li_268435456, li_1073741824, li_m, li_o, iN_add, iN_mul, iN_lt, iN_in, iN_cl, iN_inj, iM_ne, iM_ne', iN_or, iN_xor, iN_bd, sh31n, iN_shl2, iN_shr2, iN_bit2, Nat.one_mul]
    rw [if_neg (by omega), show i = P by omega]
  | succ k ih =>
    intro i n hi hn
    obtain ⟨n, rfl⟩ : ∃ m, n = m + 1 := ⟨n - 1, by omega⟩
    have e := ih (i + 1) n (by omega) (by omega)
    rw [l_X12_setIn_5, hP]
    simp (disch := omega) only [li_0, li_1, li_2, li_3, li_4, li_5, li_6, li_7, li_8, li_9, li_10, li_11, li_12, li_13, li_14, li_15, li_16, li_18, li_19, li_20, li_24, li_28, li_29, li_30, li_31, li_32, li_36, li_40, li_41, li_42, li_43, li_45, li_48, li_49, li_50, li_56, li_57, li_59, li_60, li_61, li_62, li_63, li_64, li_97, li_99, li_100, li_120, li_121, li_122, li_255, li_270, li_300, li_400, li_500, li_540, li_1000, li_1024, li_1440, li_9999, li_11264, li_32768, li_268435456, li_1073741824, li_m, li_o, iN_add, iN_mul, iN_lt, iN_in, iN_cl, iN_inj, iM_ne, iM_ne', iN_or, iN_xor, iN_bd, sh31n, iN_shl2, iN_shr2, iN_bit2, Nat.one_mul, b_X12_setIn_39]
    rw [if_pos (by omega), if_pos (by omega)]
    rw [setOf] at e
    by_cases h : M 57 (10 * t + i) = x2
    · rw [if_pos h]
      rw [if_pos (decide_eq_true h)] at e
      exact e
    · rw [if_neg h, Nat.or_zero]
      rw [if_neg (by rw [decide_eq_true_iff]; exact h), Nat.or_zero] at e
      exact e
theorem f_setIn {σ : gS} {M : gM} {t P : Nat} {x2 : Int32} (ht : t < 6) (hP : M 40 1 = iN P) (h10 : P ≤ 10) :
    f_X12_setIn (iN t) x2 σ M = some (iN (setOf (fun p => decide (M 57 (10 * t + p) = x2)) P)) := by
  unfold f_X12_setIn b_X12_setIn_0
  exact l_setIn ht hP h10 P 0 g_FU (by omega) (by unfold g_FU; omega)
