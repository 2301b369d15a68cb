/-! settle, most: sets and their parts. -/
theorem cf_lt_of {f : Nat → Bool} {p q : Nat} (h : p < q) (hp : f p = true) : cf f p < cf f q := by
  have := cf_mono f (show p + 1 ≤ q by omega)
  rw [cf_t hp] at this
  omega
theorem cf_inj {f : Nat → Bool} {p q : Nat} (hp : f p = true) (hq : f q = true) (h : cf f p = cf f q) : p = q := by
  rcases Nat.lt_trichotomy p q with c | c | c
  · have := cf_lt_of c hp; omega
  · exact c
  · have := cf_lt_of c hq; omega
/-- the j-th of those that f tells -/
def nth (f : Nat → Bool) (n : Nat) (g : Nat → Nat) : Prop := ∀ j, j < cf f n → g j < n ∧ f (g j) = true ∧ cf f (g j) = j
theorem nth_ex (f : Nat → Bool) : ∀ n, ∃ g : Nat → Nat, nth f n g := by
  intro n
  induction n with
  | zero => exact ⟨fun _ => 0, fun j hj => absurd hj (Nat.not_lt_zero j)⟩
  | succ n ih =>
    obtain ⟨g, hg⟩ := ih
    by_cases c : f n = true
    · refine ⟨fun j => if j = cf f n then n else g j, fun j hj => ?_⟩
      rw [cf_t c] at hj
      by_cases e : j = cf f n
      · have e2 : (if j = cf f n then n else g j) = n := if_pos e
        show (if j = cf f n then n else g j) < n + 1 ∧ f (if j = cf f n then n else g j) = true ∧ cf f (if j = cf f n then n else g j) = j
        rw [e2]
        exact ⟨by omega, c, e.symm⟩
      · have e2 : (if j = cf f n then n else g j) = g j := if_neg e
        show (if j = cf f n then n else g j) < n + 1 ∧ f (if j = cf f n then n else g j) = true ∧ cf f (if j = cf f n then n else g j) = j
        rw [e2]
        have := hg j (by omega)
        exact ⟨by omega, this.2.1, this.2.2⟩
    · refine ⟨g, fun j hj => ?_⟩
      rw [cf_f (Bool.eq_false_iff.mpr c)] at hj
      have := hg j hj
      exact ⟨by omega, this.2.1, this.2.2⟩
theorem nth.inv {f : Nat → Bool} {n : Nat} {g : Nat → Nat} (h : nth f n g) {p : Nat} (hp : p < n) (hf : f p = true) : cf f p < cf f n ∧ g (cf f p) = p := by
  have h1 := cf_lt_of hp hf
  have h2 := h _ h1
  exact ⟨h1, cf_inj h2.2.1 hf h2.2.2⟩
theorem nth.lt {f : Nat → Bool} {n : Nat} {g : Nat → Nat} (h : nth f n g) {i j : Nat} (hij : i < j) (hj : j < cf f n) : g i < g j := by
  have h1 := h i (by omega)
  have h2 := h j hj
  rcases Nat.lt_or_ge (g i) (g j) with c | c
  · exact c
  · have := cf_mono f c
    omega
theorem nth.le {f : Nat → Bool} {n : Nat} {g : Nat → Nat} (h : nth f n g) {i j : Nat} (hij : i ≤ j) (hj : j < cf f n) : g i ≤ g j := by
  rcases Nat.lt_or_ge i j with c | c
  · have := h.lt c hj; omega
  · have : i = j := by omega
    rw [this]; exact Nat.le_refl _
/-- a set of the told ones by their numbers, as a set of all -/
def emb (f : Nat → Bool) (n s : Nat) : Nat := setOf (fun p => f p && s.testBit (cf f p)) n
theorem emb_bit (f : Nat → Bool) (n s p : Nat) : (emb f n s).testBit p = (decide (p < n) && (f p && s.testBit (cf f p))) := setOf_bit _ _ _
theorem emb_lt (f : Nat → Bool) (n s : Nat) : emb f n s < 2 ^ n := setOf_lt _ _
theorem emb_bd (f : Nat → Bool) (n s x : Nat) : emb f n (bd s x) = bd (emb f n s) (emb f n x) := by
  apply Nat.eq_of_testBit_eq
  intro p
  rw [bd_bit, emb_bit, emb_bit, emb_bit, bd_bit]
  cases decide (p < n) <;> cases f p <;> cases s.testBit (cf f p) <;> cases x.testBit (cf f p) <;> rfl
theorem emb_or (f : Nat → Bool) (n s x : Nat) : emb f n (s ||| x) = emb f n s ||| emb f n x := by
  apply Nat.eq_of_testBit_eq
  intro p
  rw [Nat.testBit_or, emb_bit, emb_bit, emb_bit, Nat.testBit_or]
  cases decide (p < n) <;> cases f p <;> cases s.testBit (cf f p) <;> cases x.testBit (cf f p) <;> rfl
theorem emb_zero (f : Nat → Bool) (n : Nat) : emb f n 0 = 0 := by
  apply Nat.eq_of_testBit_eq
  intro p
  simp only [emb_bit, Nat.zero_testBit, Bool.and_false]
theorem emb_nz {f : Nat → Bool} {n s : Nat} (hs : s < 2 ^ cf f n) (h : emb f n s = 0) : s = 0 := by
  obtain ⟨g, hg⟩ := nth_ex f n
  apply Nat.eq_of_testBit_eq
  intro j
  rw [Nat.zero_testBit]
  by_cases c : j < cf f n
  · have hj := hg j c
    have e := emb_bit f n s (g j)
    rw [h, Nat.zero_testBit, hj.2.1, hj.2.2, decide_eq_true hj.1, Bool.true_and, Bool.true_and] at e
    exact e.symm
  · exact Nat.testBit_lt_two_pow (Nat.lt_of_lt_of_le hs (Nat.pow_le_pow_right (by omega) (by omega)))
theorem emb_full (f : Nat → Bool) (n : Nat) : emb f n (2 ^ cf f n - 1) = setOf f n := by
  apply Nat.eq_of_testBit_eq
  intro p
  rw [emb_bit, setOf_bit, Nat.testBit_two_pow_sub_one]
  by_cases c : p < n
  · rw [decide_eq_true c, Bool.true_and, Bool.true_and]
    cases e : f p with
    | false => rfl
    | true => rw [Bool.true_and]; exact decide_eq_true (cf_lt_of c e)
  · rw [decide_eq_false c, Bool.false_and, Bool.false_and]
theorem emb_pow {f : Nat → Bool} {n : Nat} {g : Nat → Nat} (hg : nth f n g) {j : Nat} (hj : j < cf f n) : emb f n (2 ^ j) = 2 ^ g j := by
  have h := hg j hj
  apply Nat.eq_of_testBit_eq
  intro p
  rw [emb_bit, Nat.testBit_two_pow, Nat.testBit_two_pow]
  by_cases c : p = g j
  · rw [c, decide_eq_true h.1, h.2.1, h.2.2, decide_eq_true rfl, decide_eq_true rfl]; rfl
  · rw [decide_eq_false (show ¬ g j = p from fun q => c q.symm)]
    by_cases c1 : p < n
    · cases e : f p with
      | false => rw [Bool.false_and, Bool.and_false]
      | true =>
        rw [decide_eq_false (show ¬ j = cf f p from fun q => c (by rw [q]; exact ((hg.inv c1 e).2).symm)), Bool.and_false, Bool.and_false]
    · rw [decide_eq_false c1, Bool.false_and]
theorem bd_z {x s : Nat} : bd x s = 0 ↔ ∀ i, x.testBit i = true → s.testBit i = true := by
  constructor
  · intro h i hi
    have e := bd_bit x s i
    rw [h, Nat.zero_testBit, hi] at e
    cases q : s.testBit i with
    | true => rfl
    | false => rw [q] at e; exact absurd e (by decide)
  · intro h
    apply Nat.eq_of_testBit_eq
    intro i
    rw [bd_bit, Nat.zero_testBit]
    cases q : x.testBit i with
    | false => rfl
    | true => rw [h i q]; rfl
theorem bd_ltp {s x n : Nat} (h : s < 2 ^ n) : bd s x < 2 ^ n := by
  apply Nat.lt_pow_two_of_testBit
  intro i hi
  rw [bd_bit, Nat.testBit_lt_two_pow (Nat.lt_of_lt_of_le h (Nat.pow_le_pow_right (by omega) hi))]; rfl
theorem emb_sub {f : Nat → Bool} {n s x : Nat} (hx : x < 2 ^ cf f n) : bd x s = 0 ↔ bd (emb f n x) (emb f n s) = 0 := by
  rw [← emb_bd]
  exact ⟨fun h => by rw [h, emb_zero], fun h => emb_nz (bd_ltp hx) h⟩
theorem bd_self0 (s : Nat) : bd s 0 = s := by
  apply Nat.eq_of_testBit_eq
  intro i
  rw [bd_bit, Nat.zero_testBit]; simp
theorem bd_0s (s : Nat) : bd 0 s = 0 := bd_z.mpr (fun i h => by rw [Nat.zero_testBit] at h; cases h)
theorem cnt_split {s x : Nat} (h : bd x s = 0) : ∀ n, cnt s n = cnt x n + cnt (bd s x) n := by
  have hz := bd_z.mp h
  intro n
  induction n with
  | zero => rfl
  | succ n ih =>
    cases q : x.testBit n with
    | true =>
      rw [cnt_t (hz n q), cnt_t q, cnt_f (show (bd s x).testBit n = false by rw [bd_bit, q]; simp)]
      omega
    | false =>
      cases r : s.testBit n with
      | true => rw [cnt_t r, cnt_f q, cnt_t (show (bd s x).testBit n = true by rw [bd_bit, q, r]; rfl)]; omega
      | false => rw [cnt_f r, cnt_f q, cnt_f (show (bd s x).testBit n = false by rw [bd_bit, r]; rfl)]; omega
theorem cnt_emb (f : Nat → Bool) (s : Nat) : ∀ n, cf (fun p => f p && s.testBit (cf f p)) n = cnt s (cf f n) := by
  intro n
  induction n with
  | zero => rfl
  | succ n ih =>
    cases q : f n with
    | true =>
      rw [cf_t q]
      cases r : s.testBit (cf f n) with
      | true => rw [cnt_t r, cf_t (show (f n && s.testBit (cf f n)) = true by rw [q, r]; rfl), ih]
      | false => rw [cnt_f r, cf_f (show (f n && s.testBit (cf f n)) = false by rw [q, r]; rfl), ih]
    | false => rw [cf_f q, cf_f (show (f n && s.testBit (cf f n)) = false by rw [q]; rfl), ih]
theorem cnt_hi {s m n : Nat} (hs : s < 2 ^ m) (h : m ≤ n) : cnt s n = cnt s m := cnt_more h (fun p h1 _ => Nat.testBit_lt_two_pow (Nat.lt_of_lt_of_le hs (Nat.pow_le_pow_right (by omega) h1)))
theorem cnt_emb10 {f : Nat → Bool} {n s : Nat} (hn : n ≤ 10) (hs : s < 2 ^ cf f n) : cnt (emb f n s) 10 = cnt s 10 := by
  have h1 := cf_le f n
  rw [cnt_hi (emb_lt f n s) hn, cnt_hi hs (by omega), ← cnt_emb, cnt_cf]
  exact cf_congr (fun i hi => by rw [emb_bit, decide_eq_true hi, Bool.true_and])
/-! subsets of a set, one behind the other -/
theorem and_two (a b x y : Nat) (hx : x < 2) (hy : y < 2) : (2 * a + x) &&& (2 * b + y) = 2 * (a &&& b) + (x &&& y) := by
  apply Nat.eq_of_testBit_eq
  intro i
  have hxy : x &&& y < 2 := Nat.lt_of_le_of_lt Nat.and_le_left hx
  cases i with
  | zero =>
    rw [Nat.testBit_and, Nat.testBit_zero, Nat.testBit_zero, Nat.testBit_zero]
    rw [show (2 * a + x) % 2 = x by omega, show (2 * b + y) % 2 = y by omega, show (2 * (a &&& b) + (x &&& y)) % 2 = x &&& y by omega]
    have : ∀ x, x < 2 → ∀ y, y < 2 → (decide (x = 1) && decide (y = 1)) = decide (x &&& y = 1) := by decide
    exact this x hx y hy
  | succ i =>
    rw [Nat.testBit_and, Nat.testBit_succ, Nat.testBit_succ, Nat.testBit_succ, show (2 * a + x) / 2 = a by omega, show (2 * b + y) / 2 = b by omega, show (2 * (a &&& b) + (x &&& y)) / 2 = a &&& b by omega, Nat.testBit_and]
def pcK : Nat → Nat → Nat
  | 0, _ => 0
  | k + 1, m => m % 2 + pcK k (m / 2)
def dep : Nat → Nat → Nat → Nat
  | 0, _, _ => 0
  | k + 1, m, v => if m % 2 = 1 then 2 * dep k (m / 2) (v / 2) + v % 2 else 2 * dep k (m / 2) v
theorem dep_pos : ∀ k m v, 1 ≤ v → v < 2 ^ pcK k m → 1 ≤ dep k m v := by
  intro k
  induction k with
  | zero => intro m v h1 h2; rw [pcK] at h2; omega
  | succ k ih =>
    intro m v h1 h2
    rw [pcK] at h2
    rw [dep]
    by_cases c : m % 2 = 1
    · rw [if_pos c]
      rw [c, Nat.pow_add] at h2
      by_cases c2 : v / 2 = 0
      · omega
      · have := ih (m / 2) (v / 2) (by omega) (by omega)
        omega
    · rw [if_neg c]
      rw [show m % 2 = 0 by omega, Nat.zero_add] at h2
      have := ih (m / 2) v h1 h2
      omega
theorem dep_in : ∀ k m v, dep k m v &&& m = dep k m v := by
  intro k
  induction k with
  | zero => intro m v; rw [dep, Nat.zero_and]
  | succ k ih =>
    intro m v
    rw [dep]
    by_cases c : m % 2 = 1
    · rw [if_pos c]
      have h := and_two (dep k (m / 2) (v / 2)) (m / 2) (v % 2) 1 (by omega) (by omega)
      rw [show 2 * (m / 2) + 1 = m by omega, ih, show v % 2 &&& 1 = v % 2 from by rw [Nat.and_one_is_mod]; omega] at h
      exact h
    · rw [if_neg c]
      have h := and_two (dep k (m / 2) v) (m / 2) 0 0 (by omega) (by omega)
      rw [show 2 * (m / 2) + 0 = m by omega, ih, Nat.zero_and, Nat.add_zero] at h
      exact h
theorem dep_step : ∀ k m v, 1 ≤ v → v < 2 ^ pcK k m → (dep k m v - 1) &&& m = dep k m (v - 1) := by
  intro k
  induction k with
  | zero => intro m v h1 h2; rw [pcK] at h2; omega
  | succ k ih =>
    intro m v h1 h2
    rw [pcK] at h2
    by_cases c : m % 2 = 1
    · rw [c, Nat.pow_add] at h2
      rw [dep, dep, if_pos c, if_pos c]
      by_cases c2 : v % 2 = 1
      · have h := and_two (dep k (m / 2) (v / 2)) (m / 2) 0 1 (by omega) (by omega)
        rw [show 2 * (m / 2) + 1 = m by omega, dep_in, Nat.zero_and, Nat.add_zero] at h
        rw [c2, Nat.add_sub_cancel, show (v - 1) / 2 = v / 2 by omega, show (v - 1) % 2 = 0 by omega, Nat.add_zero]
        exact h
      · have hp := dep_pos k (m / 2) (v / 2) (by omega) (by omega)
        have h := and_two (dep k (m / 2) (v / 2) - 1) (m / 2) 1 1 (by omega) (by omega)
        rw [show 2 * (m / 2) + 1 = m by omega, ih _ _ (by omega) (by omega), show (1 : Nat) &&& 1 = 1 from rfl] at h
        rw [show (v - 1) / 2 = v / 2 - 1 by omega, show (v - 1) % 2 = 1 by omega, show v % 2 = 0 by omega, show 2 * dep k (m / 2) (v / 2) + 0 - 1 = 2 * (dep k (m / 2) (v / 2) - 1) + 1 by omega]
        exact h
    · rw [show m % 2 = 0 by omega, Nat.zero_add] at h2
      have hp := dep_pos k (m / 2) v h1 h2
      have h := and_two (dep k (m / 2) v - 1) (m / 2) 1 0 (by omega) (by omega)
      rw [show 2 * (m / 2) + 0 = m by omega, ih _ _ h1 h2, show (1 : Nat) &&& 0 = 0 from rfl, Nat.add_zero] at h
      rw [dep, dep, if_neg c, if_neg c, show 2 * dep k (m / 2) v - 1 = 2 * (dep k (m / 2) v - 1) + 1 by omega]
      exact h
theorem dep_top : ∀ k m, m < 2 ^ k → dep k m (2 ^ pcK k m - 1) = m := by
  intro k
  induction k with
  | zero => intro m h; rw [Nat.pow_zero] at h; rw [dep]; omega
  | succ k ih =>
    intro m h
    rw [Nat.pow_succ] at h
    have hp : 1 ≤ 2 ^ pcK k (m / 2) := Nat.one_le_two_pow
    have hi := ih (m / 2) (by omega)
    rw [dep, pcK]
    by_cases c : m % 2 = 1
    · rw [if_pos c, c, Nat.pow_add, show (2 ^ 1 * 2 ^ pcK k (m / 2) - 1) / 2 = 2 ^ pcK k (m / 2) - 1 by omega, show (2 ^ 1 * 2 ^ pcK k (m / 2) - 1) % 2 = 1 by omega, hi]
      omega
    · rw [if_neg c, show m % 2 = 0 by omega, Nat.zero_add, hi]
      omega
theorem dep_all : ∀ k m x, m < 2 ^ k → x &&& m = x → ∃ v, v < 2 ^ pcK k m ∧ dep k m v = x := by
  intro k
  induction k with
  | zero =>
    intro m x h hx
    rw [Nat.pow_zero] at h
    rw [show m = 0 by omega, Nat.and_zero] at hx
    exact ⟨0, by rw [pcK]; omega, by rw [dep]; exact hx⟩
  | succ k ih =>
    intro m x h hx
    rw [Nat.pow_succ] at h
    have e := and_two (x / 2) (m / 2) (x % 2) (m % 2) (by omega) (by omega)
    rw [show 2 * (x / 2) + x % 2 = x by omega, show 2 * (m / 2) + m % 2 = m by omega, hx] at e
    have hs : x % 2 &&& m % 2 < 2 := Nat.lt_of_le_of_lt Nat.and_le_left (by omega)
    obtain ⟨v, h1, h2⟩ := ih (m / 2) (x / 2) (by omega) (by omega)
    by_cases c : m % 2 = 1
    · refine ⟨2 * v + x % 2, ?_, ?_⟩
      · rw [pcK, c, Nat.pow_add]; omega
      · rw [dep, if_pos c, show (2 * v + x % 2) / 2 = v by omega, show (2 * v + x % 2) % 2 = x % 2 by omega, h2]; omega
    · rw [show m % 2 = 0 by omega, Nat.and_zero] at e
      refine ⟨v, ?_, ?_⟩
      · rw [pcK, show m % 2 = 0 by omega, Nat.zero_add]; exact h1
      · rw [dep, if_neg c, h2]; omega
set_option maxRecDepth 100000 in
theorem pcK_10 : ∀ s, s < 1024 → pcK 10 s = pc10 s := by decide +kernel
theorem add_or : ∀ (k a b : Nat), a < 2 ^ k → a &&& b = 0 → a + b = a ||| b := by
  intro k
  induction k with
  | zero => intro a b h _; rw [Nat.pow_zero] at h; rw [show a = 0 by omega, Nat.zero_or, Nat.zero_add]
  | succ k ih =>
    intro a b h hz
    rw [Nat.pow_succ] at h
    have e := and_two (a / 2) (b / 2) (a % 2) (b % 2) (by omega) (by omega)
    rw [show 2 * (a / 2) + a % 2 = a by omega, show 2 * (b / 2) + b % 2 = b by omega, hz] at e
    have hs : a % 2 &&& b % 2 = 0 := by omega
    have hi := ih (a / 2) (b / 2) (by omega) (by omega)
    have h01 : ∀ x, x < 2 → ∀ y, y < 2 → x &&& y = 0 → x + y < 2 ∧ (decide (x = 1) || decide (y = 1)) = decide (x + y = 1) := by decide
    obtain ⟨z1, z2⟩ := h01 (a % 2) (by omega) (b % 2) (by omega) hs
    apply Nat.eq_of_testBit_eq
    intro i
    cases i with
    | zero => rw [Nat.testBit_or, Nat.testBit_zero, Nat.testBit_zero, Nat.testBit_zero, z2, show (a + b) % 2 = a % 2 + b % 2 by omega]
    | succ i => rw [Nat.testBit_or, Nat.testBit_succ, Nat.testBit_succ, Nat.testBit_succ, show (a + b) / 2 = a / 2 + b / 2 by omega, hi, Nat.testBit_or]
/-- a set and what is left of it -/
theorem bd_add {s x k : Nat} (hs : x < 2 ^ k) (h : bd x s = 0) : x + bd s x = s := by
  have hz := bd_z.mp h
  rw [add_or k x (bd s x) hs]
  · apply Nat.eq_of_testBit_eq
    intro i
    rw [Nat.testBit_or, bd_bit]
    cases q : x.testBit i with
    | true => rw [hz i q]; rfl
    | false => simp
  · apply Nat.eq_of_testBit_eq
    intro i
    rw [Nat.testBit_and, bd_bit, Nat.zero_testBit]
    cases x.testBit i <;> simp
theorem pair_lt {n a b : Nat} (ha : a < n) (hb : b < n) : 2 ^ a ||| 2 ^ b < 2 ^ n := Nat.or_lt_two_pow (Nat.pow_lt_pow_right (by omega) ha) (Nat.pow_lt_pow_right (by omega) hb)
theorem pair_bit (a b i : Nat) : (2 ^ a ||| 2 ^ b).testBit i = (decide (a = i) || decide (b = i)) := by rw [Nat.testBit_or, Nat.testBit_two_pow, Nat.testBit_two_pow]
theorem pair_nz (a b : Nat) : 2 ^ a ||| 2 ^ b ≠ 0 := fun h => by
  have := pair_bit a b a
  rw [h, Nat.zero_testBit, decide_eq_true rfl] at this
  cases this
