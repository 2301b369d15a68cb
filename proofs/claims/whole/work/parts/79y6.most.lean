/-! most: which sets can be in rooms. -/
def bkP (M0 : gM) (P t n : Nat) : Nat → Nat → Prop
  | 0, S => S = 0
  | k + 1, S => ∃ X, X < 1024 ∧ moB M0 P t (n - 1 - k) X = true ∧ bd X S = 0 ∧ bkP M0 P t n k (bd S X)
def fwP (M0 : gM) (P t : Nat) : Nat → Nat → Prop
  | 0, S => S = 0
  | r + 1, S => ∃ S0 X, fwP M0 P t r S0 ∧ X < 1024 ∧ moB M0 P t r X = true ∧ S0 &&& X = 0 ∧ S = S0 ||| X
theorem bd_or (S A B : Nat) : bd (bd S A) B = bd S (A ||| B) := by
  apply Nat.eq_of_testBit_eq
  intro i
  rw [bd_bit, bd_bit, bd_bit, Nat.testBit_or]
  cases S.testBit i <;> cases A.testBit i <;> cases B.testBit i <;> rfl
theorem or_sub {A B S : Nat} (h1 : bd A S = 0) (h2 : bd B (bd S A) = 0) : bd (A ||| B) S = 0 ∧ A &&& B = 0 := by
  have z1 := bd_z.mp h1
  have z2 := bd_z.mp h2
  constructor
  · refine bd_z.mpr (fun i hi => ?_)
    rw [Nat.testBit_or, Bool.or_eq_true] at hi
    rcases hi with hi | hi
    · exact z1 i hi
    · have := z2 i hi
      rw [bd_bit, Bool.and_eq_true] at this
      exact this.1
  · apply Nat.eq_of_testBit_eq
    intro i
    rw [Nat.testBit_and, Nat.zero_testBit]
    cases c : B.testBit i with
    | false => rw [Bool.and_false]
    | true =>
      have := z2 i c
      rw [bd_bit, Bool.and_eq_true] at this
      cases d : A.testBit i with
      | false => rfl
      | true => rw [d] at this; exact absurd this.2 (by decide)
theorem sub_or {A B S : Nat} (h : A &&& B = 0) (h1 : bd (A ||| B) S = 0) : bd A S = 0 ∧ bd B (bd S A) = 0 := by
  have z := bd_z.mp h1
  refine ⟨bd_z.mpr (fun i hi => z i (by rw [Nat.testBit_or, hi]; rfl)), bd_z.mpr (fun i hi => ?_)⟩
  rw [bd_bit, z i (by rw [Nat.testBit_or, hi, Bool.or_true])]
  have : (A &&& B).testBit i = false := by rw [h]; exact Nat.zero_testBit i
  rw [Nat.testBit_and, hi, Bool.and_true] at this
  rw [this]; rfl
theorem bd_eq {A S : Nat} (h1 : bd A S = 0) (h2 : bd S A = 0) : A = S := by
  apply Nat.eq_of_testBit_eq
  intro i
  have z1 := bd_z.mp h1 i
  have z2 := bd_z.mp h2 i
  cases c : A.testBit i with
  | true => rw [z1 c]
  | false =>
    cases d : S.testBit i with
    | false => rfl
    | true => rw [z2 d] at c; cases c
theorem fw_bk {M0 : gM} {P t n S : Nat} : ∀ k r, r + k = n → ((∃ S0, fwP M0 P t r S0 ∧ bd S0 S = 0 ∧ bkP M0 P t n k (bd S S0)) ↔ fwP M0 P t n S) := by
  intro k
  induction k with
  | zero =>
    intro r hr
    obtain rfl : r = n := by omega
    constructor
    · rintro ⟨S0, h1, h2, h3⟩
      rw [← bd_eq h2 h3]; exact h1
    · intro h
      have bss : bd S S = 0 := bd_z.mpr (fun i hi => hi)
      exact ⟨S, h, bss, bss⟩
  | succ k ih =>
    intro r hr
    rw [← ih (r + 1) (by omega)]
    have en : n - 1 - k = r := by omega
    constructor
    · rintro ⟨S0, h1, h2, X, x1, x2, x3, x4⟩
      rw [en] at x2
      obtain ⟨o1, o2⟩ := or_sub h2 x3
      exact ⟨S0 ||| X, ⟨S0, X, h1, x1, x2, o2, rfl⟩, o1, by rw [← bd_or]; exact x4⟩
    · rintro ⟨S1, ⟨S0, X, h1, x1, x2, x3, x4⟩, h2, h3⟩
      rw [x4] at h2 h3
      obtain ⟨o1, o2⟩ := sub_or x3 h2
      exact ⟨S0, h1, o1, X, x1, by rw [en]; exact x2, o2, by rw [bd_or]; exact h3⟩
theorem fw_bk0 {M0 : gM} {P t n S : Nat} : bkP M0 P t n n S ↔ fwP M0 P t n S := by
  rw [← fw_bk n 0 (by omega)]
  constructor
  · intro h
    exact ⟨0, rfl, bd_0s S, by rw [bd_self0]; exact h⟩
  · rintro ⟨S0, h1, h2, h3⟩
    rw [show S0 = 0 from h1, bd_self0] at h3
    exact h3
theorem fw_all {M0 : gM} {P t : Nat} : ∀ r S, fwP M0 P t r S → ∀ i, S.testBit i = true → i < P ∧ thereB M0 i t = true := by
  intro r
  induction r with
  | zero =>
    intro S h i hi
    rw [show S = 0 from h, Nat.zero_testBit] at hi
    cases hi
  | succ r ih =>
    rintro S ⟨S0, X, h1, x1, x2, x3, x4⟩ i hi
    rw [x4, Nat.testBit_or, Bool.or_eq_true] at hi
    rcases hi with hi | hi
    · exact ih S0 h1 i hi
    · exact (moB_of x2).1 i hi
theorem encC2 (c mv : Nat) : encC 2 c mv = 0 := by unfold encC; rw [if_neg (by omega), if_neg (by omega)]
/-- the class's table tells which sets can be in rooms -/
theorem tab_bk {M0 : gM} {P t n : Nat} {g e : Nat → Nat} {T : Nat → Nat → Nat} (hC : mCx M0 P t n) (hP : vP M0 P) (hg : nth (fun p => thereB M0 p t) P g) (he : nth (heldF M0 t) n e) (hT : isTab (cf (fun p => thereB M0 p t) P) (cf (heldF M0 t) n) (okW M0 t g e) (wW M0 t g e 2) T) : ∀ k r, r + k = n → ∀ s, s < 2 ^ cf (fun p => thereB M0 p t) P → (T (cf (heldF M0 t) r) s ≠ 268435456 ↔ bkP M0 P t n k (emb (fun p => thereB M0 p t) P s)) := by
  have hP10 := hC.1
  intro k
  induction k with
  | zero =>
    intro r hr s hs
    obtain rfl : r = n := by omega
    rw [hT.1 s hs]
    by_cases c : s = 0
    · rw [if_pos c, c, emb_zero]
      exact ⟨fun _ => rfl, fun _ => by omega⟩
    · rw [if_neg c]
      exact ⟨fun h => absurd rfl h, fun h => absurd (emb_nz hs h) c⟩
  | succ k ih =>
    intro r hr s hs
    have hrn : r < n := by omega
    have ih' := ih (r + 1) (by omega)
    have en : n - 1 - k = r := by omega
    cases hl : heldF M0 t r with
    | false =>
      rw [cf_f hl] at ih'
      rw [ih' s hs]
      constructor
      · intro h
        exact ⟨0, by omega, mo_zero M0 P t _, bd_0s _, by rw [bd_self0]; exact h⟩
      · rintro ⟨X, x1, x2, x3, x4⟩
        rw [en] at x2
        rw [mo_free hC hP hrn hl x2, bd_self0] at x4
        exact x4
    | true =>
      rw [cf_t hl] at ih'
      obtain ⟨hi, ei⟩ := he.inv hrn hl
      obtain ⟨z1, z2, z3⟩ := hT.2.2 (cf (heldF M0 t) r) s hi hs
      have t0 := hT.2.1 (cf (heldF M0 t) r) s (by omega) hs
      have t1 := hT.2.1 (cf (heldF M0 t) r + 1) s (by omega) hs
      have w0 : ∀ a b, wW M0 t g e 2 (cf (heldF M0 t) r) a b = 0 := fun a b => encC2 _ _
      constructor
      · intro h
        rcases z3 with z3 | ⟨a, b, a1, a2, a3, a4, a5⟩
        · rw [z3] at h
          exact ⟨0, by omega, mo_zero M0 P t _, bd_0s _, by rw [bd_self0]; exact (ih' s hs).mp h⟩
        · rw [w0, Nat.zero_add] at a5
          rw [a5] at h
          have ga := hg a a2
          have gb := hg b (by omega)
          have eX := emb_pair hg a2 (show b < cf (fun p => thereB M0 p t) P by omega)
          have hx := pair_lt a2 (show b < cf (fun p => thereB M0 p t) P by omega)
          have hc : condP M0 t r (g a) (g b) := by unfold okW at a3; rw [ei] at a3; exact a3
          refine ⟨2 ^ g a ||| 2 ^ g b, Nat.lt_of_lt_of_le (pair_lt ga.1 gb.1) (Nat.le_trans (Nat.pow_le_pow_right (by omega) hP10) (by decide)), by rw [en]; exact (mo_pair hC hP hrn ga.1 gb.1 ga.2.1 gb.2.1).mpr ⟨hl, hc⟩, by rw [← eX]; exact (emb_sub hx).mp a4, ?_⟩
          rw [← eX, ← emb_bd]
          exact (ih' _ (bd_ltp hs)).mp h
      · rintro ⟨X, x1, x2, x3, x4⟩
        rw [en] at x2
        by_cases c0 : X = 0
        · rw [c0, bd_self0] at x4
          have := (ih' s hs).mpr x4
          omega
        · obtain ⟨p, q, h1, h2, h3, h4, h5⟩ := mo_inv hC hrn x2 c0
          obtain ⟨p1, p2⟩ := hg.inv h2 h3
          obtain ⟨q1, q2⟩ := hg.inv (show q < P by omega) h4
          have hba : cf (fun p => thereB M0 p t) q ≤ cf (fun p => thereB M0 p t) p := cf_mono _ h1
          generalize hag : cf (fun p => thereB M0 p t) p = a at *
          generalize hbg : cf (fun p => thereB M0 p t) q = b at *
          have eX : emb (fun p => thereB M0 p t) P (2 ^ a ||| 2 ^ b) = X := by rw [emb_pair hg p1 q1, p2, q2, h5]
          have hx := pair_lt p1 q1
          have hxs : bd (2 ^ a ||| 2 ^ b) s = 0 := (emb_sub hx).mpr (by rw [eX]; exact x3)
          rw [← eX, ← emb_bd] at x4
          have hF := (ih' _ (bd_ltp hs)).mpr x4
          have hc := (mo_pair hC hP hrn h2 (show q < P by omega) h3 h4).mp (by rw [← h5]; exact x2)
          have le := z2 a b hba p1 (by unfold okW; rw [ei, p2, q2]; exact hc.2) hxs
          rw [w0, Nat.zero_add] at le
          have t2 := hT.2.1 (cf (heldF M0 t) r + 1) (bd s (2 ^ a ||| 2 ^ b)) (by omega) (bd_ltp hs)
          omega
/-- a set of those there comes from numbers -/
theorem emb_com {f : Nat → Bool} {n : Nat} {g : Nat → Nat} (hg : nth f n g) {S : Nat} (hS : ∀ i, S.testBit i = true → i < n ∧ f i = true) : ∃ s, s < 2 ^ cf f n ∧ emb f n s = S := by
  refine ⟨setOf (fun j => S.testBit (g j)) (cf f n), setOf_lt _ _, ?_⟩
  apply Nat.eq_of_testBit_eq
  intro p
  rw [emb_bit, setOf_bit]
  cases c : S.testBit p with
  | true =>
    obtain ⟨h1, h2⟩ := hS p c
    obtain ⟨i1, i2⟩ := hg.inv h1 h2
    rw [decide_eq_true h1, h2, decide_eq_true i1, i2, c]; rfl
  | false =>
    by_cases h1 : p < n
    · cases h2 : f p with
      | false => simp
      | true =>
        obtain ⟨i1, i2⟩ := hg.inv h1 h2
        rw [i2, c]; simp
    · rw [decide_eq_false h1, Bool.false_and]
/-- the greatest of the sizes -/
def isMost (ok : Nat → Prop) (n R : Nat) : Prop := (∀ s, s < n → ok s → cnt s 10 ≤ R) ∧ (R = 0 ∨ ∃ s, s < n ∧ ok s ∧ cnt s 10 = R)
theorem isMost.step {ok : Nat → Prop} {n R : Nat} (h : isMost ok n R) : (ok n → isMost ok (n + 1) (if R < cnt n 10 then cnt n 10 else R)) ∧ (¬ ok n → isMost ok (n + 1) R) := by
  obtain ⟨h1, h2⟩ := h
  refine ⟨fun ho => ⟨fun s hs hos => ?_, ?_⟩, fun ho => ⟨fun s hs hos => ?_, ?_⟩⟩
  · by_cases c : s = n
    · rw [c]; split <;> omega
    · have := h1 s (by omega) hos
      split <;> omega
  · by_cases c : R < cnt n 10
    · rw [if_pos c]; exact Or.inr ⟨n, by omega, ho, rfl⟩
    · rw [if_neg c]
      rcases h2 with h2 | ⟨s, s1, s2, s3⟩
      · exact Or.inl h2
      · exact Or.inr ⟨s, by omega, s2, s3⟩
  · by_cases c : s = n
    · rw [c] at hos; exact absurd hos ho
    · exact h1 s (by omega) hos
  · rcases h2 with h2 | ⟨s, s1, s2, s3⟩
    · exact Or.inl h2
    · exact Or.inr ⟨s, by omega, s2, s3⟩
theorem l_mg25 {σ : gS} {M M0 : gM} {N : gN} {t m q aim ta len : Nat} {g e : Nat → Nat} {T : Nat → Nat → Nat} (hW : hasW σ M M0 t m q g e aim) (hta : σ.2 12 13 = ta) (hlen : σ.1 ta = some (14, len)) (hl : len < 100000) (hsz : (q + 1) * 2 ^ m ≤ len) (hT : isTab m q (okW M0 t g e) (wW M0 t g e aim) T) (hV : hasT M ta m q T) : ∀ k s f R, s + k = 2 ^ m → k < f → R ≤ 10 → isMost (fun s => T 0 s ≠ 268435456) s R → ∃ R', R' ≤ 10 ∧ l_X9_mostGuests_25 f (iN R) (iN s) σ M N = some (iN R', σ, M, N) ∧ isMost (fun s => T 0 s ≠ 268435456) (2 ^ m) R' := by
  have hm := hW.2.2.2.2.1
  have hW1 : 2 ^ m ≤ 2 ^ 10 := Nat.pow_le_pow_right (by omega) hm
  have hW2 : 2 ^ 10 = 1024 := rfl
  have hlen0 : 2 ^ m ≤ (q + 1) * 2 ^ m := by rw [Nat.succ_mul]; omega
  have p1 : (1 : Int32) <<< (iN m &&& 31) = iN (2 ^ m) := by rw [show (1 : Int32) = iN 1 from rfl, iN_shl (by omega), Nat.one_mul]
  intro k
  induction k with
  | zero =>
    intro s f R hs hf hR h
    obtain ⟨f, rfl⟩ : ∃ m, f = m + 1 := ⟨f - 1, by omega⟩
    obtain rfl : s = 2 ^ m := by omega
    refine ⟨R, hR, ?_, h⟩
    rw [l_X9_mostGuests_25, hW.1.1, p1, if_neg (by rw [iN_lt (by omega) (by omega)]; omega)]
  | succ k ih =>
    intro s f R hs hf hR h
    obtain ⟨f, rfl⟩ : ∃ m, f = m + 1 := ⟨f - 1, by omega⟩
    have hsm : s < 2 ^ m := by omega
    have hv := hV 0 s (Nat.zero_le _) hsm
    rw [Nat.zero_mul, Nat.zero_add] at hv
    have hle := hT.2.1 0 s (Nat.zero_le _) hsm
    have hc := cnt_le s 10
    rw [l_X9_mostGuests_25, hW.1.1, p1, if_pos (by rw [iN_lt (by omega) (by omega)]; omega), hta, if_pos (show g_is σ ta 14 = true by rw [is_of hlen]; trivial), ln_of hlen, if_pos (by rw [iN_in (by omega)]; omega), iN_cl (by omega), hv, bc10 s (by omega), oB, pc10_cnt]
    unfold b_X9_mostGuests_58
    rw [eS]
    by_cases c : T 0 s = 268435456
    · rw [if_neg (show ¬ iN (T 0 s) < (268435456 : Int32) by rw [c]; decide)]
      exact ih (s + 1) f R (by omega) (by omega) hR (h.step.2 (fun z => z c))
    · rw [if_pos (show iN (T 0 s) < (268435456 : Int32) by rw [show (268435456 : Int32) = iN 268435456 from rfl, iN_lt (by omega) (by omega)]; omega)]
      have st := h.step.1 c
      by_cases d : R < cnt s 10
      · rw [if_pos d] at st
        rw [if_pos (show iN R < iN (cnt s 10) by rw [iN_lt (by omega) (by omega)]; exact d)]
        exact ih (s + 1) f (cnt s 10) (by omega) (by omega) hc st
      · rw [if_neg d] at st
        rw [if_neg (show ¬ iN R < iN (cnt s 10) by rw [iN_lt (by omega) (by omega)]; exact d)]
        exact ih (s + 1) f R (by omega) (by omega) hR st
