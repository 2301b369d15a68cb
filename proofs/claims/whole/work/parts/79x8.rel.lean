/-! settle: the two tables tell the same. -/
theorem bP_of {p : Prop} (h : bP p = true) : p := by
  by_cases c : p
  · exact c
  · rw [bP_f c] at h; exact absurd h (by decide)
theorem moB_of {M0 : gM} {P t r X : Nat} (h : moB M0 P t r X = true) : (∀ i, X.testBit i = true → i < P ∧ thereB M0 i t = true) ∧ mayP M0 P t r (bF M0 t r) X := by
  unfold moB at h
  rw [Bool.and_eq_true] at h
  have h1 := bd_z.mp (of_decide_eq_true h.1)
  refine ⟨fun i hi => ?_, bP_of h.2⟩
  have := h1 i hi
  unfold allS at this
  rw [setOf_bit, Bool.and_eq_true] at this
  exact ⟨of_decide_eq_true this.1, this.2⟩
theorem moB_mk {M0 : gM} {P t r X : Nat} (h1 : ∀ i, X.testBit i = true → i < P ∧ thereB M0 i t = true) (h2 : mayP M0 P t r (bF M0 t r) X) : moB M0 P t r X = true := by
  unfold moB
  rw [bP_t h2, Bool.and_true]
  refine decide_eq_true (bd_z.mpr (fun i hi => ?_))
  unfold allS
  rw [setOf_bit, decide_eq_true (h1 i hi).1, (h1 i hi).2]; rfl
theorem mo_zero (M0 : gM) (P t r : Nat) : moB M0 P t r 0 = true := by
  have z : ∀ i, (0 : Nat).testBit i = true → False := fun i h => by rw [Nat.zero_testBit] at h; cases h
  refine moB_mk (fun i hi => (z i hi).elim) ⟨fun p _ h => (z p h).elim, ?_, fun p q _ _ h _ => (z p h).elim⟩
  rw [cnt_zero (fun p _ => Nat.zero_testBit p)]; omega
theorem cnt_pair {p q n : Nat} (hp : p < n) (hq : q < n) : cnt (2 ^ p ||| 2 ^ q) n = if p = q then 1 else 2 := by
  have b1 : (2 ^ p ||| 2 ^ q).testBit p = true := by rw [pair_bit, decide_eq_true rfl]; rfl
  rw [cnt_bd hp b1]
  by_cases c : p = q
  · rw [if_pos c, cnt_zero (fun i hi => ?_)]
    rw [bd_bit, pair_bit, Nat.testBit_two_pow, c]
    cases decide (q = i) <;> rfl
  · rw [if_neg c]
    have b2 : (bd (2 ^ p ||| 2 ^ q) (2 ^ p)).testBit q = true := by rw [bd_bit, pair_bit, Nat.testBit_two_pow, decide_eq_true rfl, decide_eq_false c]; rfl
    rw [cnt_bd hq b2, cnt_zero (fun i hi => ?_)]
    rw [bd_bit, bd_bit, pair_bit, Nat.testBit_two_pow, Nat.testBit_two_pow]
    cases decide (p = i) <;> cases decide (q = i) <;> rfl
theorem held_iff {M0 : gM} {t r : Nat} : heldF M0 t r = true ↔ ¬ M0 56 (10 * t + r) = iN 0 := by
  unfold heldF
  rw [Bool.not_eq_true', decide_eq_false_iff_not]
theorem mo_pair {M0 : gM} {P t r n p q : Nat} (hC : mCx M0 P t n) (hP : vP M0 P) (hr : r < n) (hp : p < P) (hq : q < P) (tp : thereB M0 p t = true) (tq : thereB M0 q t = true) : moB M0 P t r (2 ^ p ||| 2 ^ q) = true ↔ heldF M0 t r = true ∧ condP M0 t r p q := by
  have hb := hC.2.2.2.2.2 r hr
  have bp : (2 ^ p ||| 2 ^ q).testBit p = true := by rw [pair_bit, decide_eq_true rfl]; rfl
  have bq : (2 ^ p ||| 2 ^ q).testBit q = true := by rw [pair_bit, decide_eq_true (show q = q from rfl), Bool.or_true]
  have bo : ∀ i, (2 ^ p ||| 2 ^ q).testBit i = true → i = p ∨ i = q := fun i hi => by
    rw [pair_bit, Bool.or_eq_true] at hi
    rcases hi with hi | hi
    · exact Or.inl (of_decide_eq_true hi).symm
    · exact Or.inr (of_decide_eq_true hi).symm
  constructor
  · intro h
    obtain ⟨h1, h2, h3, h4⟩ := moB_of h
    have op := h2 p hp bp
    have oq := h2 q hq bq
    refine ⟨held_iff.mpr op.1, ?_, ?_⟩
    · by_cases c : M0 54 (10 * t + r) = iN 0
      · refine Or.inr ⟨?_, ?_⟩
        · rcases op.2 with z | z
          · exact z
          · exact absurd c z
        · rcases oq.2 with z | z
          · exact z
          · exact absurd c z
      · exact Or.inl c
    · by_cases c : p = q
      · exact Or.inl c
      · rw [cnt_pair hp hq, if_neg c] at h3
        refine Or.inr ⟨h3, ?_⟩
        rcases Nat.lt_or_ge p q with z | z
        · exact h4 p q z hq bp bq
        · rw [share_sym hP hp hq]; exact h4 q p (by omega) hp bq bp
  · rintro ⟨h1, h2, h3⟩
    have h1' := held_iff.mp h1
    have ok : ∀ i, i = p ∨ i = q → okP M0 t r i := fun i hi => by
      refine ⟨h1', ?_⟩
      rcases h2 with z | ⟨z1, z2⟩
      · exact Or.inr z
      · rcases hi with e | e
        · rw [e]; exact Or.inl z1
        · rw [e]; exact Or.inl z2
    refine moB_mk (fun i hi => ?_) ⟨fun i _ hi => ok i (bo i hi), ?_, fun x y hxy hy hx' hy' => ?_⟩
    · rcases bo i hi with e | e
      · rw [e]; exact ⟨hp, tp⟩
      · rw [e]; exact ⟨hq, tq⟩
    · rw [cnt_pair hp hq]
      by_cases c : p = q
      · rw [if_pos c]; omega
      · rw [if_neg c]
        rcases h3 with z | z
        · exact absurd z c
        · exact z.1
    · rcases bo x hx' with e1 | e1 <;> rcases bo y hy' with e2 | e2
      · omega
      · rcases h3 with z | z
        · omega
        · rw [e1, e2]; exact z.2
      · rcases h3 with z | z
        · omega
        · rw [e1, e2, share_sym hP hq hp]; exact z.2
      · omega
theorem mo_inv {M0 : gM} {P t r n X : Nat} (hC : mCx M0 P t n) (hr : r < n) (h : moB M0 P t r X = true) (hz : X ≠ 0) : ∃ p q, q ≤ p ∧ p < P ∧ thereB M0 p t = true ∧ thereB M0 q t = true ∧ X = 2 ^ p ||| 2 ^ q := by
  obtain ⟨h1, h2, h3, h4⟩ := moB_of h
  have hb := hC.2.2.2.2.2 r hr
  have nb : ∀ Y : Nat, (∀ i, Y.testBit i = true → i < P) → Y ≠ 0 → cnt Y P ≠ 0 := fun Y hY hy e => by
    apply hy
    apply Nat.eq_of_testBit_eq
    intro i
    rw [Nat.zero_testBit]
    cases c : Y.testBit i with
    | false => rfl
    | true => have := cnt_pos (hY i c) c; omega
  obtain ⟨p, hp, bp⟩ := cnt_ex (nb X (fun i hi => (h1 i hi).1) hz)
  have c1 := cnt_bd hp bp
  have fin : ∀ p q, X.testBit p = true → X.testBit q = true → (∀ i, X.testBit i = true → i = p ∨ i = q) → ∃ p q, q ≤ p ∧ p < P ∧ thereB M0 p t = true ∧ thereB M0 q t = true ∧ X = 2 ^ p ||| 2 ^ q := fun p q bp bq ho => by
    have eX : X = 2 ^ p ||| 2 ^ q := by
      apply Nat.eq_of_testBit_eq
      intro i
      rw [pair_bit]
      cases c : X.testBit i with
      | true => rcases ho i c with e | e <;> (rw [e]; simp)
      | false =>
        have z1 : p ≠ i := fun e => by rw [e, c] at bp; cases bp
        have z2 : q ≠ i := fun e => by rw [e, c] at bq; cases bq
        rw [decide_eq_false z1, decide_eq_false z2]; rfl
    rcases Nat.lt_or_ge p q with z | z
    · exact ⟨q, p, by omega, (h1 q bq).1, (h1 q bq).2, (h1 p bp).2, by rw [eX, Nat.or_comm]⟩
    · exact ⟨p, q, z, (h1 p bp).1, (h1 p bp).2, (h1 q bq).2, eX⟩
  have sub1 : ∀ i, (bd X (2 ^ p)).testBit i = true → X.testBit i = true ∧ i ≠ p := fun i hi => by
    rw [bd_bit, Nat.testBit_two_pow, Bool.and_eq_true] at hi
    exact ⟨hi.1, fun e => by rw [decide_eq_true e.symm] at hi; exact absurd hi.2 (by decide)⟩
  by_cases z1 : bd X (2 ^ p) = 0
  · refine fin p p bp bp (fun i hi => ?_)
    have := bd_z.mp z1 i hi
    rw [Nat.testBit_two_pow] at this
    exact Or.inl (of_decide_eq_true this).symm
  · obtain ⟨q, hq, bq⟩ := cnt_ex (nb (bd X (2 ^ p)) (fun i hi => (h1 i (sub1 i hi).1).1) z1)
    have c2 := cnt_bd hq bq
    refine fin p q bp (sub1 q bq).1 (fun i hi => ?_)
    by_cases e1 : i = p
    · exact Or.inl e1
    · by_cases e2 : i = q
      · exact Or.inr e2
      · have b3 : (bd (bd X (2 ^ p)) (2 ^ q)).testBit i = true := by rw [bd_bit, bd_bit, hi, Nat.testBit_two_pow, Nat.testBit_two_pow, decide_eq_false (fun e => e1 e.symm), decide_eq_false (fun e => e2 e.symm)]; rfl
        have := cnt_pos (h1 i hi).1 b3
        omega
theorem mo_free {M0 : gM} {P t r n X : Nat} (hC : mCx M0 P t n) (hP : vP M0 P) (hr : r < n) (hf : heldF M0 t r = false) (h : moB M0 P t r X = true) : X = 0 := by
  by_cases c : X = 0
  · exact c
  · obtain ⟨p, q, h1, h2, h3, h4, h5⟩ := mo_inv hC hr h c
    rw [h5] at h
    have := ((mo_pair hC hP hr h2 (by omega) h3 h4).mp h).1
    rw [hf] at this; cases this
theorem mvSum_zero {M : gM} {t r X : Nat} : ∀ n, (∀ i, i < n → X.testBit i = false) → mvSum M t r X n = 0 := by
  intro n
  induction n with
  | zero => intro _; rfl
  | succ n ih => intro h; rw [mvSum, ih (fun i hi => h i (by omega)), h n (by omega)]; rfl
theorem mvSum_pair {M : gM} {t r p q : Nat} (hqp : q ≤ p) : ∀ n, p < n → mvSum M t r (2 ^ p ||| 2 ^ q) n = mvX M t r p q := by
  have one : ∀ n, n ≤ p → mvSum M t r (2 ^ p ||| 2 ^ q) n = if q < n then mvP M t r q else 0 := by
    intro n
    induction n with
    | zero => intro _; rfl
    | succ n ih =>
      intro hn
      rw [mvSum, ih (by omega), pair_bit, decide_eq_false (show ¬ p = n by omega), Bool.false_or]
      by_cases c : q = n
      · rw [decide_eq_true c, if_pos rfl, if_neg (by omega), if_pos (by omega), c, Nat.zero_add]
      · rw [decide_eq_false c, if_neg (show ¬ false = true by decide), Nat.add_zero]
        by_cases c2 : q < n
        · rw [if_pos c2, if_pos (by omega)]
        · rw [if_neg c2, if_neg (by omega)]
  intro n
  induction n with
  | zero => intro h; omega
  | succ n ih =>
    intro h
    rw [mvSum, pair_bit]
    by_cases c : p = n
    · rw [decide_eq_true c, Bool.true_or, if_pos rfl, ← c, one p (Nat.le_refl _)]
      unfold mvX
      by_cases c2 : p = q
      · rw [if_pos c2, if_neg (by omega)]; omega
      · rw [if_neg c2, if_pos (by omega)]; omega
    · rw [decide_eq_false c, decide_eq_false (show ¬ q = n by omega), Bool.false_or, if_neg (show ¬ false = true by decide), Nat.add_zero]
      exact ih (by omega)
theorem mvX_cnt {M : gM} {t r p q a b : Nat} (ha : a < 10) (hb : b < 10) (hab : (p = q) ↔ a = b) : mvX M t r p q ≤ cnt (2 ^ a ||| 2 ^ b) 10 := by
  have h1 := mvP_le M t r p
  have h2 := mvP_le M t r q
  unfold mvX
  rw [cnt_pair ha hb]
  by_cases c : a = b
  · rw [if_pos c, if_pos (hab.mpr c)]; omega
  · rw [if_neg c, if_neg (fun z => c (hab.mp z))]; omega
theorem enc_add {how c mv c' mv' : Nat} (hh : how ≤ 1) : encC how c mv + encC how c' mv' = encC how (c + c') (mv + mv') ∧ encM how c mv + encM how c' mv' = encM how (c + c') (mv + mv') := by
  unfold encC encM
  rcases (show how = 0 ∨ how = 1 by omega) with e | e
  · rw [if_pos e, if_pos e, if_pos e, if_pos e, if_pos e, if_pos e]; omega
  · rw [if_neg (by omega), if_pos e, if_neg (by omega), if_pos e, if_neg (by omega), if_pos e, if_neg (by omega), if_neg (by omega), if_neg (by omega)]; omega
theorem enc_le {how c mv c' mv' : Nat} (hh : how ≤ 1) (h1 : mv ≤ 12) (h2 : mv' ≤ 12) (h3 : c ≤ 12000) (h4 : c' ≤ 12000) : encC how c mv ≤ encC how c' mv' ↔ encM how c mv ≤ encM how c' mv' := by
  unfold encC encM
  rcases (show how = 0 ∨ how = 1 by omega) with e | e
  · rw [if_pos e, if_pos e, if_pos e, if_pos e]; omega
  · rw [if_neg (by omega), if_pos e, if_neg (by omega), if_pos e, if_neg (by omega), if_neg (by omega)]; omega
theorem enc_inj {how c mv c' mv' : Nat} (hh : how ≤ 1) (h1 : mv ≤ 12) (h2 : mv' ≤ 12) (h3 : c ≤ 12000) (h4 : c' ≤ 12000) (h : encM how c mv = encM how c' mv') : c = c' ∧ mv = mv' := by
  unfold encM at h
  rcases (show how = 0 ∨ how = 1 by omega) with e | e
  · rw [if_pos e, if_pos e] at h; omega
  · rw [if_neg (by omega), if_neg (by omega)] at h; omega
theorem enc_lt {how c mv : Nat} (hh : how ≤ 1) (h1 : mv ≤ 12) (h3 : c ≤ 12000) : encC how c mv < 268435456 ∧ encM how c mv < 1073741824 := by
  unfold encC encM
  rcases (show how = 0 ∨ how = 1 by omega) with e | e
  · rw [if_pos e, if_pos e]; omega
  · rw [if_neg (by omega), if_pos e, if_neg (by omega)]; omega
def RelV (how v L k b : Nat) : Prop := (v = 268435456 ∧ L = 1073741824) ∨ ∃ c mv, v = encC how c mv ∧ L = encM how c mv ∧ mv ≤ k ∧ c ≤ 1000 * b
