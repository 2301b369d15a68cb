/-! settle: both sides plan the same. -/
theorem least_ex {p : Nat → Prop} : ∀ n, p n → ∃ m, p m ∧ ∀ k, k < m → ¬ p k := by
  intro n
  induction n using Nat.strongRecOn with
  | ind n ih =>
    intro h
    by_cases c : ∃ k, k < n ∧ p k
    · obtain ⟨k, hk, hp⟩ := c
      exact ih k hk hp
    · exact ⟨n, h, fun k hk hp => c ⟨k, hk, hp⟩⟩
theorem hasW.keep' {σ : gS} {M M' M0 : gM} {t m q aim : Nat} {g e : Nat → Nat} (h : hasW σ M M0 t m q g e aim) (ht : t < 6) (k : ∀ a j, a = 12 ∨ (14 ≤ a ∧ a ≤ 19) ∨ (200 ≤ a ∧ a < 300) → M' a j = M a j) : hasW σ M' M0 t m q g e aim := by
  obtain ⟨h1, h2, h3, h4, h5, h6, h7, h8, h9⟩ := h
  refine ⟨h1.keep (fun a j h => k a j (by omega)), ⟨by rw [k _ _ (by omega)]; exact h2.1, fun i hi => by rw [k _ _ (by omega)]; exact h2.2 i hi⟩, by rw [k _ _ (by omega)]; exact h3, h4, h5, h6, h7, h8, fun i hi => ?_⟩
  have := h9 i hi
  rw [k _ _ (by omega), k _ _ (by omega), k _ _ (by omega)]
  exact this
theorem pair_inj {f : Nat → Bool} {n : Nat} {g : Nat → Nat} (hg : nth f n g) {a b a' b' : Nat} (a1 : b ≤ a) (a2 : a < cf f n) (b1 : b' ≤ a') (b2 : a' < cf f n) (h : 2 ^ g a ||| 2 ^ g b = 2 ^ g a' ||| 2 ^ g b') : a = a' ∧ b = b' := by
  have ga := hg a a2
  have gb := hg b (by omega)
  have ga' := hg a' b2
  have gb' := hg b' (by omega)
  have ebit : ∀ i, (2 ^ g a ||| 2 ^ g b).testBit i = (2 ^ g a' ||| 2 ^ g b').testBit i := fun i => by rw [h]
  have e1 := hg.le a1 a2
  have e2 := hg.le b1 b2
  have k1 := ebit (g a)
  have k2 := ebit (g b)
  have k3 := ebit (g a')
  have k4 := ebit (g b')
  rw [pair_bit, pair_bit, decide_eq_true (show g a = g a from rfl), Bool.true_or] at k1
  rw [pair_bit, pair_bit, decide_eq_true (show g b = g b from rfl), Bool.or_true] at k2
  rw [pair_bit, pair_bit, decide_eq_true (show g a' = g a' from rfl), Bool.true_or] at k3
  rw [pair_bit, pair_bit, decide_eq_true (show g b' = g b' from rfl), Bool.or_true] at k4
  have k1' := Bool.or_eq_true .. ▸ k1.symm
  have k2' := Bool.or_eq_true .. ▸ k2.symm
  have k3' := Bool.or_eq_true .. ▸ k3
  have k4' := Bool.or_eq_true .. ▸ k4
  simp only [decide_eq_true_iff] at k1' k2' k3' k4'
  have eaa : g a = g a' := by omega
  have ebb : g b = g b' := by omega
  constructor
  · have h1 := ga.2.2; have h2 := ga'.2.2; rw [eaa] at h1; omega
  · have h1 := gb.2.2; have h2 := gb'.2.2; rw [ebb] at h1; omega
theorem pow_or {x y : Nat} (h : y < x) : 2 ^ x ||| 2 ^ y = 2 ^ x + 2 ^ y := by
  have := or_add (a := 1) (b := 2 ^ y) (n := x) (Nat.pow_lt_pow_right (by omega) h)
  rw [Nat.one_mul] at this
  exact this
theorem pair_le {f : Nat → Bool} {n : Nat} {g : Nat → Nat} (hg : nth f n g) {a k a' k' : Nat} (ha : a < cf f n) (ha' : a' < cf f n) (hk : k ≤ a) (hk' : k' ≤ a') (h : a < a' ∨ (a = a' ∧ k ≤ k')) : 2 ^ g a ||| 2 ^ g (bO a k) ≤ 2 ^ g a' ||| 2 ^ g (bO a' k') := by
  have hb : bO a k ≤ a := by unfold bO; split <;> omega
  rcases h with h | ⟨h, h2⟩
  · have l1 := hg.lt h ha'
    have l2 := hg.le hb ha
    have lt : 2 ^ g a ||| 2 ^ g (bO a k) < 2 ^ g a' := pair_lt l1 (by omega)
    have le : 2 ^ g a' ≤ 2 ^ g a' ||| 2 ^ g (bO a' k') := Nat.left_le_or
    omega
  · subst h
    unfold bO
    by_cases c : k = 0
    · rw [if_pos c, Nat.or_self]; exact Nat.left_le_or
    · rw [if_neg c, if_neg (by omega)]
      have l1 := hg.lt (show k - 1 < a by omega) ha
      have l2 := hg.lt (show k' - 1 < a by omega) ha
      have l3 := hg.le (show k - 1 ≤ k' - 1 by omega) (show k' - 1 < cf f n by omega)
      rw [pow_or l1, pow_or l2]
      have : 2 ^ g (k - 1) ≤ 2 ^ g (k' - 1) := Nat.pow_le_pow_right (by omega) l3
      omega
theorem plan_both {M0 : gM} {P t n how : Nat} {g e : Nat → Nat} {T : Nat → Nat → Nat} (hC : mCx M0 P t n) (hP : vP M0 P) (hh : how ≤ 1) (hg : nth (fun p => thereB M0 p t) P g) (he : nth (heldF M0 t) n e) (hT : isTab (cf (fun p => thereB M0 p t) P) (cf (heldF M0 t) n) (okW M0 t g e) (wW M0 t g e how) T) : ∀ k r, r + k = n → ∀ s, s < 2 ^ cf (fun p => thereB M0 p t) P → T (cf (heldF M0 t) r) s ≠ 268435456 → ∀ F : Nat → Int32, ∃ (F' : Nat → Int32) (c mv : Nat), LT M0 P t n how r (emb (fun p => thereB M0 p t) P s) = encM how c mv ∧ mv ≤ cnt s 10 ∧ c ≤ 1000 * (n - r) ∧ (∀ p, F' p = F p ∨ ∃ r', r' < n ∧ p < P ∧ F' p = iN r') ∧ (∀ σ M ta len f, k < f → hasW σ M M0 t (cf (fun p => thereB M0 p t) P) (cf (heldF M0 t) n) g e how → σ.2 12 13 = ta → σ.1 ta = some (14, len) → len < 100000 → (cf (heldF M0 t) n + 1) * 2 ^ cf (fun p => thereB M0 p t) P ≤ len → ta ≠ 13 → hasT M ta (cf (fun p => thereB M0 p t) P) (cf (heldF M0 t) n) T → (∀ p, p < 10 → M 13 p = F p) → ∃ M', l_X9_readPlan_32 f (iN s) (iN (cf (heldF M0 t) r)) σ M = some M' ∧ (∀ p, p < 10 → M' 13 p = F' p) ∧ ∀ a j, a ≠ 13 → M' a j = M a j) ∧ ∀ σ M f cost moved, k < f → frM M M0 → hasS M M0 P t n → hasL M M0 P t n how 0 → (∀ p, p < P → M 68 p = F p) → ∃ M', l_X12_takes_38 f (iN t) (iN how) (iN (emb (fun p => thereB M0 p t) P s)) (iN cost) (iN moved) (iN r) σ M = l_X12_takes_208 g_FU (iN t) (iN (cost + c)) (iN (moved + mv)) 0 0 σ M' ∧ (∀ p, p < P → M' 68 p = F' p) ∧ ∀ a j, a ≠ 68 → M' a j = M a j := by
  have hC' := hC
  obtain ⟨hP10, ht, hn, c4, c5, c6⟩ := hC'
  have hm := cf_le (fun p => thereB M0 p t) P
  have hq := cf_le (heldF M0 t) n
  have hR := rel_tab hC hP hh hg he hT
  have elt : ∀ s, emb (fun p => thereB M0 p t) P s < 1024 := fun s => Nat.lt_of_lt_of_le (emb_lt _ P s) (Nat.le_trans (Nat.pow_le_pow_right (by omega) hP10) (by decide))
  have gt : g_in (iN t) 6 = true := by rw [iN_in (by omega)]; exact ht
  intro k
  induction k with
  | zero =>
    intro r hr s hs hN F
    obtain rfl : r = n := by omega
    have hs0 : s = 0 := by
      by_cases c : s = 0
      · exact c
      · rw [hT.1 s hs, if_neg c] at hN; exact absurd rfl hN
    refine ⟨F, 0, 0, ?_, Nat.zero_le _, Nat.zero_le _, fun p => Or.inl rfl, fun σ M ta len f hf hW h1 h2 h3 h4 h5 hV hF => ?_, fun σ M f cost moved hf fr hs' hL hF => ?_⟩
    · rw [LT_n, hs0, emb_zero, if_pos rfl]
      unfold encM
      split <;> rfl
    · obtain ⟨f, rfl⟩ : ∃ m, f = m + 1 := ⟨f - 1, by omega⟩
      refine ⟨M, ?_, hF, fun _ _ _ => rfl⟩
      rw [l_X9_readPlan_32, hW.2.1.1, if_neg (by rw [iN_lt (by omega) (by omega)]; omega)]
    · obtain ⟨f, rfl⟩ : ∃ m, f = m + 1 := ⟨f - 1, by omega⟩
      refine ⟨M, ?_, hF, fun _ _ _ => rfl⟩
      rw [l_X12_takes_38, if_pos gt, iN_cl (by omega), fr 52 _ (by omega) (by omega) (by omega), c5, if_neg (by rw [iN_lt (by omega) (by omega)]; omega), Nat.add_zero, Nat.add_zero]
  | succ k ih =>
    intro r hr s hs hN F
    have hrn : r < n := by omega
    have h10 := cnt_le s 10
    obtain ⟨c, mv, y1, y2, y3, y4⟩ : ∃ c mv, T (cf (heldF M0 t) r) s = encC how c mv ∧ LT M0 P t n how r (emb (fun p => thereB M0 p t) P s) = encM how c mv ∧ mv ≤ cnt s 10 ∧ c ≤ 1000 * (n - r) := by
      rcases hR (k + 1) r hr s hs with ⟨z, _⟩ | z
      · exact absurd z hN
      · exact z
    have lt2 := (enc_lt (c := c) (mv := mv) hh (by omega) (by omega)).2
    have hFar : LT M0 P t n how r (emb (fun p => thereB M0 p t) P s) ≠ 1073741824 := by rw [y2]; omega
    -- the model's choice
    obtain ⟨X, ⟨x1, x2, x3⟩, x4⟩ : ∃ X, (X < 1024 ∧ moB M0 P t r X = true ∧ least M0 P t n how r (emb (fun p => thereB M0 p t) P s) X) ∧ ∀ Y, Y < X → ¬ (Y < 1024 ∧ moB M0 P t r Y = true ∧ least M0 P t n how r (emb (fun p => thereB M0 p t) P s) Y) := by
      rcases (LT_is (M0 := M0) (P := P) (t := t) (how := how) (S := emb (fun p => thereB M0 p t) P s) hrn).2.2 with l3 | ⟨X, w1, w2, w3, w4, w5⟩
      · exact absurd l3 hFar
      · exact least_ex X ⟨w1, w2, w3, w4, w5.symm⟩
    -- the model's step
    have mStep : ∀ σ M f (cost moved : Nat), frM M M0 → hasS M M0 P t n → hasL M M0 P t n how 0 → ∃ M', l_X12_takes_38 (f + 1) (iN t) (iN how) (iN (emb (fun p => thereB M0 p t) P s)) (iN cost) (iN moved) (iN r) σ M = l_X12_takes_38 f (iN t) (iN how) (iN (bd (emb (fun p => thereB M0 p t) P s) X)) (iN (cost + if X = 0 then 0 else prF M0 t r)) (iN (moved + mvSum M0 t r X P)) (iN (r + 1)) σ M' ∧ (∀ p, p < P → M' 68 p = if X.testBit p then iN r else M 68 p) ∧ ∀ a j, a ≠ 68 → M' a j = M a j := fun σ M f cost moved fr hS hL => by
      obtain ⟨X', w1, w2, w3, w4, w5⟩ := first_m (σ := σ) (x5 := iN cost) (x6 := iN moved) (K := fun x1 x2 x4 x5 x6 x7 σ M => l_X12_takes_38 f x1 x2 x4 x5 x6 x7 σ M) hC hrn (elt s) hh fr hS hL hFar
      have eX : X' = X := by
        rcases Nat.lt_trichotomy X' X with z | z | z
        · exact absurd ⟨w1, w2, w3⟩ (x4 X' z)
        · exact z
        · exact absurd x3 (w4 X z x2)
      rw [eX] at w5
      obtain ⟨M', v1, v2, v3, v4⟩ := l_t102 (σ := σ) (how := how) (S := emb (fun p => thereB M0 p t) P s) (cost := cost) (mv := moved) (K := fun x1 x2 x4 x5 x6 x7 σ M => l_X12_takes_38 f x1 x2 x4 x5 x6 x7 σ M) hC hrn x1 P 0 g_FU M (by omega) (by unfold g_FU; omega) fr
      refine ⟨M', ?_, fun p hp => v2 p (Nat.zero_le _) hp, v4⟩
      rw [l_X12_takes_38, if_pos gt, iN_cl (by omega), fr 52 _ (by omega) (by omega) (by omega), c5, if_pos (by rw [iN_lt (by omega) (by omega)]; omega)]
      exact w5.trans v1
    cases hl : heldF M0 t r with
    | false =>
      have hX0 := mo_free hC hP hrn hl x2
      have ec : cf (heldF M0 t) (r + 1) = cf (heldF M0 t) r := cf_f hl
      obtain ⟨F', c', mv', i1, i2, i3, i4, i5, i6⟩ := ih (r + 1) (by omega) s hs (by rw [ec]; exact hN) F
      rw [ec] at i5
      refine ⟨F', c', mv', ?_, i2, by omega, i4, fun σ M ta len f hf => i5 σ M ta len f (by omega), fun σ M f cost moved hf fr hS hL hF => ?_⟩
      · have := x3.2.2
        rw [hX0, bd_self0, show wM M0 P t how r 0 = 0 from if_pos rfl, Nat.add_zero, i1] at this
        exact this.symm
      · obtain ⟨f, rfl⟩ : ∃ m, f = m + 1 := ⟨f - 1, by omega⟩
        obtain ⟨M1, v1, v2, v3⟩ := mStep σ M f cost moved fr hS hL
        rw [hX0, bd_self0, if_pos rfl, Nat.add_zero, mvSum_zero P (fun i _ => Nat.zero_testBit i), Nat.add_zero] at v1
        obtain ⟨M', w1, w2, w3⟩ := i6 σ M1 f cost moved (by omega) (fun a j h1 h2 h3 => by rw [v3 a j (by omega), fr a j h1 h2 h3]) (fun r hr => ⟨by rw [v3 _ _ (by omega)]; exact (hS r hr).1, fun j hj => by rw [v3 _ _ (by omega)]; exact (hS r hr).2 j hj⟩) (fun u S h1 h2 h3 => by rw [v3 _ _ (by omega)]; exact hL u S h1 h2 h3) (fun p hp => by rw [v2 p hp, hX0, Nat.zero_testBit, if_neg (by decide)]; exact hF p hp)
        exact ⟨M', v1.trans w1, w2, fun a j h => by rw [w3 a j h, v3 a j h]⟩
    | true =>
      have ec : cf (heldF M0 t) (r + 1) = cf (heldF M0 t) r + 1 := cf_t hl
      obtain ⟨hi, ei⟩ := he.inv hrn hl
      have ihR : ∀ s, s < 2 ^ cf (fun p => thereB M0 p t) P → RelV how (T (cf (heldF M0 t) r + 1) s) (LT M0 P t n how (r + 1) (emb (fun p => thereB M0 p t) P s)) (cnt s 10) (n - (r + 1)) := fun s hs => by
        have := hR k (r + 1) (by omega) s hs
        rw [ec] at this
        exact this
      have Tle := hT.2.1 (cf (heldF M0 t) r) s (by omega) hs
      have oM := fun X h1 h2 h3 => optM (X := X) hC hP hh hg he hT hrn hl hs ihR h1 h2 h3
      -- a value of the class is the row's best just when the model's is
      have same : ∀ {c' mv'}, mv' ≤ cnt s 10 → c' ≤ 1000 * (n - r) → (encC how c' mv' = T (cf (heldF M0 t) r) s ↔ encM how c' mv' = LT M0 P t n how r (emb (fun p => thereB M0 p t) P s)) := fun {c' mv'} b1 b2 => by
        rw [y1, y2]
        have e1 := enc_le (c := c') (mv := mv') (c' := c) (mv' := mv) hh (by omega) (by omega) (by omega) (by omega)
        have e2 := enc_le (c := c) (mv := mv) (c' := c') (mv' := mv') hh (by omega) (by omega) (by omega) (by omega)
        constructor
        · intro h
          have h1 := e1.mp (by omega)
          have h2 := e2.mp (by omega)
          omega
        · intro h
          have h1 := e1.mpr (by omega)
          have h2 := e2.mpr (by omega)
          omega
      -- the class's pairs that are best are the model's
      have good_least : ∀ a b, b ≤ a → a < cf (fun p => thereB M0 p t) P → goodC (okW M0 t g e (cf (heldF M0 t) r)) (wW M0 t g e how (cf (heldF M0 t) r)) (T (cf (heldF M0 t) r)) (T (cf (heldF M0 t) r + 1)) s a b → 2 ^ g a ||| 2 ^ g b < 1024 ∧ moB M0 P t r (2 ^ g a ||| 2 ^ g b) = true ∧ least M0 P t n how r (emb (fun p => thereB M0 p t) P s) (2 ^ g a ||| 2 ^ g b) := fun a b hba ha hgd => by
        obtain ⟨d1, d2, d3⟩ := hgd
        have hc : condP M0 t r (g a) (g b) := by unfold okW at d1; rw [ei] at d1; exact d1
        have hF : T (cf (heldF M0 t) r + 1) (bd s (2 ^ a ||| 2 ^ b)) ≠ 268435456 := fun q => by rw [q] at d3; omega
        obtain ⟨o1, o2, o3, o4⟩ := optC hC hP hh hg he hrn hl hs ihR hba ha hc d2 hF
        obtain ⟨c', mv', p1, p2, p3, p4, p5⟩ := oM _ o1 o2 o3
        refine ⟨o4, o1, o2, o3, ?_⟩
        rcases p5 with ⟨p5, _⟩ | ⟨a', b', q1, q2, q3, q4, q5, q6⟩
        · exact absurd p5 (pair_nz _ _)
        · obtain ⟨ea, eb⟩ := pair_inj hg hba ha q1 q2 q4
          rw [← ea, ← eb, d3] at q6
          rw [p1]
          exact (same p2 p3).mp q6.symm
      obtain ⟨c', mv', p1, p2, p3, p4, p5⟩ := oM X x2 x3.1 x3.2.1
      have pE : encC how c' mv' = T (cf (heldF M0 t) r) s := (same p2 p3).mpr (by rw [← p1]; exact x3.2.2)
      -- the class's set
      obtain ⟨x, hx, ex, hxs, hTx, hxf, hcx⟩ : ∃ x, x < 2 ^ cf (fun p => thereB M0 p t) P ∧ emb (fun p => thereB M0 p t) P x = X ∧ bd x s = 0 ∧ T (cf (heldF M0 t) r + 1) (bd s x) ≠ 268435456 ∧ (∀ σ M ta len, hasW σ M M0 t (cf (fun p => thereB M0 p t) P) (cf (heldF M0 t) n) g e how → σ.2 12 13 = ta → σ.1 ta = some (14, len) → len < 100000 → (cf (heldF M0 t) n + 1) * 2 ^ cf (fun p => thereB M0 p t) P ≤ len → hasT M ta (cf (fun p => thereB M0 p t) P) (cf (heldF M0 t) n) T → f_X9_firstSetOf (iN (cf (heldF M0 t) r)) (iN s) σ M = some (iN x)) ∧ mvSum M0 t r X P ≤ cnt x 10 := by
        rcases p5 with ⟨hX0, p5⟩ | ⟨a, b, q1, q2, q3, q4, q5, q6⟩
        · refine ⟨0, Nat.two_pow_pos _, by rw [emb_zero, hX0], bd_0s s, by rw [bd_self0, p5, pE]; exact hN, fun σ M ta len hW h1 h2 h3 h4 hV => ?_, by rw [hX0, mvSum_zero P (fun i _ => Nat.zero_testBit i)]; exact Nat.zero_le _⟩
          rcases first_c hW hi hs h1 h2 h3 h4 hT hV with ⟨_, w⟩ | ⟨w, _⟩
          · exact w
          · exact absurd (by rw [p5, pE]) w
        · have hxl := pair_lt q2 (show b < cf (fun p => thereB M0 p t) P by omega)
          have exX := emb_pair hg q2 (show b < cf (fun p => thereB M0 p t) P by omega)
          have okab : okW M0 t g e (cf (heldF M0 t) r) a b := by unfold okW; rw [ei]; exact q3
          have gd : goodC (okW M0 t g e (cf (heldF M0 t) r)) (wW M0 t g e how (cf (heldF M0 t) r)) (T (cf (heldF M0 t) r)) (T (cf (heldF M0 t) r + 1)) s a b := ⟨okab, q5, by rw [q6, pE]⟩
          refine ⟨2 ^ a ||| 2 ^ b, hxl, by rw [exX, q4], q5, fun z => by rw [z] at q6; omega, fun σ M ta len hW h1 h2 h3 h4 hV => ?_, ?_⟩
          · rcases first_c hW hi hs h1 h2 h3 h4 hT hV with ⟨w, _⟩ | ⟨_, a0, k0, w1, w2, w3, w4, w5, w6⟩
            · -- then the model would have taken nobody
              exfalso
              have hz : T (cf (heldF M0 t) r + 1) s ≠ 268435456 := by rw [w]; exact hN
              rcases ihR s hs with ⟨v1, _⟩ | ⟨c2, mv2, v1, v2, v3, v4⟩
              · exact hz v1
              · have e2 := (same v3 (show c2 ≤ 1000 * (n - r) by omega)).mp (by rw [← v1, w])
                have lt3 := (enc_lt (c := c2) (mv := mv2) hh (by omega) (by omega)).2
                have hXpos : 0 < X := by
                  have := pair_nz (g a) (g b)
                  rw [← q4] at this
                  omega
                refine x4 0 hXpos ⟨by omega, mo_zero M0 P t r, bd_0s _, ?_, ?_⟩
                · rw [bd_self0, v2]; omega
                · rw [bd_self0, v2, show wM M0 P t how r 0 = 0 from if_pos rfl, Nat.add_zero]; exact e2
            · have hb0 : bO a0 k0 ≤ a0 := by unfold bO; split <;> omega
              have gl := good_least a0 (bO a0 k0) hb0 w1 w3
              obtain ⟨kk, hkk, ekk⟩ := bO_all q1
              have ord : a0 < a ∨ (a0 = a ∧ k0 ≤ kk) := by
                rcases Nat.lt_trichotomy a0 a with z | z | z
                · exact Or.inl z
                · refine Or.inr ⟨z, ?_⟩
                  rcases Nat.lt_or_ge kk k0 with z2 | z2
                  · have := w4 kk z2
                    rw [z, ekk] at this
                    exact absurd gd this
                  · exact z2
                · exact absurd gd (w5 a b z q1)
              have le1 := pair_le hg w1 q2 w2 hkk ord
              rw [ekk, ← q4] at le1
              have le2 : X ≤ 2 ^ g a0 ||| 2 ^ g (bO a0 k0) := by
                rcases Nat.lt_or_ge (2 ^ g a0 ||| 2 ^ g (bO a0 k0)) X with z | z
                · exact absurd gl (x4 _ z)
                · exact z
              obtain ⟨ea, eb⟩ := pair_inj hg hb0 w1 q1 q2 (show 2 ^ g a0 ||| 2 ^ g (bO a0 k0) = 2 ^ g a ||| 2 ^ g b by rw [← q4]; omega)
              rw [w6, eb, ea]
          · have gab : (g a = g b) ↔ a = b := ⟨fun z => by
              by_cases w : b = a
              · exact w.symm
              · have := hg.lt (show b < a by omega) q2; omega, fun z => by rw [z]⟩
            rw [q4, mvSum_pair (hg.le q1 q2) P (hg a q2).1]
            exact mvX_cnt (by omega) (by omega) gab
      clear p5
      have hsx : bd s x < 2 ^ cf (fun p => thereB M0 p t) P := bd_ltp hs
      have eS' : emb (fun p => thereB M0 p t) P (bd s x) = bd (emb (fun p => thereB M0 p t) P s) X := by rw [emb_bd, ex]
      obtain ⟨F', c1, mv1, i1, i2, i3, i4, i5, i6⟩ := ih (r + 1) (by omega) (bd s x) hsx (by rw [ec]; exact hTx) (fun p => if X.testBit p then iN r else F p)
      rw [eS'] at i1 i6
      have hsp := cnt_split hxs 10
      have hpr := (c6 r hrn).2.2.2.2
      have hdd : (if X = 0 then 0 else prF M0 t r) ≤ 1000 := by
        by_cases c0 : X = 0
        · rw [if_pos c0]; exact Nat.zero_le _
        · rw [if_neg c0]; exact hpr
      have hx10 : x < 1024 := Nat.lt_of_lt_of_le hx (Nat.le_trans (Nat.pow_le_pow_right (by omega) (show cf (fun p => thereB M0 p t) P ≤ 10 by omega)) (by decide))
      have xbit : ∀ p, X.testBit p = (decide (p < P) && (thereB M0 p t && x.testBit (cf (fun p => thereB M0 p t) p))) := fun p => by rw [← ex]; exact emb_bit _ _ _ _
      refine ⟨F', (if X = 0 then 0 else prF M0 t r) + c1, mvSum M0 t r X P + mv1, ?_, by omega, by omega, fun p => ?_, fun σ M ta len f hf hW h1 h2 h3 h4 h5 hV hF => ?_, fun σ M f cost moved hf fr hS hL hF => ?_⟩
      · have := x3.2.2
        rw [i1] at this
        rw [← this]
        unfold wM
        by_cases c0 : X = 0
        · rw [if_pos c0, if_pos c0, c0, mvSum_zero P (fun i _ => Nat.zero_testBit i), Nat.zero_add, Nat.zero_add, Nat.add_zero]
        · rw [if_neg c0, if_neg c0, Nat.add_comm, (enc_add hh).2]
      · rcases i4 p with z | z
        · rw [z]
          cases e : X.testBit p with
          | false => exact Or.inl (if_neg (by decide))
          | true =>
            refine Or.inr ⟨r, hrn, ?_, if_pos rfl⟩
            rw [xbit p, Bool.and_eq_true] at e
            exact of_decide_eq_true e.1
        · exact Or.inr z
      · obtain ⟨f, rfl⟩ : ∃ m, f = m + 1 := ⟨f - 1, by omega⟩
        obtain ⟨M1, v1, v2, v3, v4⟩ := l_rp50 (σ := σ) (s := s) (K := fun x1 x2 σ M => l_X9_readPlan_32 f x1 x2 σ M) hi hx10 (cf (fun p => thereB M0 p t) P) 0 g_FU M (by omega) (by unfold g_FU; omega) hW
        rw [ec] at i5
        obtain ⟨M', w1, w2, w3⟩ := i5 σ M1 ta len f (by omega) (hW.keep' ht (fun a j h => v4 a j (by omega))) h1 h2 h3 h4 h5 (fun i s hi hs => by rw [v4 _ _ h5]; exact hV i s hi hs) (fun p hp => by
          show M1 13 p = if X.testBit p then iN r else F p
          cases e : X.testBit p with
          | true =>
            rw [if_pos rfl]
            rw [xbit p, Bool.and_eq_true, Bool.and_eq_true] at e
            obtain ⟨n1, n2⟩ := hg.inv (of_decide_eq_true e.1) e.2.1
            have := v2 _ (Nat.zero_le _) n1 e.2.2
            rw [n2, ei] at this
            exact this
          | false =>
            rw [if_neg (by decide), v3 p (fun u _ hu hb q => ?_)]
            · exact hF p hp
            · have gu := hg u hu
              rw [xbit p, ← q, decide_eq_true gu.1, show thereB M0 (g u) t = true from gu.2.1, gu.2.2, hb] at e
              exact absurd e (by decide))
        refine ⟨M', ?_, w2, fun a j h => by rw [w3 a j h, v4 a j h]⟩
        rw [l_X9_readPlan_32, hW.2.1.1, if_pos (by rw [iN_lt (by omega) (by omega)]; omega), hxf σ M ta len hW h1 h2 h3 h4 hV, oB]
        exact v1.trans w1
      · obtain ⟨f, rfl⟩ : ∃ m, f = m + 1 := ⟨f - 1, by omega⟩
        obtain ⟨M1, v1, v2, v3⟩ := mStep σ M f cost moved fr hS hL
        obtain ⟨M', w1, w2, w3⟩ := i6 σ M1 f (cost + if X = 0 then 0 else prF M0 t r) (moved + mvSum M0 t r X P) (by omega) (fun a j h1 h2 h3 => by rw [v3 a j (by omega), fr a j h1 h2 h3]) (fun r hr => ⟨by rw [v3 _ _ (by omega)]; exact (hS r hr).1, fun j hj => by rw [v3 _ _ (by omega)]; exact (hS r hr).2 j hj⟩) (fun u S h1 h2 h3 => by rw [v3 _ _ (by omega)]; exact hL u S h1 h2 h3) (fun p hp => by rw [v2 p hp, hF p hp])
        refine ⟨M', ?_, w2, fun a j h => by rw [w3 a j h, v3 a j h]⟩
        rw [v1, w1, Nat.add_assoc, Nat.add_assoc]
