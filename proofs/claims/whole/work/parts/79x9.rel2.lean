/-! settle: the two tables tell the same: all rows. -/
theorem emb_pair {f : Nat → Bool} {n : Nat} {g : Nat → Nat} (hg : nth f n g) {a b : Nat} (ha : a < cf f n) (hb : b < cf f n) : emb f n (2 ^ a ||| 2 ^ b) = 2 ^ g a ||| 2 ^ g b := by
  rw [emb_or, emb_pow hg ha, emb_pow hg hb]
theorem optM {M0 : gM} {P t n how r s X : Nat} {g e : Nat → Nat} {T : Nat → Nat → Nat} (hC : mCx M0 P t n) (hP : vP M0 P) (hh : how ≤ 1) (hg : nth (fun p => thereB M0 p t) P g) (he : nth (heldF M0 t) n e) (hT : isTab (cf (fun p => thereB M0 p t) P) (cf (heldF M0 t) n) (okW M0 t g e) (wW M0 t g e how) T) (hr : r < n) (hl : heldF M0 t r = true) (hs : s < 2 ^ cf (fun p => thereB M0 p t) P) (ih : ∀ s, s < 2 ^ cf (fun p => thereB M0 p t) P → RelV how (T (cf (heldF M0 t) r + 1) s) (LT M0 P t n how (r + 1) (emb (fun p => thereB M0 p t) P s)) (cnt s 10) (n - (r + 1))) (hX : moB M0 P t r X = true) (hXs : bd X (emb (fun p => thereB M0 p t) P s) = 0) (hF : LT M0 P t n how (r + 1) (bd (emb (fun p => thereB M0 p t) P s) X) ≠ 1073741824) : ∃ c mv, LT M0 P t n how (r + 1) (bd (emb (fun p => thereB M0 p t) P s) X) + wM M0 P t how r X = encM how c mv ∧ mv ≤ cnt s 10 ∧ c ≤ 1000 * (n - r) ∧ T (cf (heldF M0 t) r) s ≤ encC how c mv ∧ ((X = 0 ∧ T (cf (heldF M0 t) r + 1) s = encC how c mv) ∨ ∃ a b, b ≤ a ∧ a < cf (fun p => thereB M0 p t) P ∧ condP M0 t r (g a) (g b) ∧ X = 2 ^ g a ||| 2 ^ g b ∧ bd (2 ^ a ||| 2 ^ b) s = 0 ∧ wW M0 t g e how (cf (heldF M0 t) r) a b + T (cf (heldF M0 t) r + 1) (bd s (2 ^ a ||| 2 ^ b)) = encC how c mv) := by
  have hP10 := hC.1
  have hm := cf_le (fun p => thereB M0 p t) P
  obtain ⟨hi, ei⟩ := he.inv hr hl
  obtain ⟨z1, z2, z3⟩ := hT.2.2 (cf (heldF M0 t) r) s hi hs
  by_cases c0 : X = 0
  · rw [c0, bd_self0] at hF ⊢
    rcases ih s hs with ⟨_, y2⟩ | ⟨c, mv, y1, y2, y3, y4⟩
    · exact absurd y2 hF
    · refine ⟨c, mv, ?_, y3, by omega, by rw [y1] at z1; exact z1, Or.inl ⟨rfl, y1⟩⟩
      rw [y2]
      show encM how c mv + (if (0 : Nat) = 0 then 0 else _) = _
      rw [if_pos rfl, Nat.add_zero]
  · obtain ⟨p, q, h1, h2, h3, h4, h5⟩ := mo_inv hC hr hX c0
    obtain ⟨p1, p2⟩ := hg.inv h2 h3
    obtain ⟨q1, q2⟩ := hg.inv (show q < P by omega) h4
    have hba : cf (fun p => thereB M0 p t) q ≤ cf (fun p => thereB M0 p t) p := cf_mono _ h1
    generalize hag : cf (fun p => thereB M0 p t) p = a at *
    generalize hbg : cf (fun p => thereB M0 p t) q = b at *
    have eX : emb (fun p => thereB M0 p t) P (2 ^ a ||| 2 ^ b) = X := by rw [emb_pair hg p1 q1, p2, q2, h5]
    have hx := pair_lt p1 q1
    have hxs : bd (2 ^ a ||| 2 ^ b) s = 0 := (emb_sub hx).mpr (by rw [eX]; exact hXs)
    have eS' : bd (emb (fun p => thereB M0 p t) P s) X = emb (fun p => thereB M0 p t) P (bd s (2 ^ a ||| 2 ^ b)) := by rw [emb_bd, eX]
    have hc := (mo_pair hC hP hr h2 (show q < P by omega) h3 h4).mp (by rw [← h5]; exact hX)
    rw [eS'] at hF ⊢
    have hsp := cnt_split hxs 10
    have gab : (p = q) ↔ a = b := ⟨fun e => by rw [← hag, ← hbg, e], fun e => by rw [← p2, ← q2, e]⟩
    have hmv := mvX_cnt (M := M0) (t := t) (r := r) (show a < 10 by omega) (show b < 10 by omega) gab
    have hpr := (hC.2.2.2.2.2 r hr).2.2.2.2
    rcases ih (bd s (2 ^ a ||| 2 ^ b)) (bd_ltp hs) with ⟨_, y2⟩ | ⟨c, mv, y1, y2, y3, y4⟩
    · exact absurd y2 hF
    · have ew : wW M0 t g e how (cf (heldF M0 t) r) a b = encC how (prF M0 t r) (mvX M0 t r p q) := by unfold wW; rw [ei, p2, q2]
      refine ⟨prF M0 t r + c, mvX M0 t r p q + mv, ?_, by omega, by omega, ?_, Or.inr ⟨a, b, hba, p1, by rw [p2, q2]; exact hc.2, by rw [p2, q2]; exact h5, hxs, ?_⟩⟩
      · rw [y2]
        unfold wM
        rw [if_neg c0, h5, mvSum_pair h1 P h2, Nat.add_comm, (enc_add hh).2]
      · rw [← (enc_add hh).1, ← ew, ← y1]
        exact z2 a b hba p1 (by unfold okW; rw [ei, p2, q2]; exact hc.2) hxs
      · rw [ew, y1, (enc_add hh).1]
theorem optC {M0 : gM} {P t n how r s a b : Nat} {g e : Nat → Nat} {T : Nat → Nat → Nat} (hC : mCx M0 P t n) (hP : vP M0 P) (hh : how ≤ 1) (hg : nth (fun p => thereB M0 p t) P g) (he : nth (heldF M0 t) n e) (hr : r < n) (hl : heldF M0 t r = true) (hs : s < 2 ^ cf (fun p => thereB M0 p t) P) (ih : ∀ s, s < 2 ^ cf (fun p => thereB M0 p t) P → RelV how (T (cf (heldF M0 t) r + 1) s) (LT M0 P t n how (r + 1) (emb (fun p => thereB M0 p t) P s)) (cnt s 10) (n - (r + 1))) (hba : b ≤ a) (ha : a < cf (fun p => thereB M0 p t) P) (hc : condP M0 t r (g a) (g b)) (hxs : bd (2 ^ a ||| 2 ^ b) s = 0) (hF : T (cf (heldF M0 t) r + 1) (bd s (2 ^ a ||| 2 ^ b)) ≠ 268435456) : moB M0 P t r (2 ^ g a ||| 2 ^ g b) = true ∧ bd (2 ^ g a ||| 2 ^ g b) (emb (fun p => thereB M0 p t) P s) = 0 ∧ LT M0 P t n how (r + 1) (bd (emb (fun p => thereB M0 p t) P s) (2 ^ g a ||| 2 ^ g b)) ≠ 1073741824 ∧ 2 ^ g a ||| 2 ^ g b < 1024 := by
  have hP10 := hC.1
  have hm := cf_le (fun p => thereB M0 p t) P
  have ga := hg a ha
  have gb := hg b (by omega)
  have eX := emb_pair hg ha (show b < cf (fun p => thereB M0 p t) P by omega)
  have hx := pair_lt ha (show b < cf (fun p => thereB M0 p t) P by omega)
  refine ⟨(mo_pair hC hP hr ga.1 gb.1 ga.2.1 gb.2.1).mpr ⟨hl, hc⟩, by rw [← eX]; exact (emb_sub hx).mp hxs, ?_, Nat.lt_of_lt_of_le (pair_lt ga.1 gb.1) (Nat.le_trans (Nat.pow_le_pow_right (by omega) hP10) (by decide))⟩
  rw [← eX, ← emb_bd]
  rcases ih (bd s (2 ^ a ||| 2 ^ b)) (bd_ltp hs) with ⟨y1, _⟩ | ⟨c, mv, y1, y2, y3, y4⟩
  · exact absurd y1 hF
  · have h10 := cnt_le (bd s (2 ^ a ||| 2 ^ b)) 10
    have := (enc_lt (c := c) (mv := mv) hh (by omega) (by have := hC.2.2.1; omega)).2
    rw [y2]; omega
theorem rel_tab {M0 : gM} {P t n how : Nat} {g e : Nat → Nat} {T : Nat → Nat → Nat} (hC : mCx M0 P t n) (hP : vP M0 P) (hh : how ≤ 1) (hg : nth (fun p => thereB M0 p t) P g) (he : nth (heldF M0 t) n e) (hT : isTab (cf (fun p => thereB M0 p t) P) (cf (heldF M0 t) n) (okW M0 t g e) (wW M0 t g e how) T) : ∀ k r, r + k = n → ∀ s, s < 2 ^ cf (fun p => thereB M0 p t) P → RelV how (T (cf (heldF M0 t) r) s) (LT M0 P t n how r (emb (fun p => thereB M0 p t) P s)) (cnt s 10) (n - r) := by
  have hP10 := hC.1
  have hn := hC.2.2.1
  have hm := cf_le (fun p => thereB M0 p t) P
  have elt : ∀ s, emb (fun p => thereB M0 p t) P s < 1024 := fun s => Nat.lt_of_lt_of_le (emb_lt _ P s) (Nat.le_trans (Nat.pow_le_pow_right (by omega) hP10) (by decide))
  intro k
  induction k with
  | zero =>
    intro r hr s hs
    obtain rfl : r = n := by omega
    rw [hT.1 s hs, LT_n]
    by_cases c : s = 0
    · rw [if_pos c, c, emb_zero, if_pos rfl]
      refine Or.inr ⟨0, 0, ?_, ?_, by omega, by omega⟩
      · unfold encC; split; rfl; split <;> rfl
      · unfold encM; split <;> rfl
    · rw [if_neg c, if_neg (fun q => c (emb_nz hs q))]
      exact Or.inl ⟨rfl, rfl⟩
  | succ k ih =>
    intro r hr s hs
    have ih' := ih (r + 1) (by omega)
    obtain ⟨l1, l2, l3⟩ := LT_is (M0 := M0) (P := P) (t := t) (how := how) (S := emb (fun p => thereB M0 p t) P s) (show r < n by omega)
    have h10 := cnt_le s 10
    cases hl : heldF M0 t r with
    | false =>
      have e0 : LT M0 P t n how r (emb (fun p => thereB M0 p t) P s) = LT M0 P t n how (r + 1) (emb (fun p => thereB M0 p t) P s) := by
        have z := l2 0 (by omega) (mo_zero M0 P t r) (bd_0s _)
        rw [bd_self0] at z
        have w0 : wM M0 P t how r 0 = 0 := if_pos rfl
        rw [w0, Nat.add_zero] at z
        have lle := LT_le (M0 := M0) (P := P) (t := t) (how := how) (S := emb (fun p => thereB M0 p t) P s) (show r + 1 ≤ n by omega)
        rcases l3 with l3 | ⟨X, x1, x2, x3, x4, x5⟩
        · by_cases c : LT M0 P t n how (r + 1) (emb (fun p => thereB M0 p t) P s) = 1073741824
          · rw [l3, c]
          · have := z c; omega
        · have hX := mo_free hC hP (show r < n by omega) hl x2
          rw [hX, bd_self0, w0, Nat.add_zero] at x5
          exact x5
      have := ih' s hs
      rw [cf_f hl] at this
      rw [e0]
      rcases this with y | ⟨c, mv, y1, y2, y3, y4⟩
      · exact Or.inl y
      · exact Or.inr ⟨c, mv, y1, y2, y3, by omega⟩
    | true =>
      rw [cf_t hl] at ih'
      obtain ⟨hi, ei⟩ := he.inv (show r < n by omega) hl
      obtain ⟨z1, z2, z3⟩ := hT.2.2 (cf (heldF M0 t) r) s hi hs
      have zle := hT.2.1 (cf (heldF M0 t) r) s (by omega) hs
      have oM := fun X h1 h2 h3 => optM (X := X) hC hP hh hg he hT (show r < n by omega) hl hs ih' h1 h2 h3
      by_cases cN : T (cf (heldF M0 t) r) s = 268435456
      · refine Or.inl ⟨cN, ?_⟩
        rcases l3 with l3 | ⟨X, x1, x2, x3, x4, x5⟩
        · exact l3
        · obtain ⟨c, mv, y1, y2, y3, y4, _⟩ := oM X x2 x3 x4
          have := (enc_lt (c := c) (mv := mv) hh (by omega) (by omega)).1
          omega
      · have key : ∃ c mv, T (cf (heldF M0 t) r) s = encC how c mv ∧ mv ≤ cnt s 10 ∧ c ≤ 1000 * (n - r) ∧ LT M0 P t n how r (emb (fun p => thereB M0 p t) P s) ≤ encM how c mv := by
          rcases z3 with z3 | ⟨a, b, a1, a2, a3, a4, a5⟩
          · rcases ih' s hs with ⟨y1, _⟩ | ⟨c, mv, y1, y2, y3, y4⟩
            · rw [z3, y1] at cN; exact absurd rfl cN
            · refine ⟨c, mv, by rw [z3, y1], y3, by omega, ?_⟩
              have lt2 := (enc_lt (c := c) (mv := mv) hh (by omega) (by omega)).2
              have := l2 0 (by omega) (mo_zero M0 P t r) (bd_0s _) (by rw [bd_self0, y2]; omega)
              rw [bd_self0, show wM M0 P t how r 0 = 0 from if_pos rfl, Nat.add_zero, y2] at this
              exact this
          · have hF : T (cf (heldF M0 t) r + 1) (bd s (2 ^ a ||| 2 ^ b)) ≠ 268435456 := fun q => by rw [q] at a5; omega
            have hc : condP M0 t r (g a) (g b) := by unfold okW at a3; rw [ei] at a3; exact a3
            obtain ⟨o1, o2, o3, o4⟩ := optC hC hP hh hg he (show r < n by omega) hl hs ih' a1 a2 hc a4 hF
            obtain ⟨c, mv, y1, y2, y3, y4, y5⟩ := oM _ o1 o2 o3
            have le := l2 _ o4 o1 o2 o3
            rcases y5 with ⟨y5, _⟩ | ⟨a', b', b1, b2, b3, b4, b5, b6⟩
            · exact absurd y5 (pair_nz _ _)
            · -- the same pair
              have ga := hg a a2
              have gb := hg b (by omega)
              have ga' := hg a' b2
              have gb' := hg b' (by omega)
              have ebit : ∀ i, (2 ^ g a ||| 2 ^ g b).testBit i = (2 ^ g a' ||| 2 ^ g b').testBit i := fun i => by rw [b4]
              have e1 := hg.le a1 a2
              have e2 := hg.le b1 b2
              have k1 := ebit (g a)
              have k2 := ebit (g b)
              have k3 := ebit (g a')
              have k4 := ebit (g b')
              rw [pair_bit, pair_bit, decide_eq_true (show g a = g a from rfl), Bool.true_or] at k1
              rw [pair_bit, pair_bit, decide_eq_true (show g b = g b from rfl), Bool.or_true] at k2
              rw [pair_bit, pair_bit, decide_eq_true (show g a' = g a' from rfl), Bool.true_or] at k3
              rw [pair_bit, pair_bit, decide_eq_true (show g b' = g b' from rfl), Bool.or_true] at k4
              have k1' := Bool.or_eq_true .. ▸ k1.symm
              have k2' := Bool.or_eq_true .. ▸ k2.symm
              have k3' := Bool.or_eq_true .. ▸ k3
              have k4' := Bool.or_eq_true .. ▸ k4
              simp only [decide_eq_true_iff] at k1' k2' k3' k4'
              have eaa : g a = g a' := by omega
              have ebb : g b = g b' := by omega
              have ha' : a = a' := by have h1 := ga.2.2; have h2 := ga'.2.2; rw [eaa] at h1; omega
              have hb' : b = b' := by have h1 := gb.2.2; have h2 := gb'.2.2; rw [ebb] at h1; omega
              rw [← ha', ← hb'] at b6
              exact ⟨c, mv, by rw [a5, b6], y2, y3, by rw [← y1]; exact le⟩
        obtain ⟨c, mv, v1, v2, v3, v4⟩ := key
        refine Or.inr ⟨c, mv, v1, ?_, v2, v3⟩
        have lt2 := (enc_lt (c := c) (mv := mv) hh (by omega) (by omega)).2
        rcases l3 with l3 | ⟨X, x1, x2, x3, x4, x5⟩
        · omega
        · obtain ⟨c', mv', y1, y2, y3, y4, _⟩ := oM X x2 x3 x4
          rw [v1] at y4
          have := (enc_le hh (by omega) (by omega) (by omega) (by omega)).mp y4
          rw [x5, y1] at v4 ⊢
          omega
/-- who can be in rooms has beds -/
theorem LT_beds {M0 : gM} {P t n how : Nat} (hC : mCx M0 P t n) (hP : vP M0 P) : ∀ k r, r + k = n → ∀ S, S < 1024 → LT M0 P t n how r S ≠ 1073741824 → cnt S 10 + bsum (heldF M0 t) (bF M0 t) r ≤ bsum (heldF M0 t) (bF M0 t) n := by
  intro k
  induction k with
  | zero =>
    intro r hr S hS h
    obtain rfl : r = n := by omega
    rw [LT_n] at h
    by_cases c : S = 0
    · rw [c, cnt_zero (fun p _ => Nat.zero_testBit p)]; omega
    · rw [if_neg c] at h; exact absurd rfl h
  | succ k ih =>
    intro r hr S hS h
    obtain ⟨l1, l2, l3⟩ := LT_is (M0 := M0) (P := P) (t := t) (how := how) (S := S) (show r < n by omega)
    rcases l3 with l3 | ⟨X, x1, x2, x3, x4, x5⟩
    · exact absurd l3 h
    · have e := ih (r + 1) (by omega) (bd S X) (bd_ltp (n := 10) hS) x4
      rw [bsum] at e
      have hs := cnt_split x3 10
      obtain ⟨h1, h2, h3, h4⟩ := moB_of x2
      have hP10 := hC.1
      have e10 : cnt X 10 = cnt X P := cnt_more hP10 (fun p q1 q2 => by
        cases c : X.testBit p with
        | false => rfl
        | true => have := (h1 p c).1; omega)
      cases hl : heldF M0 t r with
      | true => rw [hl, if_pos rfl] at e; omega
      | false =>
        have := mo_free hC hP (show r < n by omega) hl x2
        rw [hl, if_neg (by decide)] at e
        rw [this, cnt_zero (fun p _ => Nat.zero_testBit p)] at hs
        rw [this] at e
        omega
