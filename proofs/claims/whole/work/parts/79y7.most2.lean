/-! most: the model, and the call. -/
theorem l_m24 {σ : gS} {x2 : Int32} : ∀ k i f M, i + k = 11264 → k < f → (∀ j, j < i → M 69 j = bI (decide (j = 0))) → ∃ M', l_X12_most_24 f x2 (iN i) σ M = l_X12_most_54 g_FU x2 0 σ M' ∧ (∀ j, j < 11264 → M' 69 j = bI (decide (j = 0))) ∧ ∀ a j, a ≠ 69 → M' a j = M a j := by
  intro k
  induction k with
  | zero =>
    intro i f M hi hf hd
    obtain ⟨f, rfl⟩ : ∃ m, f = m + 1 := ⟨f - 1, by omega⟩
    obtain rfl : i = 11264 := by omega
    refine ⟨M, ?_, hd, fun _ _ _ => rfl⟩
    rw [l_X12_most_24, if_neg (by decide)]
  | succ k ih =>
    intro i f M hi hf hd
    obtain ⟨f, rfl⟩ : ∃ m, f = m + 1 := ⟨f - 1, by omega⟩
    have gi : g_in (iN i) 11264 = true := by rw [iN_in (by omega)]; omega
    obtain ⟨M', q1, q2, q3⟩ := ih (i + 1) f (g_up M 69 i (bI (decide (i = 0)))) (by omega) (by omega) (fun j hj => by
      by_cases c : j = i
      · rw [c, g_up_eq _ _ ⟨rfl, rfl⟩]
      · rw [g_up_ne _ _ (by omega)]; exact hd j (by omega))
    refine ⟨M', ?_, q2, fun a j h => by rw [q3 a j h, g_up_ne _ _ (by omega)]⟩
    rw [l_X12_most_24, if_pos (show iN i < (11264 : Int32) by rw [show (11264 : Int32) = iN 11264 from rfl, iN_lt (by omega) (by omega)]; omega)]
    unfold b_X12_most_45
    rw [eS, if_pos gi, if_pos gi, iN_cl (by omega)]
    by_cases c : i = 0
    · rw [if_pos (show iN i = (0 : Int32) by rw [c]; rfl), show vp_nar .boolean 1 = iN 1 from nar_1]
      rw [decide_eq_true c] at q1
      exact q1
    · rw [if_neg (show ¬ iN i = (0 : Int32) by rw [show (0 : Int32) = iN 0 from rfl, iN_inj (by omega) (by omega)]; exact c), show vp_nar .boolean 0 = iN 0 from nar_0]
      rw [decide_eq_false c] at q1
      exact q1
theorem fw_lt {M0 : gM} {P t r S : Nat} (hP10 : P ≤ 10) (h : fwP M0 P t r S) : S < 1024 := by
  have := fw_all r S h
  have h2 : S < 2 ^ 10 := Nat.lt_pow_two_of_testBit S (fun i hi => by
    cases c : S.testBit i with
    | false => rfl
    | true => have := (this i c).1; omega)
  exact h2
def hasF (M M0 : gM) (P t n r : Nat) : Prop := (∀ u S, u ≤ r → S < 1024 → M 69 (1024 * u + S) = bI (bP (fwP M0 P t u S))) ∧ ∀ u S, r < u → u ≤ n → S < 1024 → M 69 (1024 * u + S) = bI false
def reachQ (M0 : gM) (P t r S Y : Nat) : Prop := ∃ S0 X, S0 < S ∧ fwP M0 P t r S0 ∧ X ∈ mlist M0 P t r ∧ S0 &&& X = 0 ∧ Y = S0 ||| X
def hasY (M M0 : gM) (P t n r : Nat) (Q : Nat → Prop) : Prop := (∀ u S, u ≤ r → S < 1024 → M 69 (1024 * u + S) = bI (bP (fwP M0 P t u S))) ∧ (∀ Y, Y < 1024 → M 69 (1024 * (r + 1) + Y) = bI (bP (Q Y))) ∧ ∀ u S, r + 1 < u → u ≤ n → S < 1024 → M 69 (1024 * u + S) = bI false
theorem hasY.iff {M M0 : gM} {P t n r : Nat} {Q Q' : Nat → Prop} (h : hasY M M0 P t n r Q) (k : ∀ Y, Y < 1024 → (Q Y ↔ Q' Y)) : hasY M M0 P t n r Q' := ⟨h.1, fun Y hY => by rw [h.2.1 Y hY, bP_iff (k Y hY)], h.2.2⟩
theorem l_m92 {σ : gS} {M0 : gM} {P t n r S : Nat} {x2 : Int32} {K54 : Int32 → Int32 → gS → gM → Option (Int32 × gM)} {K62 : Int32 → Int32 → Int32 → gS → gM → Option (Int32 × gM)} (hC : mCx M0 P t n) (hr : r < n) (hS : S < 1024) (hfw : fwP M0 P t r S) : ∀ k j f M, j + k = (mlist M0 P t r).length → k < f → hasS M M0 P t n → hasY M M0 P t n r (fun Y => reachQ M0 P t r S Y ∨ ∃ i, i < j ∧ S &&& (mlist M0 P t r).getD i 0 = 0 ∧ Y = S ||| (mlist M0 P t r).getD i 0) → ∃ M', l_X12_most_92 K54 K62 f x2 (iN r) (iN S) (iN j) σ M = K62 x2 (iN r) (iN (S + 1)) σ M' ∧ hasY M' M0 P t n r (reachQ M0 P t r (S + 1)) ∧ ∀ a j, a ≠ 69 → M' a j = M a j := by
  have hC' := hC
  obtain ⟨c1, c2, c3, c4, c5, c6⟩ := hC'
  have gr : g_in (iN r) 10 = true := by rw [iN_in (by omega)]; omega
  have hl' : (mlist M0 P t r).length ≤ 56 := mo_len hC hr (Nat.le_refl 1024)
  have gD : ∀ j, (h : j < (mlist M0 P t r).length) → (mlist M0 P t r).getD j 0 = (mlist M0 P t r)[j] := fun j h => by simp [List.getD, List.getElem?_eq_getElem h]
  intro k
  induction k with
  | zero =>
    intro j f M hj hf hs hY
    obtain ⟨f, rfl⟩ : ∃ m, f = m + 1 := ⟨f - 1, by omega⟩
    refine ⟨M, ?_, hY.iff (fun Y hY' => ?_), fun _ _ _ => rfl⟩
    · rw [l_X12_most_92, if_pos gr, iN_cl (by omega), (hs r hr).1, if_neg (by rw [iN_lt (by omega) (by omega)]; omega)]
      unfold b_X12_most_156
      rw [eS]
    · constructor
      · rintro (⟨S0, X, h1, h2, h3, h4, h5⟩ | ⟨i, h1, h2, h3⟩)
        · exact ⟨S0, X, by omega, h2, h3, h4, h5⟩
        · exact ⟨S, _, by omega, hfw, by rw [gD i (by omega)]; exact List.getElem_mem _, h2, h3⟩
      · rintro ⟨S0, X, h1, h2, h3, h4, h5⟩
        by_cases e : S0 = S
        · obtain ⟨i, i1, i2⟩ := List.getElem_of_mem h3
          rw [e] at h4 h5
          exact Or.inr ⟨i, by omega, by rw [gD i i1, i2]; exact h4, by rw [gD i i1, i2]; exact h5⟩
        · exact Or.inl ⟨S0, X, by omega, h2, h3, h4, h5⟩
  | succ k ih =>
    intro j f M hj hf hs hY
    obtain ⟨f, rfl⟩ : ∃ m, f = m + 1 := ⟨f - 1, by omega⟩
    have hjl : j < (mlist M0 P t r).length := by omega
    have hX : (mlist M0 P t r).getD j 0 < 1024 := by rw [gD j hjl]; exact (mlist_mem.mp (List.getElem_mem hjl)).1
    obtain ⟨s1, s2⟩ := hs r hr
    have s2j := s2 j hjl
    have hand : (mlist M0 P t r).getD j 0 &&& S < 1024 := Nat.lt_of_le_of_lt Nat.and_le_left hX
    have hor : S ||| (mlist M0 P t r).getD j 0 < 2 ^ 10 := Nat.or_lt_two_pow hS hX
    have hor' : S ||| (mlist M0 P t r).getD j 0 < 1024 := hor
    have g64 : g_in (iN (64 * r + j)) 640 = true := by rw [iN_in (by omega)]; omega
    have i1 : (1024 : Int32) * iN (r + 1) + iN (S ||| (mlist M0 P t r).getD j 0) = iN (1024 * (r + 1) + (S ||| (mlist M0 P t r).getD j 0)) := by rw [show (1024 : Int32) = iN 1024 from rfl, iN_mul, iN_add]
    rw [l_X12_most_92, if_pos gr, iN_cl (by omega), s1, if_pos (by rw [iN_lt (by omega) (by omega)]; omega), show (64 : Int32) * iN r + iN j = iN (64 * r + j) from by rw [show (64 : Int32) = iN 64 from rfl, iN_mul, iN_add], if_pos g64, iN_cl (by omega), s2j, iN_and, if_pos g64, eS, iN_or, i1, if_pos (show g_in (iN (1024 * (r + 1) + (S ||| (mlist M0 P t r).getD j 0))) 11264 = true by rw [iN_in (by omega)]; omega), iN_cl (by omega), show vp_nar .boolean 1 = iN 1 from nar_1]
    unfold b_X12_most_150
    rw [eS]
    by_cases c : (mlist M0 P t r).getD j 0 &&& S = 0
    · rw [if_pos (show iN ((mlist M0 P t r).getD j 0 &&& S) = (0 : Int32) by rw [c]; rfl)]
      obtain ⟨M', q1, q2, q3⟩ := ih (j + 1) f (g_up M 69 (1024 * (r + 1) + (S ||| (mlist M0 P t r).getD j 0)) (iN 1)) (by omega) (by omega) (fun r hr => ⟨by rw [g_up_ne _ _ (by omega)]; exact (hs r hr).1, fun j hj => by rw [g_up_ne _ _ (by omega)]; exact (hs r hr).2 j hj⟩) ⟨fun u S' h1 h2 => by rw [g_up_ne _ _ (by omega)]; exact hY.1 u S' h1 h2, fun Y hY' => by
          by_cases e : Y = S ||| (mlist M0 P t r).getD j 0
          · rw [e, g_up_eq _ _ ⟨rfl, rfl⟩, bP_t (Or.inr ⟨j, by omega, by rw [Nat.and_comm]; exact c, rfl⟩)]; rfl
          · rw [g_up_ne _ _ (by omega), hY.2.1 Y hY']
            congr 1
            refine bP_iff ⟨fun z => ?_, fun z => ?_⟩
            · rcases z with z | ⟨i, h1, h2, h3⟩
              · exact Or.inl z
              · exact Or.inr ⟨i, by omega, h2, h3⟩
            · rcases z with z | ⟨i, h1, h2, h3⟩
              · exact Or.inl z
              · by_cases e2 : i = j
                · rw [e2] at h3; exact absurd h3 e
                · exact Or.inr ⟨i, by omega, h2, h3⟩, fun u S' h1 h2 h3 => by rw [g_up_ne _ _ (by omega)]; exact hY.2.2 u S' h1 h2 h3⟩
      exact ⟨M', q1, q2, fun a j h => by rw [q3 a j h, g_up_ne _ _ (by omega)]⟩
    · rw [if_neg (show ¬ iN ((mlist M0 P t r).getD j 0 &&& S) = (0 : Int32) by rw [show (0 : Int32) = iN 0 from rfl, iN_inj (by omega) (by omega)]; exact c)]
      exact ih (j + 1) f M (by omega) (by omega) hs (hY.iff (fun Y hY' => ⟨fun z => by
        rcases z with z | ⟨i, h1, h2, h3⟩
        · exact Or.inl z
        · exact Or.inr ⟨i, by omega, h2, h3⟩, fun z => by
        rcases z with z | ⟨i, h1, h2, h3⟩
        · exact Or.inl z
        · by_cases e2 : i = j
          · rw [e2, Nat.and_comm] at h2; exact absurd h2 c
          · exact Or.inr ⟨i, by omega, h2, h3⟩⟩))
theorem l_m62 {σ : gS} {M0 : gM} {P t n r : Nat} {x2 : Int32} {K54 : Int32 → Int32 → gS → gM → Option (Int32 × gM)} (hC : mCx M0 P t n) (hr : r < n) : ∀ k S f M, S + k = 1024 → k < f → hasS M M0 P t n → hasY M M0 P t n r (reachQ M0 P t r S) → ∃ M', l_X12_most_62 K54 f x2 (iN r) (iN S) σ M = K54 x2 (iN (r + 1)) σ M' ∧ hasY M' M0 P t n r (reachQ M0 P t r 1024) ∧ ∀ a j, a ≠ 69 → M' a j = M a j := by
  have hC' := hC
  obtain ⟨c1, c2, c3, c4, c5, c6⟩ := hC'
  have hl' : (mlist M0 P t r).length ≤ 56 := mo_len hC hr (Nat.le_refl 1024)
  intro k
  induction k with
  | zero =>
    intro S f M hS hf hs hY
    obtain ⟨f, rfl⟩ : ∃ m, f = m + 1 := ⟨f - 1, by omega⟩
    obtain rfl : S = 1024 := by omega
    refine ⟨M, ?_, hY, fun _ _ _ => rfl⟩
    rw [l_X12_most_62, if_neg (by decide), eS]
  | succ k ih =>
    intro S f M hS hf hs hY
    obtain ⟨f, rfl⟩ : ∃ m, f = m + 1 := ⟨f - 1, by omega⟩
    rw [l_X12_most_62, if_pos (show iN S < (1024 : Int32) by rw [show (1024 : Int32) = iN 1024 from rfl, iN_lt (by omega) (by omega)]; omega), show (1024 : Int32) * iN r + iN S = iN (1024 * r + S) from by rw [show (1024 : Int32) = iN 1024 from rfl, iN_mul, iN_add], if_pos (by rw [iN_in (by omega)]; omega), iN_cl (by omega), hY.1 r S (Nat.le_refl _) (by omega)]
    by_cases c : fwP M0 P t r S
    · rw [if_neg (by rw [bP_t c]; decide)]
      obtain ⟨M1, u1, u2, u3⟩ := l_m92 (σ := σ) (x2 := x2) (K54 := K54) (K62 := fun x2 x3 x4 σ M => l_X12_most_62 K54 f x2 x3 x4 σ M) hC hr (show S < 1024 by omega) c (mlist M0 P t r).length 0 g_FU M (by omega) (by unfold g_FU; omega) hs (hY.iff (fun Y _ => ⟨fun z => Or.inl z, fun z => by
        rcases z with z | ⟨i, h1, _⟩
        · exact z
        · omega⟩))
      obtain ⟨M', q1, q2, q3⟩ := ih (S + 1) f M1 (by omega) (by omega) (fun r hr => ⟨by rw [u3 _ _ (by omega)]; exact (hs r hr).1, fun j hj => by rw [u3 _ _ (by omega)]; exact (hs r hr).2 j hj⟩) u2
      exact ⟨M', u1.trans q1, q2, fun a j h => by rw [q3 a j h, u3 a j h]⟩
    · rw [if_pos (by rw [bP_f c]; rfl)]
      unfold b_X12_most_156
      rw [eS]
      exact ih (S + 1) f M (by omega) (by omega) hs (hY.iff (fun Y _ => ⟨fun ⟨S0, X, h1, h2, h3⟩ => ⟨S0, X, by omega, h2, h3⟩, fun ⟨S0, X, h1, h2, h3⟩ => by
        by_cases e : S0 = S
        · rw [e] at h2; exact absurd h2 c
        · exact ⟨S0, X, by omega, h2, h3⟩⟩))
theorem l_m54 {σ : gS} {M0 : gM} {P t n : Nat} (hC : mCx M0 P t n) : ∀ k r f M, r + k = n → k < f → hasS M M0 P t n → hasF M M0 P t n r → ∃ M', l_X12_most_54 f (iN n) (iN r) σ M = l_X12_most_173 g_FU (iN n) 0 0 σ M' ∧ hasF M' M0 P t n n ∧ ∀ a j, a ≠ 69 → M' a j = M a j := by
  have hC' := hC
  obtain ⟨c1, c2, c3, c4, c5, c6⟩ := hC'
  intro k
  induction k with
  | zero =>
    intro r f M hr hf hs hF
    obtain ⟨f, rfl⟩ : ∃ m, f = m + 1 := ⟨f - 1, by omega⟩
    obtain rfl : r = n := by omega
    refine ⟨M, ?_, hF, fun _ _ _ => rfl⟩
    rw [l_X12_most_54, if_neg (by rw [iN_lt (by omega) (by omega)]; omega)]
  | succ k ih =>
    intro r f M hr hf hs hF
    obtain ⟨f, rfl⟩ : ∃ m, f = m + 1 := ⟨f - 1, by omega⟩
    obtain ⟨M1, u1, u2, u3⟩ := l_m62 (σ := σ) (x2 := iN n) (K54 := fun x2 x3 σ M => l_X12_most_54 f x2 x3 σ M) hC (show r < n by omega) 1024 0 g_FU M (by omega) (by unfold g_FU; omega) hs ⟨hF.1, fun Y hY => by rw [hF.2 (r + 1) Y (by omega) (by omega) hY, bP_f (fun ⟨S0, X, h1, _⟩ => by omega)], fun u S h1 h2 h3 => hF.2 u S (by omega) h2 h3⟩
    obtain ⟨M', q1, q2, q3⟩ := ih (r + 1) f M1 (by omega) (by omega) (fun r hr => ⟨by rw [u3 _ _ (by omega)]; exact (hs r hr).1, fun j hj => by rw [u3 _ _ (by omega)]; exact (hs r hr).2 j hj⟩) ⟨fun u S h1 h2 => by
      by_cases e : u = r + 1
      · rw [e, u2.2.1 S h2]
        congr 1
        refine bP_iff ⟨fun ⟨S0, X, h1, h2, h3, h4, h5⟩ => ⟨S0, X, h2, (mlist_mem.mp h3).1, (mlist_mem.mp h3).2, h4, h5⟩, fun ⟨S0, X, h1, h2, h3, h4, h5⟩ => ⟨S0, X, fw_lt c1 h1, h1, mlist_mem.mpr ⟨h2, h3⟩, h4, h5⟩⟩
      · exact u2.1 u S (by omega) h2, fun u S h1 h2 h3 => u2.2.2 u S h1 h2 h3⟩
    refine ⟨M', ?_, q2, fun a j h => by rw [q3 a j h, u3 a j h]⟩
    rw [l_X12_most_54, if_pos (by rw [iN_lt (by omega) (by omega)]; omega)]
    exact u1.trans q1
theorem l_sizeQ {S : Nat} (hS : S < 1024) : ∀ k i f, i + k = 10 → k < f → l_X12_sizeOf_4 f (iN S) (iN (cnt S i)) (iN i) = some (iN (cnt S 10)) := by
  intro k
  induction k with
  | zero =>
    intro i f hi hf
    obtain ⟨f, rfl⟩ : ∃ m, f = m + 1 := ⟨f - 1, by omega⟩
    obtain rfl : i = 10 := by omega
    rw [l_X12_sizeOf_4, if_neg (by decide)]
  | succ k ih =>
    intro i f hi hf
    obtain ⟨f, rfl⟩ : ∃ m, f = m + 1 := ⟨f - 1, by omega⟩
    have e := ih (i + 1) f (by omega) (by omega)
    rw [l_X12_sizeOf_4, if_pos (show iN i < (10 : Int32) by rw [show (10 : Int32) = iN 10 from rfl, iN_lt (by omega) (by omega)]; omega), iN_bit (by omega) (by omega), eS]
    cases c : S.testBit i with
    | true => rw [cnt_t c] at e; rw [if_pos rfl, eS]; exact e
    | false => rw [cnt_f c] at e; rw [if_neg (by decide), show iN (cnt S i) + (0 : Int32) = _ from Int32.add_zero _]; exact e
theorem sizeQ_m {S : Nat} (hS : S < 1024) : f_X12_sizeOf (iN S) = some (iN (cnt S 10)) := l_sizeQ hS 10 0 g_FU (by omega) (by unfold g_FU; omega)
theorem l_m173 {σ : gS} {M M0 : gM} {P t n : Nat} (hn : n ≤ 10) (hF : hasF M M0 P t n n) : ∀ k S f R, S + k = 1024 → k < f → R ≤ 10 → isMost (fun S => fwP M0 P t n S) S R → ∃ R', R' ≤ 10 ∧ l_X12_most_173 f (iN n) (iN R) (iN S) σ M = some (iN R', M) ∧ isMost (fun S => fwP M0 P t n S) 1024 R' := by
  intro k
  induction k with
  | zero =>
    intro S f R hS hf hR h
    obtain ⟨f, rfl⟩ : ∃ m, f = m + 1 := ⟨f - 1, by omega⟩
    obtain rfl : S = 1024 := by omega
    refine ⟨R, hR, ?_, h⟩
    rw [l_X12_most_173, if_neg (by decide)]
  | succ k ih =>
    intro S f R hS hf hR h
    obtain ⟨f, rfl⟩ : ∃ m, f = m + 1 := ⟨f - 1, by omega⟩
    have hc := cnt_le S 10
    rw [l_X12_most_173, if_pos (show iN S < (1024 : Int32) by rw [show (1024 : Int32) = iN 1024 from rfl, iN_lt (by omega) (by omega)]; omega), show (1024 : Int32) * iN n + iN S = iN (1024 * n + S) from by rw [show (1024 : Int32) = iN 1024 from rfl, iN_mul, iN_add], if_pos (by rw [iN_in (by omega)]; omega), iN_cl (by omega), hF.1 n S (Nat.le_refl _) (by omega), sizeQ_m (by omega), oB, oB]
    unfold b_X12_most_214 b_X12_most_215
    rw [eS]
    by_cases c : fwP M0 P t n S
    · have st := h.step.1 c
      rw [if_neg (by rw [bP_t c]; decide)]
      by_cases d : R < cnt S 10
      · rw [if_pos d] at st
        rw [if_pos (show iN R < iN (cnt S 10) by rw [iN_lt (by omega) (by omega)]; exact d)]
        exact ih (S + 1) f (cnt S 10) (by omega) (by omega) hc st
      · rw [if_neg d] at st
        rw [if_neg (show ¬ iN R < iN (cnt S 10) by rw [iN_lt (by omega) (by omega)]; exact d)]
        exact ih (S + 1) f R (by omega) (by omega) hR st
    · rw [if_pos (by rw [bP_f c]; rfl)]
      exact ih (S + 1) f R (by omega) (by omega) hR (h.step.2 c)
theorem most_m {σ : gS} {M M0 : gM} {P T t n : Nat} (hC : mCx M0 P t n) (fr : frM M M0) (hT6 : T ≤ 6) (ht : t < T) (h11 : M0 40 11 = iN T) : ∃ R M', R ≤ 10 ∧ f_X12_most (iN t) σ M = some (iN R, M') ∧ isMost (fun S => fwP M0 P t n S) 1024 R ∧ ∀ a j, ¬ (65 ≤ a ∧ a ≤ 69) → M' a j = M a j := by
  have hC' := hC
  obtain ⟨c1, c2, c3, c4, c5, c6⟩ := hC'
  obtain ⟨M1, u1, u2, u3⟩ := sets_m (σ := σ) hC fr
  obtain ⟨M2, v1, v2, v3⟩ := l_m24 (σ := σ) (x2 := iN n) 11264 0 g_FU M1 (by omega) (by unfold g_FU; omega) (fun j hj => by omega)
  obtain ⟨M3, w1, w2, w3⟩ := l_m54 (σ := σ) hC n 0 g_FU M2 (by omega) (by unfold g_FU; omega) (fun r hr => ⟨by rw [v3 _ _ (by omega)]; exact (u2 r hr).1, fun j hj => by rw [v3 _ _ (by omega)]; exact (u2 r hr).2 j hj⟩) ⟨fun u S h1 h2 => by
    obtain rfl : u = 0 := by omega
    rw [v2 _ (by omega), show 1024 * 0 + S = S by omega]
    by_cases c : S = 0
    · rw [decide_eq_true c, bP_t (show fwP M0 P t 0 S from c)]
    · rw [decide_eq_false c, bP_f (show ¬ fwP M0 P t 0 S from c)], fun u S h1 h2 h3 => by rw [v2 _ (by omega), decide_eq_false (by omega)]⟩
  obtain ⟨R, x1, x2, x3⟩ := l_m173 (σ := σ) c3 w2 1024 0 g_FU 0 (by omega) (by unfold g_FU; omega) (by omega) ⟨fun s hs => by omega, Or.inl rfl⟩
  refine ⟨R, M3, x1, ?_, x3, fun a j h => by rw [w3 a j (by omega), v3 a j (by omega), u3 a j (by omega)]⟩
  unfold f_X12_most b_X12_most_0
  rw [mtown_in (by rw [fr _ _ (by omega) (by omega) (by omega)]; exact h11) hT6 ht, oB, if_neg (show ¬ iN 1 = (0 : Int32) by decide), u1, oB, if_pos (by rw [iN_in (by omega)]; exact c2), iN_cl (by omega), u3 52 _ (by omega), fr 52 _ (by omega) (by omega) (by omega), c5]
  exact (v1.trans w1).trans x2
theorem call_most {σ : gS} {M : gM} (h : Inv σ M) (N : gN) (x : Int32) : ∃ r σ1 M1 N1 M2, f_X11_most x σ M N = some (r, σ1, M1, N1) ∧ g_layL σ1 ∧ f_X12_most x σ1 M1 = some (r, M2) ∧ Inv σ1 M2 := by
  have h0 := h
  obtain ⟨P, T, C, R, F, hIv⟩ := h
  have hIv' := hIv
  obtain ⟨hL, hP, hT, hD, hN, hB, hK, hC, hX⟩ := hIv
  have hT6 := hT.1
  have hP10 := hP.1
  rcases idx_or x T (by omega) with ⟨t, ht, rfl⟩ | hx
  · refine lockS (M := M) (fm := fun σ1 Mm => f_X12_most (iN t) σ1 Mm) (fun Mm hg0 => ?_)
    have hme := mEq.of hg0
    have hCx := cx_of hIv' ht
    obtain ⟨g, hg⟩ := nth_ex (fun p => thereB M p t) P
    obtain ⟨e, he⟩ := nth_ex (heldF M t) (R t)
    have hm := cf_le (fun p => thereB M p t) P
    obtain ⟨Mg, σr, Mr, a1, a2, a3, a4, a5, a6, a7, a8, a9⟩ := prep_c (aim := 2) hIv' ht (by omega) hg he
    obtain ⟨σ1, M1, N1, ta, len, Tb, f1, f2, f3, f4, f5, f6, f7, f8, f9, f10, f11, f12, f13, f14⟩ := fill_c (N := N) (show t < 6 by omega) a5 a4 a8
    have fr1 : ∀ a j, ¬ (12 ≤ a ∧ a ≤ 19) → a ≠ 36 → ¬ (10000 ≤ a ∧ a ≤ 21264) → M1 a j = M a j := fun a j h1 h2 h3 => by rw [f14 a j (by omega), g_up_ne _ _ (by omega), a9 a j h1]
    have hW1 : 2 ^ cf (fun p => thereB M p t) P ≤ 2 ^ 10 := Nat.pow_le_pow_right (by omega) (by omega)
    have hW2 : 2 ^ 10 = 1024 := rfl
    obtain ⟨Rc, c1, c2, c3⟩ := l_mg25 (N := N1) f13 f6 f7 (by omega) f9 f12 f11 (2 ^ cf (fun p => thereB M p t) P) 0 g_FU 0 (by omega) (by unfold g_FU; omega) (by omega) ⟨fun s hs => by omega, Or.inl rfl⟩
    obtain ⟨Rm, M', d1, d2, d3, d4⟩ := most_m (σ := σ1) (M := Mm) hCx (fun a j h1 h2 _ => hme a j h1 h2) hT6 ht hT.2.2.2.2.1
    have tb : ∀ s, s < 2 ^ cf (fun p => thereB M p t) P → (Tb 0 s ≠ 268435456 ↔ fwP M P t (R t) (emb (fun p => thereB M p t) P s)) := fun s hs => by
      rw [← fw_bk0]
      exact tab_bk hCx hP hg he f12 (R t) 0 (by omega) s hs
    have eR : Rc = Rm := by
      have l1 : Rc ≤ Rm := by
        rcases c3.2 with z | ⟨s, s1, s2, s3⟩
        · omega
        · have hf := (tb s s1).mp s2
          have := d3.1 _ (fw_lt hP10 hf) hf
          rw [cnt_emb10 hP10 s1] at this
          omega
      have l2 : Rm ≤ Rc := by
        rcases d3.2 with z | ⟨S, s1, s2, s3⟩
        · omega
        · obtain ⟨s, e1, e2⟩ := emb_com hg (fw_all (R t) S s2)
          have := c3.1 s e1 ((tb s e1).mpr (by rw [e2]; exact s2))
          rw [← cnt_emb10 hP10 e1, e2] at this
          omega
      omega
    have s1 : ∀ a, ¬ (10000 ≤ a ∧ a ≤ 21264) → σ1.1 a = σ.1 a := fun a h => by rw [f4 a h, a3.1]
    have s2 : ∀ a j, a ≠ 18 → ¬ (10000 ≤ a ∧ a ≤ 21264) → ¬ (a = 12 ∧ j = 13) → σ1.2 a j = σ.2 a j := fun a j h1 h2 h3 => by rw [f5 a j h2 h3, a3.2 a j h1]
    have fin : Iv σ1 (mg M1 M') P T C R F := iv_sc hIv' s1 s2 f2 f3 (fun a j h1 h2 h3 h4 => by
      unfold mg
      split
      · rename_i hh'
        rw [d4 a j h3, hme a j hh'.1 hh'.2]
      · exact fr1 a j h1 h2 h4)
    refine ⟨iN Rm, σ1, M1, N1, M', ?_, fin.1.1, d2, fun a k h1 h2 => fr1 a k (by omega) (by omega) (by omega), fun a k h => d4 a k (by omega), P, T, C, R, F, fin⟩
    rw [← eR]
    unfold f_X11_most b_X11_most_0 f_X9_mostGuests b_X9_mostGuests_0
    rw [town_in hL.2.2.1 hT.2.2.2.1 hT6 ht, oB, if_neg (by omega), a1, oB, a2, oB, if_pos (by rw [layCB_of a4]; trivial), show f_X9_fillTable σr (g_up Mr 12 12 2) N = _ from f1, oB, if_pos (by rw [layCB_of f3]; trivial)]
    rw [show l_X9_mostGuests_25 g_FU 0 0 σ1 M1 N1 = _ from c2, oB, if_pos (by rw [layCB_of f3]; trivial)]
  · refine ⟨iM, σ, M, N, M, ?_, hL.1, ?_, h0⟩
    · unfold f_X11_most b_X11_most_0
      rw [town_out hT.2.2.2.1 hT6 hx, oB, if_pos rfl]
      rfl
    · unfold f_X12_most b_X12_most_0
      rw [mtown_out hT.2.2.2.2.1 hT6 hx, oB, if_pos (show iN 0 = (0 : Int32) from rfl)]
      rfl
