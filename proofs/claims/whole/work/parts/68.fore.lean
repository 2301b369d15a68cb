/-! loss: the class's foresee. -/
theorem l_fees25 {σ : gS} {T t : Nat} {rs : List gRule} {fa : Nat → Int32} (hs : ctS σ T t rs) {e H lo hi : Nat} {x3 x4 : Int32} (ha3 : x3 = 0 → noAsk 0 1 rs) (ha4 : x4 = 0 → noAsk 0 2 rs) (hH : H ≤ 10) (hhi : hi ≤ 10) (hlo : lo ≤ hi) : ∀ k h n M, h + k = H + 1 → 1 ≤ h → k < n → M 20 7 = iN H → M 20 8 = iN lo → M 20 9 = iN hi → ctR σ M t rs → faR M t fa e → (1 < h → ∀ v, lo ≤ v → v ≤ hi → M 23 (11 * (h - 1) + v) = iN (feeF fa rs e (h - 1) v)) → ∃ M', l_X3_fillFees_25 n (140 + t) x3 x4 (iN h) σ M = some M' ∧ (∀ g v, h ≤ g → g ≤ H → lo ≤ v → v ≤ hi → M' 23 (11 * g + v) = iN (feeF fa rs e g v)) ∧ ∀ a j, ¬ (a = 23 ∧ 11 * h ≤ j) → ¬ (a = 170 + t ∧ 1 ≤ j ∧ j ≤ 2) → a ≠ 180 + t → M' a j = M a j := by
  have hs0 := hs
  obtain ⟨s1, s2, s3, s4, s5, s6, s7⟩ := hs
  obtain ⟨c0, c1, c2, c3, c4, c5, c6, c7, c8⟩ := (s1.1 t s4).2
  have hd := s2.at s4
  intro k
  induction k with
  | zero =>
    intro h n M hu h1 hn h7 h8 h9 hc hf hp
    obtain ⟨n, rfl⟩ : ∃ m, n = m + 1 := ⟨n - 1, by omega⟩
    refine ⟨M, ?_, fun g v h1 h2 => by omega, fun a j _ _ _ => rfl⟩
    rw [l_X3_fillFees_25, h7, if_pos (by rw [iN_lt (by omega) (by omega)]; omega)]
  | succ k ih =>
    intro h n M hu h1 hn h7 h8 h9 hc hf hp
    obtain ⟨n, rfl⟩ : ∃ m, n = m + 1 := ⟨n - 1, by omega⟩
    obtain ⟨M1, a1, a2, a3⟩ := l_fees48 (σ := σ) (fa := fa) (e := e) (h := h) (lo := lo) (hi := hi) (k25 := fun r1 x3 x4 x5 σ M => l_X3_fillFees_25 n r1 x3 x4 x5 σ M) hs0 ha3 ha4 h1 (by omega) hhi (hi + 1 - lo) lo g_FU (g_up M (170 + t) 1 (iN h)) (by omega) (by omega) (by unfold g_FU; omega) (by rw [g_up_ne _ _ (by omega)]; exact h8) (by rw [g_up_ne _ _ (by omega)]; exact h9) (hc.keep hs0 (fun a j h => g_up_ne _ _ (by omega))) (by unfold faR at *; simp (disch := omega) only [g_up_ne]; exact hf) (g_up_eq _ _ ⟨rfl, rfl⟩) (fun g v g1 g2 => by rw [g_up_ne _ _ (by omega)]; exact hp g v g1 g2) (fun v g1 g2 => by omega)
    have fr : ∀ a j, ¬ (a = 23 ∧ 11 * h ≤ j ∧ j ≤ 11 * h + hi) → ¬ (a = 170 + t ∧ 1 ≤ j ∧ j ≤ 2) → a ≠ 180 + t → M1 a j = M a j := fun a j g1 g2 g3 => by rw [a3 a j (by omega) (by omega) g3, g_up_ne _ _ (by omega)]
    obtain ⟨M', q1, q2, q3⟩ := ih (h + 1) n M1 (by omega) (by omega) (by omega) (by rw [fr _ _ (by omega) (by omega) (by omega)]; exact h7) (by rw [fr _ _ (by omega) (by omega) (by omega)]; exact h8) (by rw [fr _ _ (by omega) (by omega) (by omega)]; exact h9) (hc.keep hs0 (fun a j h => fr a j (by omega) (by omega) (by omega))) (by unfold faR at *; simp (disch := omega) only [fr]; exact hf) (fun _ v g1 g2 => a2 v g1 g2)
    refine ⟨M', ?_, fun g v h1 h2 h3 h4 => ?_, fun a j g1 g2 g3 => by rw [q3 a j (by omega) g2 g3, fr a j (by omega) g2 g3]⟩
    · rw [l_X3_fillFees_25, h7, if_neg (by rw [iN_lt (by omega) (by omega)]; omega), if_pos (by rw [is_of c0]; trivial), c3, if_pos (by rw [is_of c7]; trivial), ln_of c7, if_pos (show g_in 1 5 = true by decide), show (1 : Int32).toNatClampNeg = 1 from rfl, g_up_ne (a := 170 + t) (b := 20) _ _ (by omega), h8, a1]
      exact q1
    · by_cases c : g = h
      · subst c
        rw [q3 _ _ (by omega) (by omega) (by omega)]
        exact a2 v h3 h4
      · exact q2 g v (by omega) h2 h3 h4
theorem fees_c {σ : gS} {T t : Nat} {rs : List gRule} {fa : Nat → Int32} (hs : ctS σ T t rs) {e H lo hi up dn : Nat} {M : gM} (hH : H ≤ 10) (hhi : hi ≤ 10) (hlo : lo ≤ hi) (hR : lsR M up dn H lo hi) (hc : ctR σ M t rs) (h3 : M (170 + t) 3 = fa 3) (h4 : M (170 + t) 4 = fa 4) : ∃ M', f_X3_fillFees (140 + t) (iN e) σ M = some M' ∧ (∀ g v, 1 ≤ g → g ≤ H → lo ≤ v → v ≤ hi → M' 23 (11 * g + v) = iN (feeF fa rs e g v)) ∧ ∀ a j, a ≠ 23 → ¬ (a = 170 + t ∧ j ≤ 2) → a ≠ 180 + t → M' a j = M a j := by
  have hs0 := hs
  obtain ⟨s1, s2, s3, s4, s5, s6, s7⟩ := hs
  obtain ⟨c0, c1, c2, c3, c4, c5, c6, c7, c8⟩ := (s1.1 t s4).2
  have hd := s2.at s4
  have A : ∀ f, ∃ x, f_X2_asksFor (140 + t) (iN 0) (iN f) σ M = some x ∧ (x = 0 → noAsk 0 f rs) := fun f => by
    rcases asks_c (kind := 0) (f := f) hs0 hc (by omega) with h | ⟨h, h2⟩
    · exact ⟨1, h, fun q => absurd q (by decide)⟩
    · exact ⟨0, h, fun _ => h2⟩
  obtain ⟨x3, p1, p2⟩ := A 1
  obtain ⟨x4, p3, p4⟩ := A 2
  obtain ⟨M', q1, q2, q3⟩ := l_fees25 (σ := σ) (fa := fa) (e := e) (H := H) (lo := lo) (hi := hi) hs0 p2 p4 hH hhi hlo H 1 g_FU (g_up M (170 + t) 0 (iN e)) (by omega) (by omega) (by unfold g_FU; omega) (by rw [g_up_ne _ _ (by omega)]; exact hR.2.2.1) (by rw [g_up_ne _ _ (by omega)]; exact hR.2.2.2.1) (by rw [g_up_ne _ _ (by omega)]; exact hR.2.2.2.2) (hc.keep hs0 (fun a j h => g_up_ne _ _ (by omega))) ⟨g_up_eq _ _ ⟨rfl, rfl⟩, by rw [g_up_ne _ _ (by omega)]; exact h3, by rw [g_up_ne _ _ (by omega)]; exact h4⟩ (fun h => by omega)
  refine ⟨M', ?_, q2, fun a j g1 g2 g3 => by rw [q3 a j (by omega) (by omega) g3, g_up_ne _ _ (by omega)]⟩
  unfold f_X3_fillFees b_X3_fillFees_0
  rw [if_pos (by rw [is_of c0]; trivial), show f_X2_asksFor (140 + t) 0 1 σ M = _ from p1, oB, show f_X2_asksFor (140 + t) 0 2 σ M = _ from p3, oB, c3, if_pos (by rw [is_of c7]; trivial), ln_of c7, if_pos (show g_in 0 5 = true by decide)]
  exact q1
theorem spread_c0 {σ : gS} {M : gM} {u0 x up dn H : Nat} (hu : u0 ≤ 10) (hx : x ≤ 30) (hup : up ≤ 3) (hdn : dn ≤ 3) (r1 : M 20 5 = iN up) (r2 : M 20 6 = iN dn) (r3 : M 20 7 = iN H) : ∃ M', f_X3_spread (iN u0) (iN x) σ M = some M' ∧ lsR M' up dn H (u0 - x * dn) (minN (u0 + x * up) 10) ∧ ∀ a j, ¬ (a = 20 ∧ 8 ≤ j ∧ j ≤ 9) → M' a j = M a j := by
  have b1 : x * dn ≤ 90 := Nat.mul_le_mul hx hdn
  have b2 : x * up ≤ 90 := Nat.mul_le_mul hx hup
  refine ⟨g_up (g_up M 20 8 (iN (u0 - x * dn))) 20 9 (iN (minN (u0 + x * up) 10)), ?_, ?_, fun a j h => by rw [g_up_ne _ _ (by omega), g_up_ne _ _ (by omega)]⟩
  · unfold f_X3_spread b_X3_spread_0
    rw [r2, g_up_ne _ _ (by omega), r1, iN_mul, iN_mul, sub_pos (by omega) (by omega), iN_add, min_10 (by omega)]
  · refine ⟨?_, ?_, ?_, ?_, ?_⟩
    · rw [g_up_ne _ _ (by omega), g_up_ne _ _ (by omega)]; exact r1
    · rw [g_up_ne _ _ (by omega), g_up_ne _ _ (by omega)]; exact r2
    · rw [g_up_ne _ _ (by omega), g_up_ne _ _ (by omega)]; exact r3
    · rw [g_up_ne _ _ (by omega), g_up_eq _ _ ⟨rfl, rfl⟩]
    · rw [g_up_eq _ _ ⟨rfl, rfl⟩]
theorem spread_c {σ : gS} {M : gM} {u0 x up dn H lo hi : Nat} (hu : u0 ≤ 10) (hx : x ≤ 30) (hup : up ≤ 3) (hdn : dn ≤ 3) (hR : lsR M up dn H lo hi) : ∃ M', f_X3_spread (iN u0) (iN x) σ M = some M' ∧ lsR M' up dn H (u0 - x * dn) (minN (u0 + x * up) 10) ∧ ∀ a j, ¬ (a = 20 ∧ 8 ≤ j ∧ j ≤ 9) → M' a j = M a j := spread_c0 hu hx hup hdn hR.1 hR.2.1 hR.2.2.1
