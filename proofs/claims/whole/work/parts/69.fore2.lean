/-! loss: the class's days. -/
theorem day_c {σ : gS} {M : gM} {up dn H lo hi lo' hi' sm e : Nat} {fee : Nat → Nat → Nat → Nat} (hup : up ≤ 3) (hdn : dn ≤ 3) (hH : H ≤ 10) (hhi : hi ≤ 10) (hlo : lo ≤ hi) (s1 : lo' ≤ lo - dn) (s2 : minN (hi + up) 10 ≤ hi') (s3 : hi' ≤ 10) (hsm : sm ≤ 1000) (hR : lsR M up dn H lo hi) (hT : tabR M 21 H lo' hi' (LsF fee sm up dn e)) (hF : ∀ g v, 1 ≤ g → g ≤ H → lo ≤ v → v ≤ hi → fee (e + 1) g v ≤ 100 ∧ M 23 (11 * g + v) = iN (fee (e + 1) g v)) : ∃ M1 M', f_X3_fillWorst σ M = some M1 ∧ f_X3_fillDay σ M1 = some M' ∧ tabR M' 21 H lo hi (LsF fee sm up dn (e + 1)) ∧ M' 20 1 = iN (GvF fee sm up dn (e + 1) H hi) ∧ ∀ a j, a ≠ 21 → a ≠ 22 → ¬ (a = 20 ∧ j = 1) → M' a j = M a j := by
  obtain ⟨M1, a1, a2, a3⟩ := l_wst2 (σ := σ) (f := LsF fee sm up dn e) hup hdn hH hhi hlo s1 s2 s3 (fun g v h1 h2 => LsF_le hsm _ _ _ h1 h2) (H + 1) 0 g_FU M (by omega) (by unfold g_FU; omega) hR hT
  obtain ⟨M', q1, q2, q4, q3⟩ := l_day2 (σ := σ) (up := up) (dn := dn) (H := H) (lo := lo) (hi := hi) (fee := fee (e + 1)) (W := fun g v => wstF (LsF fee sm up dn e g) up dn v) hH hhi hlo (H + 1) 0 g_FU M1 (by omega) (by unfold g_FU; omega) (by unfold lsR at *; simp (disch := omega) only [a3]; exact hR) (fun g v h0 h1 h2 h3 => by rw [a3 _ _ (by omega)]; exact hF g v h0 h1 h2 h3) (fun g v h1 h2 h3 => ⟨wstF_le hsm (by omega) (by omega), a2 g v (by omega) h1 h2 h3⟩)
  refine ⟨M1, M', a1, q1, fun g v h1 h2 h3 => q2 g v (by omega) h1 h2 h3, ?_, fun a j g1 g2 g3 => by rw [q3 a j (by omega) g3, a3 a j (by omega)]⟩
  rw [q4, if_pos (by omega)]
  rfl
theorem l_fore58 {σ : gS} {T t : Nat} {rs : List gRule} {fa : Nat → Int32} (hs : ctS σ T t rs) {d u0 up dn H sm : Nat} {x7 : Int32} (hx7 : x7 = 0 → noAsk 0 0 rs) (hd : d ≤ 30) (hu0 : u0 ≤ 10) (hup : up ≤ 3) (hdn : dn ≤ 3) (hH : H ≤ 10) (hsm : sm ≤ 1000) : ∀ k e n M, e + k = d → k < n → (∃ lo hi, lsR M up dn H lo hi) → tabR M 21 H (u0 - k * dn) (minN (u0 + k * up) 10) (LsF (feeF fa rs) sm up dn e) → ctR σ M t rs → M (170 + t) 3 = fa 3 → M (170 + t) 4 = fa 4 → (1 ≤ e → x7 = 0 → ∀ g v, 1 ≤ g → g ≤ H → u0 - (d - 1) * dn ≤ v → v ≤ minN (u0 + (d - 1) * up) 10 → M 23 (11 * g + v) = iN (feeF fa rs 1 g v)) → M 20 1 = iN (GvF (feeF fa rs) sm up dn e H (minN (u0 + k * up) 10)) → ∃ M', l_X3_foresee_58 n (140 + t) (iN d) (iN u0) x7 (iN (e + 1)) σ M = some M' ∧ M' 20 0 = iN (LsF (feeF fa rs) sm up dn d H u0) ∧ M' 20 1 = iN (GvF (feeF fa rs) sm up dn d H u0) ∧ ∀ a j, ¬ (20 ≤ a ∧ a ≤ 23) → a ≠ 170 + t → a ≠ 180 + t → M' a j = M a j := by
  have hs0 := hs
  obtain ⟨s1, s2, s3, s4, s5, s6, s7⟩ := hs
  have hcd := s2.at s4
  intro k
  induction k with
  | zero =>
    intro e n M he hn hR hT hc h3 h4 hF hg
    obtain ⟨n, rfl⟩ : ∃ m, n = m + 1 := ⟨n - 1, by omega⟩
    obtain ⟨lo, hi, hR⟩ := hR
    obtain rfl : e = d := by omega
    have em : minN (u0 + 0 * up) 10 = u0 := by unfold minN; split <;> omega
    rw [em] at hT hg
    have gi : g_in (iN (11 * H + u0)) 121 = true := by rw [iN_in (by omega)]; omega
    refine ⟨g_up M 20 0 (iN (LsF (feeF fa rs) sm up dn e H u0)), ?_, g_up_eq _ _ ⟨rfl, rfl⟩, by rw [g_up_ne _ _ (by omega)]; exact hg, fun a j g1 g2 g3 => g_up_ne _ _ (by omega)⟩
    rw [l_X3_foresee_58, if_pos (by rw [iN_lt (by omega) (by omega)]; omega), hR.2.2.1, e11, if_pos gi, iN_cl (by omega), hT H u0 (by omega) (by omega) (by omega)]
  | succ k ih =>
    intro e n M he hn hR hT hc h3 h4 hF hg
    obtain ⟨n, rfl⟩ : ∃ m, n = m + 1 := ⟨n - 1, by omega⟩
    obtain ⟨lo, hi, hR⟩ := hR
    obtain ⟨M1, a1, a2, a3⟩ := spread_c (σ := σ) (x := k) hu0 (by omega) hup hdn hR
    have k1 : (k + 1) * dn = k * dn + dn := Nat.succ_mul _ _
    have k2 : (k + 1) * up = k * up + up := Nat.succ_mul _ _
    have k3 : k * dn ≤ (d - 1) * dn := Nat.mul_le_mul_right _ (by omega)
    have k4 : k * up ≤ (d - 1) * up := Nat.mul_le_mul_right _ (by omega)
    have m1 := minN_le (u0 + k * up) 10
    have m2 := minN_le (u0 + (k + 1) * up) 10
    have m3 := minN_le (minN (u0 + k * up) 10 + up) 10
    have m4 := minN_le (u0 + (d - 1) * up) 10
    have hc1 : ctR σ M1 t rs := hc.keep hs0 (fun a j h => a3 a j (by omega))
    have fin : ∀ M2 : gM, (∀ a j, a ≠ 23 → ¬ (a = 170 + t ∧ j ≤ 2) → a ≠ 180 + t → M2 a j = M1 a j) → (∀ g v, 1 ≤ g → g ≤ H → u0 - k * dn ≤ v → v ≤ minN (u0 + k * up) 10 → M2 23 (11 * g + v) = iN (feeF fa rs (e + 1) g v)) → (x7 = 0 → ∀ g v, 1 ≤ g → g ≤ H → u0 - (d - 1) * dn ≤ v → v ≤ minN (u0 + (d - 1) * up) 10 → M2 23 (11 * g + v) = iN (feeF fa rs 1 g v)) → ∃ M', b_X3_foresee_92 (fun r1 x2 x6 x7 x8 σ M => l_X3_foresee_58 n r1 x2 x6 x7 x8 σ M) (140 + t) (iN d) (iN u0) x7 (iN (e + 1)) σ M2 = some M' ∧ M' 20 0 = iN (LsF (feeF fa rs) sm up dn d H u0) ∧ M' 20 1 = iN (GvF (feeF fa rs) sm up dn d H u0) ∧ ∀ a j, ¬ (20 ≤ a ∧ a ≤ 23) → a ≠ 170 + t → a ≠ 180 + t → M' a j = M a j := fun M2 f1 f2 f3 => by
      obtain ⟨M3, M4, b1, b2, b3, b4, b5⟩ := day_c (σ := σ) (M := M2) (fee := feeF fa rs) (e := e) (lo' := u0 - (k + 1) * dn) (hi' := minN (u0 + (k + 1) * up) 10) hup hdn hH (by omega) (by omega) (by omega) (by omega) (by omega) hsm (by unfold lsR at *; simp (disch := omega) only [f1]; exact a2) (fun g v g1 g2 g3 => by rw [f1 _ _ (by omega) (by omega) (by omega), a3 _ _ (by omega)]; exact hT g v g1 g2 g3) (fun g v g1 g2 g3 g4 => ⟨(feeF_eq _ _ _ _ _).2, f2 g v g1 g2 g3 g4⟩)
      have fr : ∀ a j, ¬ (20 ≤ a ∧ a ≤ 23) → ¬ (a = 170 + t ∧ j ≤ 2) → a ≠ 180 + t → M4 a j = M a j := fun a j g1 g2 g3 => by rw [b5 a j (by omega) (by omega) (by omega), f1 a j (by omega) (by omega) g3, a3 a j (by omega)]
      obtain ⟨M', q1, q2, q3, q4⟩ := ih (e + 1) n M4 (by omega) (by omega) ⟨_, _, by unfold lsR at *; simp (disch := omega) only [b5, f1]; exact a2⟩ b3 (hc.keep hs0 (fun a j h => fr a j (by omega) (by omega) (by omega))) (by rw [fr _ _ (by omega) (by omega) (by omega)]; exact h3) (by rw [fr _ _ (by omega) (by omega) (by omega)]; exact h4) (fun _ hx g v g1 g2 g3 g4 => by rw [b5 _ _ (by omega) (by omega) (by omega)]; exact f3 hx g v g1 g2 g3 g4) b4
      refine ⟨M', ?_, q2, q3, fun a j g1 g2 g3 => by rw [q4 a j g1 g2 g3, fr a j g1 (by omega) g3]⟩
      unfold b_X3_foresee_92
      rw [b1, oB, b2, oB, eS]
      exact q1
    have fill : (e = 0 ∨ x7 ≠ 0) → ∃ M', b_X3_foresee_85 (fun r1 x2 x6 x7 x8 σ M => l_X3_foresee_58 n r1 x2 x6 x7 x8 σ M) (140 + t) (iN d) (iN u0) x7 (iN (e + 1)) σ M1 = some M' ∧ M' 20 0 = iN (LsF (feeF fa rs) sm up dn d H u0) ∧ M' 20 1 = iN (GvF (feeF fa rs) sm up dn d H u0) ∧ ∀ a j, ¬ (20 ≤ a ∧ a ≤ 23) → a ≠ 170 + t → a ≠ 180 + t → M' a j = M a j := fun hx => by
      obtain ⟨M2, f1, f2, f3⟩ := fees_c (σ := σ) (fa := fa) (e := e + 1) (M := M1) hs0 hH (by omega) (by omega) a2 hc1 (by rw [a3 _ _ (by omega)]; exact h3) (by rw [a3 _ _ (by omega)]; exact h4)
      obtain ⟨M', q⟩ := fin M2 f3 f2 (fun h0 g v g1 g2 g3 g4 => by
        obtain rfl : e = 0 := hx.resolve_right (fun q => q h0)
        obtain rfl : k = d - 1 := by omega
        exact f2 g v g1 g2 g3 g4)
      refine ⟨M', ?_, q.2⟩
      unfold b_X3_foresee_85
      rw [f1, oB]
      exact q.1
    rw [l_X3_foresee_58, if_neg (by rw [iN_lt (by omega) (by omega)]; omega), iN_sub (by omega), show d - (e + 1) = k by omega, a1, oB]
    by_cases c : e = 0
    · rw [if_pos (show iN (e + 1) = (1 : Int32) by rw [c]; rfl)]
      exact fill (Or.inl c)
    · rw [if_neg (show ¬ iN (e + 1) = (1 : Int32) by rw [show (1 : Int32) = iN 1 from rfl, iN_inj (by omega) (by omega)]; omega)]
      by_cases c2 : x7 = 0
      · rw [if_pos c2]
        exact fin M1 (fun _ _ _ _ _ => rfl) (fun g v g1 g2 g3 g4 => by rw [a3 _ _ (by omega), feeF_e (hx7 c2) (e + 1) 1 g v]; exact hF (by omega) c2 g v g1 g2 (by omega) (by omega)) (fun _ g v g1 g2 g3 g4 => by rw [a3 _ _ (by omega)]; exact hF (by omega) c2 g v g1 g2 g3 g4)
      · rw [if_neg c2]
        exact fill (Or.inr c2)
theorem fore_c {σ : gS} {T t : Nat} {rs : List gRule} {fa : Nat → Int32} (hs : ctS σ T t rs) {M : gM} {d u0 up dn H sm : Nat} (hd : d ≤ 30) (hu0 : u0 ≤ 10) (hup : up ≤ 3) (hdn : dn ≤ 3) (hH : H ≤ 10) (hsm : sm ≤ 1000) (hc : ctR σ M t rs) (h1 : M (170 + t) 1 = iN H) (h2 : M (170 + t) 2 = iN u0) (h3 : M (170 + t) 3 = fa 3) (h4 : M (170 + t) 4 = fa 4) : ∃ M', f_X3_foresee (140 + t) (iN d) (iN up) (iN dn) (iN sm) σ M = some M' ∧ M' 20 0 = iN (LsF (feeF fa rs) sm up dn d H u0) ∧ M' 20 1 = iN (GvF (feeF fa rs) sm up dn d H u0) ∧ ∀ a j, ¬ (20 ≤ a ∧ a ≤ 23) → a ≠ 170 + t → a ≠ 180 + t → M' a j = M a j := by
  have hs0 := hs
  obtain ⟨s1, s2, s3, s4, s5, s6, s7⟩ := hs
  obtain ⟨c0, c1, c2, c3, c4, c5, c6, c7, c8⟩ := (s1.1 t s4).2
  have hcd := s2.at s4
  let A : gM := g_up (g_up (g_up M 20 7 (iN H)) 20 5 (iN up)) 20 6 (iN dn)
  have fA : ∀ a j, a ≠ 20 → A a j = M a j := fun a j h => by
    show g_up (g_up (g_up M 20 7 (iN H)) 20 5 (iN up)) 20 6 (iN dn) a j = _
    rw [g_up_ne _ _ (by omega), g_up_ne _ _ (by omega), g_up_ne _ _ (by omega)]
  have r5 : A 20 5 = iN up := by
    show g_up (g_up (g_up M 20 7 (iN H)) 20 5 (iN up)) 20 6 (iN dn) 20 5 = _
    rw [g_up_ne _ _ (by omega), g_up_eq _ _ ⟨rfl, rfl⟩]
  have r6 : A 20 6 = iN dn := by
    show g_up (g_up (g_up M 20 7 (iN H)) 20 5 (iN up)) 20 6 (iN dn) 20 6 = _
    rw [g_up_eq _ _ ⟨rfl, rfl⟩]
  have r7 : A 20 7 = iN H := by
    show g_up (g_up (g_up M 20 7 (iN H)) 20 5 (iN up)) 20 6 (iN dn) 20 7 = _
    rw [g_up_ne _ _ (by omega), g_up_ne _ _ (by omega), g_up_eq _ _ ⟨rfl, rfl⟩]
  obtain ⟨M1, a1, a2, a3⟩ := spread_c0 (σ := σ) (x := d) hu0 hd hup hdn r5 r6 r7
  have m1 := minN_le (u0 + d * up) 10
  obtain ⟨M2, b1, b2, b3⟩ := l_last2 (σ := σ) (sm := sm) (H := H) (lo := u0 - d * dn) (hi := minN (u0 + d * up) 10) hsm hH (by omega) (by omega) (H + 1) 0 g_FU M1 (by omega) (by unfold g_FU; omega) a2.2.2.1 a2.2.2.2.1 a2.2.2.2.2
  let B : gM := g_up M2 20 1 (iN 0)
  have fB : ∀ a j, ¬ (a = 20 ∧ j = 1) → B a j = M2 a j := fun a j h => g_up_ne _ _ h
  have fr : ∀ a j, ¬ (20 ≤ a ∧ a ≤ 23) → B a j = M a j := fun a j h => by rw [fB a j (by omega), b3 a j (by omega), a3 a j (by omega), fA a j (by omega)]
  have hcB : ctR σ B t rs := hc.keep hs0 (fun a j h => fr a j (by omega))
  have A0 : ∃ x, f_X2_asksFor (140 + t) (iN 0) (iN 0) σ B = some x ∧ (x = 0 → noAsk 0 0 rs) := by
    rcases asks_c (kind := 0) (f := 0) hs0 hcB (by omega) with h | ⟨h, h2⟩
    · exact ⟨1, h, fun q => absurd q (by decide)⟩
    · exact ⟨0, h, fun _ => h2⟩
  obtain ⟨x7, p1, p2⟩ := A0
  obtain ⟨M', q1, q2, q3, q4⟩ := l_fore58 (σ := σ) (fa := fa) (x7 := x7) (d := d) (u0 := u0) (up := up) (dn := dn) (H := H) (sm := sm) hs0 p2 hd hu0 hup hdn hH hsm d 0 g_FU B (by omega) (by unfold g_FU; omega) ⟨u0 - d * dn, minN (u0 + d * up) 10, by unfold lsR at *; simp (disch := omega) only [fB, b3]; exact a2⟩ (fun g v g1 g2 g3 => by rw [fB _ _ (by omega)]; exact b2 g v (by omega) g1 g2 g3) hcB (by rw [fr _ _ (by omega)]; exact h3) (by rw [fr _ _ (by omega)]; exact h4) (fun h => by omega) (g_up_eq _ _ ⟨rfl, rfl⟩)
  refine ⟨M', ?_, q2, q3, fun a j g1 g2 g3 => by rw [q4 a j g1 g2 g3, fr a j g1]⟩
  unfold f_X3_foresee b_X3_foresee_0 b_X3_foresee_29
  rw [if_pos (by rw [is_of c0]; trivial), c3, if_pos (by rw [is_of c7]; trivial), ln_of c7, if_pos (show g_in 2 5 = true by decide), if_pos (show g_in 1 5 = true by decide), show (1 : Int32).toNatClampNeg = 1 from rfl, show (2 : Int32).toNatClampNeg = 2 from rfl, h1, h2]
  rw [show f_X3_spread (iN u0) (iN d) σ (g_up (g_up (g_up M 20 7 (iN H)) 20 5 (iN up)) 20 6 (iN dn)) = _ from a1, oB, show f_X3_fillLastDay (iN sm) σ M1 = _ from b1, oB, if_pos (by rw [is_of c0]; trivial), show f_X2_asksFor (140 + t) 0 0 σ (g_up M2 20 1 0) = _ from p1, oB]
  exact q1
