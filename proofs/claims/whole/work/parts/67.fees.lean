/-! loss: the class's fees. -/
theorem clampI_nat (x : Int32) : ∃ n, n ≤ 100 ∧ clampI x = iN n := by
  unfold clampI
  by_cases h : x < 0
  · exact ⟨0, by omega, if_pos h⟩
  · rw [if_neg h]
    obtain ⟨e, hb⟩ := iN_of h
    by_cases h2 : 100 < x
    · exact ⟨100, by omega, if_pos h2⟩
    · refine ⟨x.toNatClampNeg, ?_, by rw [if_neg h2]; exact e⟩
      rw [e, show (100 : Int32) = iN 100 from rfl, iN_lt (by omega) hb] at h2
      omega
theorem worthI_nat (fa : Nat → Int32) (kind : Nat) : ∀ rs, ∃ n, n ≤ 100 ∧ worthI fa kind rs = iN n := by
  intro rs
  induction rs with
  | nil => exact ⟨0, by omega, rfl⟩
  | cons r rs ih =>
    unfold worthI
    by_cases h : r.1 = kind ∧ (r.2.2 = [] ∨ valI fa r.2.2 ≠ 0)
    · rw [if_pos h]; exact clampI_nat _
    · rw [if_neg h]; exact ih
def setF (fa : Nat → Int32) (e h u : Nat) (i : Nat) : Int32 := if i = 0 then iN e else if i = 1 then iN h else if i = 2 then iN u else fa i
def feeF (fa : Nat → Int32) (rs : List gRule) (e h u : Nat) : Nat := (worthI (setF fa e h u) 0 rs).toNatClampNeg
theorem feeF_eq (fa : Nat → Int32) (rs : List gRule) (e h u : Nat) : worthI (setF fa e h u) 0 rs = iN (feeF fa rs e h u) ∧ feeF fa rs e h u ≤ 100 := by
  obtain ⟨n, h1, h2⟩ := worthI_nat (setF fa e h u) 0 rs
  unfold feeF
  rw [h2, iN_cl (by omega)]
  exact ⟨rfl, h1⟩
theorem feeF_e {fa : Nat → Int32} {rs : List gRule} (h : noAsk 0 0 rs) (e e' g u : Nat) : feeF fa rs e g u = feeF fa rs e' g u := by
  unfold feeF
  rw [worthI_congr (fb := setF fa e' g u) (fun j hj => by unfold setF; rw [if_neg hj, if_neg hj]) (by omega) rs h]
theorem feeF_h {fa : Nat → Int32} {rs : List gRule} (h : noAsk 0 1 rs) (e g g' u : Nat) : feeF fa rs e g u = feeF fa rs e g' u := by
  unfold feeF
  rw [worthI_congr (fb := setF fa e g' u) (fun j hj => by unfold setF; rw [if_neg hj, if_neg hj]) (by omega) rs h]
theorem feeF_u {fa : Nat → Int32} {rs : List gRule} (h : noAsk 0 2 rs) (e g u u' : Nat) : feeF fa rs e g u = feeF fa rs e g u' := by
  unfold feeF
  rw [worthI_congr (fb := setF fa e g u') (fun j hj => by unfold setF; rw [if_neg hj, if_neg hj]) (by omega) rs h]
/-- the facts' row: left, held, the others -/
def faR (M : gM) (t : Nat) (fa : Nat → Int32) (e : Nat) : Prop := M (170 + t) 0 = iN e ∧ M (170 + t) 3 = fa 3 ∧ M (170 + t) 4 = fa 4
theorem l_fees48 {σ : gS} {T t : Nat} {rs : List gRule} {fa : Nat → Int32} (hs : ctS σ T t rs) {e h lo hi : Nat} {x3 x4 : Int32} (ha3 : x3 = 0 → noAsk 0 1 rs) (ha4 : x4 = 0 → noAsk 0 2 rs) {k25 : Nat → Int32 → Int32 → Int32 → gS → gM → Option gM} (h1 : 1 ≤ h) (hh : h ≤ 10) (hhi : hi ≤ 10) : ∀ k u n M, u + k = hi + 1 → lo ≤ u → k < n → M 20 8 = iN lo → M 20 9 = iN hi → ctR σ M t rs → faR M t fa e → M (170 + t) 1 = iN h → (1 < h → ∀ v, lo ≤ v → v ≤ hi → M 23 (11 * (h - 1) + v) = iN (feeF fa rs e (h - 1) v)) → (∀ v, lo ≤ v → v < u → M 23 (11 * h + v) = iN (feeF fa rs e h v)) → ∃ M', l_X3_fillFees_48 k25 n (140 + t) x3 x4 (iN h) (iN u) σ M = k25 (140 + t) x3 x4 (iN (h + 1)) σ M' ∧ (∀ v, lo ≤ v → v ≤ hi → M' 23 (11 * h + v) = iN (feeF fa rs e h v)) ∧ ∀ a j, ¬ (a = 23 ∧ 11 * h + u ≤ j ∧ j ≤ 11 * h + hi) → ¬ (a = 170 + t ∧ j = 2) → a ≠ 180 + t → M' a j = M a j := by
  have hs0 := hs
  obtain ⟨s1, s2, s3, s4, s5, s6, s7⟩ := hs
  obtain ⟨c0, c1, c2, c3, c4, c5, c6, c7, c8⟩ := (s1.1 t s4).2
  have hd := s2.at s4
  intro k
  induction k with
  | zero =>
    intro u n M hu hlu hn h8 h9 hc hf hf1 hp hq
    obtain ⟨n, rfl⟩ : ∃ m, n = m + 1 := ⟨n - 1, by omega⟩
    refine ⟨M, ?_, fun v h1 h2 => hq v h1 (by omega), fun a j _ _ _ => rfl⟩
    rw [l_X3_fillFees_48, h9, if_pos (by rw [iN_lt (by omega) (by omega)]; omega), eS]
  | succ k ih =>
    intro u n M hu hlu hn h8 h9 hc hf hf1 hp hq
    obtain ⟨n, rfl⟩ : ∃ m, n = m + 1 := ⟨n - 1, by omega⟩
    obtain ⟨fe1, fe2⟩ := feeF_eq fa rs e h u
    have gi : g_in (iN (11 * h + u)) 121 = true := by rw [iN_in (by omega)]; omega
    have step : ∀ M1 : gM, M1 23 (11 * h + u) = iN (feeF fa rs e h u) → (∀ a j, ¬ (a = 23 ∧ j = 11 * h + u) → ¬ (a = 170 + t ∧ j = 2) → a ≠ 180 + t → M1 a j = M a j) → ∃ M', l_X3_fillFees_48 k25 n (140 + t) x3 x4 (iN h) (iN (u + 1)) σ M1 = k25 (140 + t) x3 x4 (iN (h + 1)) σ M' ∧ (∀ v, lo ≤ v → v ≤ hi → M' 23 (11 * h + v) = iN (feeF fa rs e h v)) ∧ ∀ a j, ¬ (a = 23 ∧ 11 * h + u ≤ j ∧ j ≤ 11 * h + hi) → ¬ (a = 170 + t ∧ j = 2) → a ≠ 180 + t → M' a j = M a j := fun M1 e1 e2 => by
      obtain ⟨M', q1, q2, q3⟩ := ih (u + 1) n M1 (by omega) (by omega) (by omega) (by rw [e2 _ _ (by omega) (by omega) (by omega)]; exact h8) (by rw [e2 _ _ (by omega) (by omega) (by omega)]; exact h9) (hc.keep hs0 (fun a j h => e2 a j (by omega) (by omega) (by omega))) (by unfold faR at *; simp (disch := omega) only [e2]; exact hf) (by rw [e2 _ _ (by omega) (by omega) (by omega)]; exact hf1) (fun g v g1 g2 => by rw [e2 _ _ (by omega) (by omega) (by omega)]; exact hp g v g1 g2) (fun v g1 g2 => by
        by_cases c : v = u
        · subst c; exact e1
        · rw [e2 _ _ (by omega) (by omega) (by omega)]; exact hq v g1 (by omega))
      exact ⟨M', q1, q2, fun a j g1 g2 g3 => by rw [q3 a j (by omega) g2 g3, e2 a j (by omega) g2 g3]⟩
    have work : ∃ M', b_X3_fillFees_138 k25 (fun r1 x3 x4 x5 x6 σ M => l_X3_fillFees_48 k25 n r1 x3 x4 x5 x6 σ M) (140 + t) x3 x4 (iN h) (iN u) (iN (11 * h + u)) σ (g_up M (170 + t) 2 (iN u)) = k25 (140 + t) x3 x4 (iN (h + 1)) σ M' ∧ (∀ v, lo ≤ v → v ≤ hi → M' 23 (11 * h + v) = iN (feeF fa rs e h v)) ∧ ∀ a j, ¬ (a = 23 ∧ 11 * h + u ≤ j ∧ j ≤ 11 * h + hi) → ¬ (a = 170 + t ∧ j = 2) → a ≠ 180 + t → M' a j = M a j := by
      have hc2 : ctR σ (g_up M (170 + t) 2 (iN u)) t rs := hc.keep hs0 (fun a j h => g_up_ne _ _ (by omega))
      obtain ⟨M2, w1, w2⟩ := worth_c (kind := 0) (fa := setF fa e h u) (M := g_up M (170 + t) 2 (iN u)) s1 s2 s3 s4 (by omega) s5 s6 s7 hc2.1 hc2.2 (fun j hj => by
        unfold setF
        by_cases j0 : j = 0
        · subst j0; rw [if_pos rfl, g_up_ne _ _ (by omega)]; exact hf.1
        by_cases j1 : j = 1
        · subst j1; rw [if_neg (by omega), if_pos rfl, g_up_ne _ _ (by omega)]; exact hf1
        by_cases j2 : j = 2
        · subst j2; rw [if_neg (by omega), if_neg (by omega), if_pos rfl, g_up_eq _ _ ⟨rfl, rfl⟩]
        rw [if_neg j0, if_neg j1, if_neg j2, g_up_ne _ _ (by omega)]
        by_cases j3 : j = 3
        · subst j3; exact hf.2.1
        · obtain rfl : j = 4 := by omega
          exact hf.2.2)
      obtain ⟨M', q1, q2, q3⟩ := step (g_up M2 23 (11 * h + u) (iN (feeF fa rs e h u))) (g_up_eq _ _ ⟨rfl, rfl⟩) (fun a j g1 g2 g3 => by rw [g_up_ne _ _ g1, w2 a j g3, g_up_ne _ _ g2])
      refine ⟨M', ?_, q2, q3⟩
      unfold b_X3_fillFees_138 b_X3_fillFees_150
      rw [if_pos (by rw [is_of c0]; trivial), show f_X2_worthOf (140 + t) 0 σ (g_up M (170 + t) 2 (iN u)) = _ from w1, oB, if_pos gi, iN_cl (by omega), fe1, eS]
      exact q1
    have mid : ∃ M', b_X3_fillFees_105 k25 (fun r1 x3 x4 x5 x6 σ M => l_X3_fillFees_48 k25 n r1 x3 x4 x5 x6 σ M) (140 + t) x3 x4 (iN h) (iN u) (iN (11 * h + u)) σ (g_up M (170 + t) 2 (iN u)) = k25 (140 + t) x3 x4 (iN (h + 1)) σ M' ∧ (∀ v, lo ≤ v → v ≤ hi → M' 23 (11 * h + v) = iN (feeF fa rs e h v)) ∧ ∀ a j, ¬ (a = 23 ∧ 11 * h + u ≤ j ∧ j ≤ 11 * h + hi) → ¬ (a = 170 + t ∧ j = 2) → a ≠ 180 + t → M' a j = M a j := by
      unfold b_X3_fillFees_105
      rw [g_up_ne _ _ (by omega), h8]
      by_cases c : lo < u
      · rw [if_pos (show iN lo < iN u by rw [iN_lt (by omega) (by omega)]; exact c)]
        by_cases c4' : x4 = 0
        · obtain ⟨M', q1, q2, q3⟩ := step (g_up (g_up M (170 + t) 2 (iN u)) 23 (11 * h + u) (iN (feeF fa rs e h u))) (g_up_eq _ _ ⟨rfl, rfl⟩) (fun a j g1 g2 g3 => by rw [g_up_ne _ _ g1, g_up_ne _ _ g2])
          refine ⟨M', ?_, q2, q3⟩
          have e1 : iN (11 * h + u) - (1 : Int32) = iN (11 * h + (u - 1)) := by rw [show (1 : Int32) = iN 1 from rfl, iN_sub (by omega)]; congr 1; omega
          have gi' : g_in (iN (11 * h + (u - 1))) 121 = true := by rw [iN_in (by omega)]; omega
          rw [if_pos c4', e1, if_pos gi', if_pos gi, iN_cl (by omega), iN_cl (by omega), g_up_ne _ _ (by omega), hq (u - 1) (by omega) (by omega), feeF_u (ha4 c4') e h (u - 1) u]
          unfold b_X3_fillFees_150
          rw [eS]
          exact q1
        · rw [if_neg c4']; exact work
      · rw [if_neg (show ¬ iN lo < iN u by rw [iN_lt (by omega) (by omega)]; exact c)]
        exact work
    rw [l_X3_fillFees_48, h9, if_neg (by rw [iN_lt (by omega) (by omega)]; omega), if_pos (by rw [is_of c0]; trivial), c3, if_pos (by rw [is_of c7]; trivial), ln_of c7, if_pos (show g_in 2 5 = true by decide), show (2 : Int32).toNatClampNeg = 2 from rfl, e11]
    by_cases c : 1 < h
    · rw [if_pos (show (1 : Int32) < iN h by rw [show (1 : Int32) = iN 1 from rfl, iN_lt (by omega) (by omega)]; exact c)]
      by_cases c3' : x3 = 0
      · obtain ⟨M', q1, q2, q3⟩ := step (g_up (g_up M (170 + t) 2 (iN u)) 23 (11 * h + u) (iN (feeF fa rs e h u))) (g_up_eq _ _ ⟨rfl, rfl⟩) (fun a j g1 g2 g3 => by rw [g_up_ne _ _ g1, g_up_ne _ _ g2])
        refine ⟨M', ?_, q2, q3⟩
        have e1 : iN (11 * h + u) - (11 : Int32) = iN (11 * (h - 1) + u) := by rw [show (11 : Int32) = iN 11 from rfl, iN_sub (by omega)]; congr 1; omega
        have gi' : g_in (iN (11 * (h - 1) + u)) 121 = true := by rw [iN_in (by omega)]; omega
        rw [if_pos c3', e1, if_pos gi', if_pos gi, iN_cl (by omega), iN_cl (by omega), g_up_ne _ _ (by omega), hp c u (by omega) (by omega), feeF_h (ha3 c3') e (h - 1) h u]
        unfold b_X3_fillFees_150
        rw [eS]
        exact q1
      · rw [if_neg c3']; exact mid
    · rw [if_neg (show ¬ (1 : Int32) < iN h by rw [show (1 : Int32) = iN 1 from rfl, iN_lt (by omega) (by omega)]; exact c)]
      exact mid
