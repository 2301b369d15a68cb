/-! loss: the model's days. -/
/-- what the model's days leave as it was (row 75 aside) -/
def lsK (a j : Nat) : Prop := a ≠ 74 ∧ ¬ (a = 40 ∧ 46 ≤ j ∧ j ≤ 56) ∧ ¬ (a = 40 ∧ 58 ≤ j ∧ j ≤ 62)
/-- what the telling asks of the state -/
def tlS (Mb M : gM) (t : Nat) (fa : Nat → Int32) : Prop := (∀ k, M 71 k = Mb 71 k) ∧ (∀ k, M 72 k = Mb 72 k) ∧ M 40 57 = fa 3 ∧ (∀ i, 4 ≤ i → M 40 16 = fa i)
theorem tlS.keep {Mb M M' : gM} {t : Nat} {fa : Nat → Int32} (h : tlS Mb M t fa) (k : ∀ a j, a = 71 ∨ a = 72 ∨ (a = 40 ∧ (j = 57 ∨ j = 16)) → M' a j = M a j) : tlS Mb M' t fa := by
  obtain ⟨h1, h2, h3, h4⟩ := h
  exact ⟨fun j => by rw [k _ _ (by omega)]; exact h1 j, fun j => by rw [k _ _ (by omega)]; exact h2 j, by rw [k _ _ (by omega)]; exact h3, fun i hi => by rw [k _ _ (by omega)]; exact h4 i hi⟩
theorem l_m147 {σ : gS} {Mb : gM} {rs : List gRule} {fa : Nat → Int32} {t e h up dn h0 u0 : Nat} {x2 : Int32} {L : Nat → Nat → Nat} {k98 : _} {k137 : _} (tell : tellsR Mb t rs) (hh : h ≤ 10) (hup : up ≤ 3) (hdn : dn ≤ 3) (hh0 : h0 ≤ 10) (hu0 : u0 ≤ 10) : ∀ k u n M N, u + k = 11 → k < n → (∀ g v, g ≤ 10 → v ≤ 10 → L g v ≤ 10000 ∧ M 76 (11 * g + v) = iN (L g v)) → tlS Mb M t fa → ∃ M' N', l_X12_losses_147 k98 k137 n (iN t) x2 (iN up) (iN dn) (iN h0) (iN u0) (iN (e + 1)) (iN h) (iN u) σ M N = k137 (iN t) x2 (iN up) (iN dn) (iN h0) (iN u0) (iN (e + 1)) (iN (h + 1)) σ M' N' ∧ (∀ v, u ≤ v → v ≤ 10 → M' 75 (11 * h + v) = iN (leastF (fun r => r * feeF fa rs (e + 1) h v + wstF (L (h - r)) up dn v) h).1) ∧ (M' 40 62 = if h = h0 ∧ u ≤ u0 then iN (leastF (fun r => r * feeF fa rs (e + 1) h0 u0 + wstF (L (h0 - r)) up dn u0) h0).2 else M 40 62) ∧ ∀ a j, lsK a j → ¬ (a = 75 ∧ 11 * h + u ≤ j ∧ j ≤ 11 * h + 10) → M' a j = M a j := by
  intro k
  induction k with
  | zero =>
    intro u n M N hu hn hL hS
    obtain ⟨n, rfl⟩ : ∃ m, n = m + 1 := ⟨n - 1, by omega⟩
    refine ⟨M, N, ?_, fun v h1 h2 => by omega, by rw [if_neg (by omega)], fun a j _ _ => rfl⟩
    rw [l_X12_losses_147, if_pos (by rw [show (10 : Int32) = iN 10 from rfl, iN_lt (by omega) (by omega)]; omega), eS]
  | succ k ih =>
    intro u n M N hu hn hL hS
    obtain ⟨n, rfl⟩ : ∃ m, n = m + 1 := ⟨n - 1, by omega⟩
    let A : gM := g_up (g_up (g_up M 40 54 (iN (e + 1))) 40 55 (iN h)) 40 56 (iN u)
    have fA : ∀ a j, ¬ (a = 40 ∧ 54 ≤ j ∧ j ≤ 56) → A a j = M a j := fun a j q => by
      show g_up (g_up (g_up M 40 54 (iN (e + 1))) 40 55 (iN h)) 40 56 (iN u) a j = _
      rw [g_up_ne _ _ (by omega), g_up_ne _ _ (by omega), g_up_ne _ _ (by omega)]
    have hfa : facts A = setF fa (e + 1) h u := by
      funext i
      unfold facts setF
      by_cases i0 : i = 0
      · rw [if_pos i0, if_pos i0]
        show g_up (g_up (g_up M 40 54 (iN (e + 1))) 40 55 (iN h)) 40 56 (iN u) 40 54 = _
        rw [g_up_ne _ _ (by omega), g_up_ne _ _ (by omega), g_up_eq _ _ ⟨rfl, rfl⟩]
      rw [if_neg i0, if_neg i0]
      by_cases i1 : i = 1
      · rw [if_pos i1, if_pos i1]
        show g_up (g_up (g_up M 40 54 (iN (e + 1))) 40 55 (iN h)) 40 56 (iN u) 40 55 = _
        rw [g_up_ne _ _ (by omega), g_up_eq _ _ ⟨rfl, rfl⟩]
      rw [if_neg i1, if_neg i1]
      by_cases i2 : i = 2
      · rw [if_pos i2, if_pos i2]
        show g_up (g_up (g_up M 40 54 (iN (e + 1))) 40 55 (iN h)) 40 56 (iN u) 40 56 = _
        rw [g_up_eq _ _ ⟨rfl, rfl⟩]
      rw [if_neg i2, if_neg i2]
      by_cases i3 : i = 3
      · rw [if_pos i3, i3, fA _ _ (by omega)]
        exact hS.2.2.1
      rw [if_neg i3, fA _ _ (by omega)]
      exact hS.2.2.2 i (by omega)
    obtain ⟨M1, N1, w1, w2⟩ := tell σ A N (fun j _ => by rw [fA _ _ (by omega)]; exact hS.1 _) (by rw [fA _ _ (by omega)]; exact hS.2.1 _) 0 (by omega)
    obtain ⟨fe1, fe2⟩ := feeF_eq fa rs (e + 1) h u
    rw [hfa, fe1] at w1
    have f1 : ∀ a j, a ≠ 74 → ¬ (a = 40 ∧ 46 ≤ j ∧ j ≤ 56) → ¬ (a = 40 ∧ 58 ≤ j ∧ j ≤ 59) → M1 a j = M a j := fun a j g1 g2 g3 => by rw [w2 a j g1 (by omega) g3, fA a j (by omega)]
    obtain ⟨M2, q1, q2, q3, q4, q5⟩ := l_m187 (σ := σ) (M := M1) (N := N1) (x1 := iN t) (x2 := x2) (x6 := iN h0) (x7 := iN u0) (x8 := iN (e + 1)) (L := L) (n := g_FU) (k98 := k98) (k137 := k137) (k147 := fun x1 x2 x3 x4 x6 x7 x8 x9 x10 σ M N => l_X12_losses_147 k98 k137 n x1 x2 x3 x4 x6 x7 x8 x9 x10 σ M N) hh (show u ≤ 10 by omega) hup hdn fe2 (by unfold g_FU; omega) (fun g v g1 g2 => by rw [f1 _ _ (by omega) (by omega) (by omega)]; exact hL g v g1 g2)
    have f2 : ∀ a j, lsK a j → ¬ (a = 75 ∧ j = 11 * h + u) → M2 a j = M a j := fun a j g1 g2 => by
      obtain ⟨g3, g4, g5⟩ := g1
      rw [q5 a j (by omega) g2, f1 a j g3 g4 (by omega)]
    obtain ⟨M', N', r1, r2, r3, r4⟩ := ih (u + 1) n M2 N1 (by omega) (by omega) (fun g v g1 g2 => by rw [f2 _ _ (by unfold lsK; omega) (by omega)]; exact hL g v g1 g2) (hS.keep (fun a j q => f2 a j (by unfold lsK; omega) (by omega)))
    refine ⟨M', N', ?_, fun v g1 g2 => ?_, ?_, fun a j g1 g2 => by rw [r4 a j g1 (by omega), f2 a j g1 (by omega)]⟩
    · rw [l_X12_losses_147, if_neg (by rw [show (10 : Int32) = iN 10 from rfl, iN_lt (by omega) (by omega)]; omega)]
      unfold b_X12_losses_172
      rw [show f_X12_told (iN t) 0 σ (g_up (g_up (g_up M 40 54 (iN (e + 1))) 40 55 (iN h)) 40 56 (iN u)) N = _ from w1, oB]
      exact q1.trans r1
    · by_cases c : v = u
      · subst c
        rw [r4 _ _ (by unfold lsK; omega) (by omega)]
        exact q2
      · exact r2 v (by omega) g2
    · rw [r3]
      by_cases c : h = h0 ∧ u = u0
      · obtain ⟨rfl, rfl⟩ := c
        rw [if_neg (by omega), if_pos ⟨rfl, Nat.le_refl _⟩]
        exact q3 ⟨rfl, rfl⟩
      · by_cases c2 : h = h0 ∧ u ≤ u0
        · rw [if_pos (by omega), if_pos c2]
        · rw [if_neg (by omega), if_neg c2, q4 (by rw [iN_inj (by omega) (by omega), iN_inj (by omega) (by omega)]; exact c), f1 _ _ (by omega) (by omega) (by omega)]
theorem l_m137 {σ : gS} {Mb : gM} {rs : List gRule} {fa : Nat → Int32} {t e up dn h0 u0 : Nat} {x2 : Int32} {L : Nat → Nat → Nat} {k98 : _} (tell : tellsR Mb t rs) (hup : up ≤ 3) (hdn : dn ≤ 3) (hh0 : h0 ≤ 10) (hu0 : u0 ≤ 10) : ∀ k h n M N, h + k = 11 → k < n → (∀ g v, g ≤ 10 → v ≤ 10 → L g v ≤ 10000 ∧ M 76 (11 * g + v) = iN (L g v)) → tlS Mb M t fa → ∃ M' N', l_X12_losses_137 k98 n (iN t) x2 (iN up) (iN dn) (iN h0) (iN u0) (iN (e + 1)) (iN h) σ M N = k98 (iN t) x2 (iN up) (iN dn) (iN h0) (iN u0) (iN (e + 2)) σ M' N' ∧ (∀ g v, h ≤ g → g ≤ 10 → v ≤ 10 → M' 75 (11 * g + v) = iN (leastF (fun r => r * feeF fa rs (e + 1) g v + wstF (L (g - r)) up dn v) g).1) ∧ (M' 40 62 = if h ≤ h0 then iN (leastF (fun r => r * feeF fa rs (e + 1) h0 u0 + wstF (L (h0 - r)) up dn u0) h0).2 else M 40 62) ∧ ∀ a j, lsK a j → ¬ (a = 75 ∧ 11 * h ≤ j) → M' a j = M a j := by
  intro k
  induction k with
  | zero =>
    intro h n M N hu hn hL hS
    obtain ⟨n, rfl⟩ : ∃ m, n = m + 1 := ⟨n - 1, by omega⟩
    refine ⟨M, N, ?_, fun g v h1 h2 => by omega, by rw [if_neg (by omega)], fun a j _ _ => rfl⟩
    rw [l_X12_losses_137, if_pos (by rw [show (10 : Int32) = iN 10 from rfl, iN_lt (by omega) (by omega)]; omega), eS]
  | succ k ih =>
    intro h n M N hu hn hL hS
    obtain ⟨n, rfl⟩ : ∃ m, n = m + 1 := ⟨n - 1, by omega⟩
    obtain ⟨M1, N1, q1, q2, q3, q4⟩ := l_m147 (σ := σ) (fa := fa) (e := e) (h := h) (h0 := h0) (u0 := u0) (x2 := x2) (L := L) (k98 := k98) (k137 := fun x1 x2 x3 x4 x6 x7 x8 x9 σ M N => l_X12_losses_137 k98 n x1 x2 x3 x4 x6 x7 x8 x9 σ M N) tell (by omega) hup hdn hh0 hu0 11 0 g_FU M N (by omega) (by unfold g_FU; omega) hL hS
    obtain ⟨M', N', r1, r2, r3, r4⟩ := ih (h + 1) n M1 N1 (by omega) (by omega) (fun g v g1 g2 => by rw [q4 _ _ (by unfold lsK; omega) (by omega)]; exact hL g v g1 g2) (hS.keep (fun a j q => q4 a j (by unfold lsK; omega) (by omega)))
    refine ⟨M', N', ?_, fun g v g1 g2 g3 => ?_, ?_, fun a j g1 g2 => by rw [r4 a j g1 (by omega), q4 a j g1 (by omega)]⟩
    · rw [l_X12_losses_137, if_neg (by rw [show (10 : Int32) = iN 10 from rfl, iN_lt (by omega) (by omega)]; omega)]
      exact q1.trans r1
    · by_cases c : g = h
      · subst c
        rw [r4 _ _ (by unfold lsK; omega) (by omega)]
        exact q2 v (by omega) g3
      · exact r2 g v (by omega) g2 g3
    · rw [r3, q3]
      by_cases c : h = h0
      · subst c
        rw [if_neg (by omega), if_pos (by omega), if_pos (by omega)]
      · by_cases c2 : h ≤ h0
        · rw [if_pos (by omega), if_pos c2]
        · rw [if_neg (by omega), if_neg c2, if_neg (by omega)]
theorem l_m107 {σ : gS} {x1 x2 x3 x4 x6 x7 x8 : Int32} {N : gN} {k98 : _} : ∀ k i n M, i + k = 121 → k < n → ∃ M', l_X12_losses_107 k98 n x1 x2 x3 x4 x6 x7 x8 (iN i) σ M N = l_X12_losses_137 k98 g_FU x1 x2 x3 x4 x6 x7 x8 0 σ M' N ∧ (∀ j, i ≤ j → j < 121 → M' 76 j = M 75 j) ∧ ∀ a j, ¬ (a = 76 ∧ i ≤ j) → M' a j = M a j := by
  intro k
  induction k with
  | zero =>
    intro i n M hi hn
    obtain ⟨n, rfl⟩ : ∃ m, n = m + 1 := ⟨n - 1, by omega⟩
    refine ⟨M, ?_, fun j h1 h2 => by omega, fun a j _ => rfl⟩
    rw [l_X12_losses_107, if_neg (by rw [show (121 : Int32) = iN 121 from rfl, iN_lt (by omega) (by omega)]; omega)]
  | succ k ih =>
    intro i n M hi hn
    obtain ⟨n, rfl⟩ : ∃ m, n = m + 1 := ⟨n - 1, by omega⟩
    have gi : g_in (iN i) 121 = true := by rw [iN_in (by omega)]; omega
    obtain ⟨M', q1, q2, q3⟩ := ih (i + 1) n (g_up M 76 i (M 75 i)) (by omega) (by omega)
    refine ⟨M', ?_, fun j h1 h2 => ?_, fun a j g => by rw [q3 a j (by omega), g_up_ne _ _ (by omega)]⟩
    · rw [l_X12_losses_107, if_pos (by rw [show (121 : Int32) = iN 121 from rfl, iN_lt (by omega) (by omega)]; omega), if_pos gi, if_pos gi, eS, iN_cl (by omega)]
      exact q1
    · by_cases c : j = i
      · subst c
        rw [q3 _ _ (by omega), g_up_eq _ _ ⟨rfl, rfl⟩]
      · rw [q2 j (by omega) h2, g_up_ne _ _ (by omega)]
theorem l_m98 {σ : gS} {Mb : gM} {rs : List gRule} {fa : Nat → Int32} {t d up dn h0 u0 sm : Nat} (tell : tellsR Mb t rs) (hd : d ≤ 30) (hsm : sm ≤ 1000) (hup : up ≤ 3) (hdn : dn ≤ 3) (hh0 : h0 ≤ 10) (hu0 : u0 ≤ 10) : ∀ k e n M N, e + k = d → k < n → (∀ g v, g ≤ 10 → v ≤ 10 → M 75 (11 * g + v) = iN (LsF (feeF fa rs) sm up dn e g v)) → tlS Mb M t fa → M 40 62 = iN (GvF (feeF fa rs) sm up dn e h0 u0) → ∃ M' N', l_X12_losses_98 n (iN t) (iN d) (iN up) (iN dn) (iN h0) (iN u0) (iN (e + 1)) σ M N = some (M', N') ∧ M' 75 (11 * h0 + u0) = iN (LsF (feeF fa rs) sm up dn d h0 u0) ∧ M' 40 62 = iN (GvF (feeF fa rs) sm up dn d h0 u0) ∧ ∀ a j, lsK a j → a ≠ 75 → a ≠ 76 → M' a j = M a j := by
  intro k
  induction k with
  | zero =>
    intro e n M N he hn hT hS hg
    obtain ⟨n, rfl⟩ : ∃ m, n = m + 1 := ⟨n - 1, by omega⟩
    obtain rfl : e = d := by omega
    refine ⟨M, N, ?_, hT h0 u0 hh0 hu0, hg, fun a j _ _ _ => rfl⟩
    rw [l_X12_losses_98, if_pos (by rw [iN_lt (by omega) (by omega)]; omega)]
  | succ k ih =>
    intro e n M N he hn hT hS hg
    obtain ⟨n, rfl⟩ : ∃ m, n = m + 1 := ⟨n - 1, by omega⟩
    obtain ⟨M1, a1, a2, a3⟩ := l_m107 (σ := σ) (x1 := iN t) (x2 := iN d) (x3 := iN up) (x4 := iN dn) (x6 := iN h0) (x7 := iN u0) (x8 := iN (e + 1)) (N := N) (k98 := fun x1 x2 x3 x4 x6 x7 x8 σ M N => l_X12_losses_98 n x1 x2 x3 x4 x6 x7 x8 σ M N) 121 0 g_FU M (by omega) (by unfold g_FU; omega)
    obtain ⟨M2, N2, b1, b2, b3, b4⟩ := l_m137 (σ := σ) (fa := fa) (e := e) (h0 := h0) (u0 := u0) (x2 := iN d) (L := LsF (feeF fa rs) sm up dn e) (k98 := fun x1 x2 x3 x4 x6 x7 x8 σ M N => l_X12_losses_98 n x1 x2 x3 x4 x6 x7 x8 σ M N) tell hup hdn hh0 hu0 11 0 g_FU M1 N (by omega) (by unfold g_FU; omega) (fun g v g1 g2 => ⟨LsF_le hsm _ _ _ g1 g2, by rw [a2 _ (by omega) (by omega)]; exact hT g v g1 g2⟩) (hS.keep (fun a j q => a3 a j (by omega)))
    obtain ⟨M', N', q1, q2, q3, q4⟩ := ih (e + 1) n M2 N2 (by omega) (by omega) (fun g v g1 g2 => b2 g v (by omega) g1 g2) (hS.keep (fun a j q => by rw [b4 a j (by unfold lsK; omega) (by omega), a3 a j (by omega)])) (by rw [b3, if_pos (by omega)]; rfl)
    refine ⟨M', N', ?_, q2, q3, fun a j g1 g2 g3 => by rw [q4 a j g1 g2 g3, b4 a j g1 (by omega), a3 a j (by omega)]⟩
    rw [l_X12_losses_98, if_neg (by rw [iN_lt (by omega) (by omega)]; omega)]
    exact (a1.trans b1).trans q1
