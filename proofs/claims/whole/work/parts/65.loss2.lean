/-! loss: the class's worst and least. -/
/-- the table is right on the spread -/
def tabR (M : gM) (row H lo hi : Nat) (f : Nat → Nat → Nat) : Prop := ∀ g v, g ≤ H → lo ≤ v → v ≤ hi → M row (11 * g + v) = iN (f g v)
theorem e11 (h u : Nat) : iN h * (11 : Int32) + iN u = iN (11 * h + u) := by rw [show (11 : Int32) = iN 11 from rfl, iN_mul, iN_add, Nat.mul_comm]
theorem e11' (h u : Nat) : (11 : Int32) * iN h + iN u = iN (11 * h + u) := by rw [show (11 : Int32) = iN 11 from rfl, iN_mul, iN_add]
theorem eS (u : Nat) : iN u + (1 : Int32) = iN (u + 1) := iN_add u 1
theorem l_wst50 {σ : gS} {h u lo hi : Nat} {f : Nat → Nat} {k2 : Int32 → gS → gM → Option gM} {k15 : Int32 → Int32 → gS → gM → Option gM} (hh : h ≤ 10) (hu : u ≤ 10) (hhi : hi ≤ 10) (hlo : lo ≤ hi + 1) {M : gM} (hf : ∀ v, lo ≤ v → v ≤ hi → f v ≤ 10000 ∧ M 21 (11 * h + v) = iN (f v)) : ∀ k i n, i + k = hi + 1 - lo → k < n → l_X3_fillWorst_50 k2 k15 n (iN h) (iN u) (iN hi) (iN (mostF f lo i)) (iN (lo + i)) σ M = k15 (iN h) (iN (u + 1)) σ (g_up M 22 (11 * h + u) (iN (mostF f lo (hi + 1 - lo)))) := by
  intro k
  induction k with
  | zero =>
    intro i n hi' hn
    obtain ⟨n, rfl⟩ : ∃ m, n = m + 1 := ⟨n - 1, by omega⟩
    have gi : g_in (iN (11 * h + u)) 121 = true := by rw [iN_in (by omega)]; omega
    obtain rfl : i = hi + 1 - lo := by omega
    rw [l_X3_fillWorst_50, if_pos (by rw [iN_lt (by omega) (by omega)]; omega), e11, if_pos gi, iN_cl (by omega), eS]
  | succ k ih =>
    intro i n hi' hn
    obtain ⟨n, rfl⟩ : ∃ m, n = m + 1 := ⟨n - 1, by omega⟩
    have h1 := hf (lo + i) (by omega) (by omega)
    have hm : mostF f lo i ≤ 10000 := mostF_le i (fun j hj => (hf (lo + j) (by omega) (by omega)).1)
    have gi : g_in (iN (11 * h + (lo + i))) 121 = true := by rw [iN_in (by omega)]; omega
    rw [l_X3_fillWorst_50, if_neg (by rw [iN_lt (by omega) (by omega)]; omega), e11, if_pos gi, iN_cl (by omega), eS, h1.2]
    have e : (if iN (mostF f lo i) < iN (f (lo + i)) then iN (f (lo + i)) else iN (mostF f lo i)) = iN (mostF f lo (i + 1)) := by
      rw [mostF]
      by_cases c : mostF f lo i < f (lo + i)
      · rw [if_pos (by rw [iN_lt (by omega) (by omega)]; exact c), if_pos c]
      · rw [if_neg (by rw [iN_lt (by omega) (by omega)]; exact c), if_neg c]
    rw [e]
    exact ih (i + 1) n (by omega) (by omega)
/-- a difference, at least 0 -/
theorem sub_pos {a b : Nat} (ha : a ≤ 1000) (hb : b ≤ 1000) : (if (0 : Int32) < iN a - iN b then iN a - iN b else 0) = iN (a - b) := by
  by_cases c : b ≤ a
  · rw [iN_sub c]
    by_cases c2 : a - b = 0
    · rw [c2, if_neg (by decide)]; rfl
    · rw [if_pos (by rw [show (0 : Int32) = iN 0 from rfl, iN_lt (by omega) (by omega)]; omega)]
  · have e : iN a - iN b = -(iN (b - a)) := by
      rw [← iN_sub (show a ≤ b by omega), Int32.neg_sub]
    rw [if_neg, show a - b = 0 by omega]
    · rfl
    · rw [Int32.lt_iff_toInt_lt, e, Int32.toInt_neg, iN_toInt (by omega)]
      have : (0 : Int32).toInt = 0 := rfl
      rw [this]
      rw [Int.bmod_eq_of_le (by omega) (by omega)]
      omega
theorem min_10 {a : Nat} (ha : a ≤ 1000) : (if iN a < (10 : Int32) then iN a else 10) = iN (minN a 10) := by
  unfold minN
  rw [show (10 : Int32) = iN 10 from rfl]
  by_cases c : a < 10
  · rw [if_pos (by rw [iN_lt (by omega) (by omega)]; exact c), if_pos c]
  · rw [if_neg (by rw [iN_lt (by omega) (by omega)]; exact c), if_neg c]
/-- what the losses' rows hold: up, down, most held, lowest, highest -/
def lsR (M : gM) (up dn H lo hi : Nat) : Prop := M 20 5 = iN up ∧ M 20 6 = iN dn ∧ M 20 7 = iN H ∧ M 20 8 = iN lo ∧ M 20 9 = iN hi
theorem l_wst15 {σ : gS} {up dn H h lo hi lo' hi' : Nat} {f : Nat → Nat} {k2 : Int32 → gS → gM → Option gM} (hup : up ≤ 3) (hdn : dn ≤ 3) (hh : h ≤ 10) (hhi : hi ≤ 10) (s1 : lo' ≤ lo - dn) (s2 : minN (hi + up) 10 ≤ hi') (s3 : hi' ≤ 10) : ∀ k u n M, u + k = hi + 1 → lo ≤ u → k < n → lsR M up dn H lo hi → (∀ v, lo' ≤ v → v ≤ hi' → f v ≤ 10000 ∧ M 21 (11 * h + v) = iN (f v)) → ∃ M', l_X3_fillWorst_15 k2 n (iN h) (iN u) σ M = k2 (iN (h + 1)) σ M' ∧ (∀ v, u ≤ v → v ≤ hi → M' 22 (11 * h + v) = iN (wstF f up dn v)) ∧ ∀ a j, ¬ (a = 22 ∧ 11 * h + u ≤ j ∧ j ≤ 11 * h + hi) → M' a j = M a j := by
  intro k
  induction k with
  | zero =>
    intro u n M hu hlu hn hR hf
    obtain ⟨n, rfl⟩ : ∃ m, n = m + 1 := ⟨n - 1, by omega⟩
    refine ⟨M, ?_, fun v h1 h2 => by omega, fun a j _ => rfl⟩
    rw [l_X3_fillWorst_15, hR.2.2.2.2, if_pos (by rw [iN_lt (by omega) (by omega)]; omega), eS]
  | succ k ih =>
    intro u n M hu hlu hn hR hf
    obtain ⟨n, rfl⟩ : ∃ m, n = m + 1 := ⟨n - 1, by omega⟩
    have hm := minN_le (u + up) 10
    have hm2 := minN_le (hi + up) 10
    have hmm : minN (u + up) 10 ≤ minN (hi + up) 10 := by omega
    have hw : u - dn ≤ minN (u + up) 10 := by omega
    obtain ⟨M', q1, q2, q3⟩ := ih (u + 1) n (g_up M 22 (11 * h + u) (iN (wstF f up dn u))) (by omega) (by omega) (by omega) (by unfold lsR at *; simp (disch := omega) only [g_up_ne]; exact hR) (fun v h1 h2 => by rw [g_up_ne _ _ (by omega)]; exact hf v h1 h2)
    refine ⟨M', ?_, fun v h1 h2 => ?_, fun a j hj => by rw [q3 a j (by omega), g_up_ne _ _ (by omega)]⟩
    · rw [l_X3_fillWorst_15, hR.2.2.2.2, if_neg (by rw [iN_lt (by omega) (by omega)]; omega), hR.1, hR.2.1, iN_add, min_10 (by omega), sub_pos (by omega) (by omega)]
      have q := l_wst50 (σ := σ) (h := h) (u := u) (lo := u - dn) (hi := minN (u + up) 10) (f := f) (k2 := k2) (k15 := fun x1 x2 σ M => l_X3_fillWorst_15 k2 n x1 x2 σ M) (M := M) hh (by omega) (by omega) (by omega) (fun v h1 h2 => hf v (by omega) (by omega)) (minN (u + up) 10 + 1 - (u - dn)) 0 g_FU (by omega) (by unfold g_FU; omega)
      rw [Nat.add_zero] at q
      exact q.trans q1
    · by_cases c : v = u
      · subst c
        rw [q3 _ _ (by omega), g_up_eq _ _ ⟨rfl, rfl⟩]
      · exact q2 v (by omega) h2
theorem l_wst2 {σ : gS} {up dn H lo hi lo' hi' : Nat} {f : Nat → Nat → Nat} (hup : up ≤ 3) (hdn : dn ≤ 3) (hH : H ≤ 10) (hhi : hi ≤ 10) (hlo : lo ≤ hi) (s1 : lo' ≤ lo - dn) (s2 : minN (hi + up) 10 ≤ hi') (s3 : hi' ≤ 10) (hb : ∀ g v, g ≤ 10 → v ≤ 10 → f g v ≤ 10000) : ∀ k h n M, h + k = H + 1 → k < n → lsR M up dn H lo hi → tabR M 21 H lo' hi' f → ∃ M', l_X3_fillWorst_2 n (iN h) σ M = some M' ∧ (∀ g v, h ≤ g → g ≤ H → lo ≤ v → v ≤ hi → M' 22 (11 * g + v) = iN (wstF (f g) up dn v)) ∧ ∀ a j, ¬ (a = 22 ∧ 11 * h ≤ j) → M' a j = M a j := by
  intro k
  induction k with
  | zero =>
    intro h n M hu hn hR hf
    obtain ⟨n, rfl⟩ : ∃ m, n = m + 1 := ⟨n - 1, by omega⟩
    refine ⟨M, ?_, fun g v h1 h2 => by omega, fun a j _ => rfl⟩
    rw [l_X3_fillWorst_2, hR.2.2.1, if_pos (by rw [iN_lt (by omega) (by omega)]; omega)]
  | succ k ih =>
    intro h n M hu hn hR hf
    obtain ⟨n, rfl⟩ : ∃ m, n = m + 1 := ⟨n - 1, by omega⟩
    obtain ⟨M1, a1, a2, a3⟩ := l_wst15 (σ := σ) (up := up) (dn := dn) (H := H) (h := h) (lo := lo) (hi := hi) (lo' := lo') (hi' := hi') (f := f h) (k2 := fun x1 σ M => l_X3_fillWorst_2 n x1 σ M) hup hdn (by omega) hhi s1 s2 s3 (hi + 1 - lo) lo g_FU M (by omega) (by omega) (by unfold g_FU; omega) hR (fun v h1 h2 => ⟨hb _ _ (by omega) (by omega), hf h v (by omega) h1 h2⟩)
    obtain ⟨M', q1, q2, q3⟩ := ih (h + 1) n M1 (by omega) (by omega) (by unfold lsR at *; simp (disch := omega) only [a3]; exact hR) (fun g v h1 h2 h3 => by rw [a3 _ _ (by omega)]; exact hf g v h1 h2 h3)
    refine ⟨M', ?_, fun g v h1 h2 h3 h4 => ?_, fun a j hj => by rw [q3 a j (by omega), a3 a j (by omega)]⟩
    · rw [l_X3_fillWorst_2, hR.2.2.1, if_neg (by rw [iN_lt (by omega) (by omega)]; omega), hR.2.2.2.1, a1]
      exact q1
    · by_cases c : g = h
      · subst c
        rw [q3 _ _ (by omega)]
        exact a2 v h3 h4
      · exact q2 g v (by omega) h2 h3 h4
/-! the least -/
theorem l_least {σ : gS} {h u fee : Nat} {W : Nat → Nat} (hh : h ≤ 10) (hu : u ≤ 10) (hfee : fee ≤ 100) : ∀ k r n M, r + k = h → k + 1 < n + 1 → (∀ g, g ≤ h → W g ≤ 10000 ∧ M 22 (11 * g + u) = iN (W g)) → M 20 1 = iN (leastF (fun r => r * fee + W (h - r)) r).2 → ∃ M', l_X3_leastOf_33 (n + 1) (iN h) (iN u) (iN fee) (iN (leastF (fun r => r * fee + W (h - r)) r).1) (iN (r + 1)) σ M = some (iN (leastF (fun r => r * fee + W (h - r)) h).1, M') ∧ M' 20 1 = iN (leastF (fun r => r * fee + W (h - r)) h).2 ∧ ∀ a j, ¬ (a = 20 ∧ j = 1) → M' a j = M a j := by
  intro k
  induction k with
  | zero =>
    intro r n M hr hn hW h1
    obtain rfl : r = h := by omega
    refine ⟨M, ?_, h1, fun a j _ => rfl⟩
    rw [l_X3_leastOf_33, if_pos (by rw [iN_lt (by omega) (by omega)]; omega)]
  | succ k ih =>
    intro r n M hr hn hW h1
    obtain ⟨n, rfl⟩ : ∃ m, n = m + 1 := ⟨n - 1, by omega⟩
    obtain ⟨w1, w2⟩ := hW (h - (r + 1)) (by omega)
    have gi : g_in (iN (11 * (h - (r + 1)) + u)) 121 = true := by rw [iN_in (by omega)]; omega
    have b0 := (leastF_le (f := fun r => r * fee + W (h - r)) r).1
    have b1 : (r + 1) * fee ≤ 1000 := Nat.le_trans (Nat.mul_le_mul (show r + 1 ≤ 10 by omega) hfee) (by omega)
    have b2 := (hW (h - 0) (by omega)).1
    have b3 : (leastF (fun r => r * fee + W (h - r)) r).1 ≤ 10000 := by
      refine Nat.le_trans b0 ?_
      show 0 * fee + W (h - 0) ≤ _
      omega
    rw [l_X3_leastOf_33, if_neg (by rw [iN_lt (by omega) (by omega)]; omega), iN_sub (by omega), e11, if_pos gi, iN_cl (by omega), w2, iN_mul, iN_add]
    unfold b_X3_leastOf_77
    rw [eS]
    by_cases c : (r + 1) * fee + W (h - (r + 1)) < (leastF (fun r => r * fee + W (h - r)) r).1
    · have e : leastF (fun r => r * fee + W (h - r)) (r + 1) = ((r + 1) * fee + W (h - (r + 1)), r + 1) := by rw [leastF]; exact if_pos c
      obtain ⟨M', q1, q2, q3⟩ := ih (r + 1) n (g_up M 20 1 (iN (r + 1))) (by omega) (by omega) (fun g hg => by rw [g_up_ne _ _ (by omega)]; exact hW g hg) (by rw [g_up_eq _ _ ⟨rfl, rfl⟩, e])
      rw [e] at q1
      refine ⟨M', ?_, q2, fun a j hj => by rw [q3 a j hj, g_up_ne _ _ hj]⟩
      rw [if_pos (by rw [iN_lt (by omega) (by omega)]; exact c)]
      exact q1
    · have e : leastF (fun r => r * fee + W (h - r)) (r + 1) = leastF (fun r => r * fee + W (h - r)) r := by rw [leastF]; exact if_neg c
      obtain ⟨M', q1, q2, q3⟩ := ih (r + 1) n M (by omega) (by omega) hW (by rw [e]; exact h1)
      rw [e] at q1
      refine ⟨M', ?_, q2, q3⟩
      rw [if_neg (by rw [iN_lt (by omega) (by omega)]; exact c)]
      exact q1
theorem leastOf_c {σ : gS} {h u fee : Nat} {W : Nat → Nat} {M : gM} (hh : h ≤ 10) (hu : u ≤ 10) (hfee : 0 < h → fee ≤ 100 ∧ M 23 (11 * h + u) = iN fee) (hW : ∀ g, g ≤ h → W g ≤ 10000 ∧ M 22 (11 * g + u) = iN (W g)) : ∃ M', f_X3_leastOf (iN h) (iN u) σ M = some (iN (leastF (fun r => r * fee + W (h - r)) h).1, M') ∧ M' 20 1 = iN (leastF (fun r => r * fee + W (h - r)) h).2 ∧ ∀ a j, ¬ (a = 20 ∧ j = 1) → M' a j = M a j := by
  have gi : g_in (iN (11 * h + u)) 121 = true := by rw [iN_in (by omega)]; omega
  have w := (hW h (Nat.le_refl _)).2
  unfold f_X3_leastOf b_X3_leastOf_0
  rw [e11, if_pos gi, if_pos gi, iN_cl (by omega), w]
  have e0 : leastF (fun r => r * fee + W (h - r)) 0 = (W h, 0) := by
    show (0 * fee + W (h - 0), 0) = _
    rw [Nat.zero_mul, Nat.zero_add, Nat.sub_zero]
  by_cases c : h = 0
  · subst c
    refine ⟨g_up M 20 1 (iN 0), ?_, by rw [g_up_eq _ _ ⟨rfl, rfl⟩, e0], fun a j hj => g_up_ne _ _ hj⟩
    rw [show g_FU = (g_FU - 1) + 1 from rfl, l_X3_leastOf_33, if_pos (show iN 0 < (1 : Int32) by decide), e0]
    rfl
  · obtain ⟨f1, f2⟩ := hfee (by omega)
    obtain ⟨M', q1, q2, q3⟩ := l_least (σ := σ) (W := W) hh hu f1 h 0 (g_FU - 1) (g_up M 20 1 (iN 0)) (by omega) (by unfold g_FU; omega) (fun g hg => by rw [g_up_ne _ _ (by omega)]; exact hW g hg) (by rw [g_up_eq _ _ ⟨rfl, rfl⟩, e0])
    refine ⟨M', ?_, q2, fun a j hj => by rw [q3 a j hj, g_up_ne _ _ hj]⟩
    rw [f2]
    rw [e0] at q1
    exact q1
theorem l_day15 {σ : gS} {up dn H h lo hi : Nat} {fee W : Nat → Nat → Nat} {k2 : Int32 → gS → gM → Option gM} (hh : h ≤ 10) (hhi : hi ≤ 10) : ∀ k u n M, u + k = hi + 1 → lo ≤ u → k < n → lsR M up dn H lo hi → (∀ v, lo ≤ v → v ≤ hi → 0 < h → fee h v ≤ 100 ∧ M 23 (11 * h + v) = iN (fee h v)) → (∀ g v, g ≤ h → lo ≤ v → v ≤ hi → W g v ≤ 10000 ∧ M 22 (11 * g + v) = iN (W g v)) → ∃ M', l_X3_fillDay_15 k2 n (iN h) (iN u) σ M = k2 (iN (h + 1)) σ M' ∧ (∀ v, u ≤ v → v ≤ hi → M' 21 (11 * h + v) = iN (leastF (fun r => r * fee h v + W (h - r) v) h).1) ∧ (M' 20 1 = if u ≤ hi then iN (leastF (fun r => r * fee h hi + W (h - r) hi) h).2 else M 20 1) ∧ ∀ a j, ¬ (a = 21 ∧ 11 * h + u ≤ j ∧ j ≤ 11 * h + hi) → ¬ (a = 20 ∧ j = 1) → M' a j = M a j := by
  intro k
  induction k with
  | zero =>
    intro u n M hu hlu hn hR hF hW
    obtain ⟨n, rfl⟩ : ∃ m, n = m + 1 := ⟨n - 1, by omega⟩
    refine ⟨M, ?_, fun v h1 h2 => by omega, by rw [if_neg (by omega)], fun a j _ _ => rfl⟩
    rw [l_X3_fillDay_15, hR.2.2.2.2, if_pos (by rw [iN_lt (by omega) (by omega)]; omega), eS]
  | succ k ih =>
    intro u n M hu hlu hn hR hF hW
    obtain ⟨n, rfl⟩ : ∃ m, n = m + 1 := ⟨n - 1, by omega⟩
    obtain ⟨M1, a1, a2, a3⟩ := leastOf_c (σ := σ) (h := h) (u := u) (fee := fee h u) (W := fun g => W g u) (M := M) hh (by omega) (hF u hlu (by omega)) (fun g hg => hW g u hg hlu (by omega))
    obtain ⟨M', q1, q2, q4, q3⟩ := ih (u + 1) n (g_up M1 21 (11 * h + u) (iN (leastF (fun r => r * fee h u + W (h - r) u) h).1)) (by omega) (by omega) (by omega) (by unfold lsR at *; simp (disch := omega) only [g_up_ne, a3]; exact hR) (fun v h1 h2 h3 => by rw [g_up_ne _ _ (by omega), a3 _ _ (by omega)]; exact hF v h1 h2 h3) (fun g v h0 h1 h2 => by rw [g_up_ne _ _ (by omega), a3 _ _ (by omega)]; exact hW g v h0 h1 h2)
    refine ⟨M', ?_, fun v h1 h2 => ?_, ?_, fun a j hj hj2 => by rw [q3 a j (by omega) hj2, g_up_ne _ _ (by omega), a3 a j hj2]⟩
    · have gi : g_in (iN (11 * h + u)) 121 = true := by rw [iN_in (by omega)]; omega
      rw [l_X3_fillDay_15, hR.2.2.2.2, if_neg (by rw [iN_lt (by omega) (by omega)]; omega), a1, oB, e11, if_pos gi, iN_cl (by omega), eS]
      exact q1
    · by_cases c : v = u
      · subst c
        rw [q3 _ _ (by omega) (by omega), g_up_eq _ _ ⟨rfl, rfl⟩]
      · exact q2 v (by omega) h2
    · rw [q4, if_pos (show u ≤ hi by omega)]
      by_cases c : u = hi
      · subst c
        rw [if_neg (by omega), g_up_ne _ _ (by omega), a2]
      · rw [if_pos (by omega)]
theorem l_day2 {σ : gS} {up dn H lo hi : Nat} {fee W : Nat → Nat → Nat} (hH : H ≤ 10) (hhi : hi ≤ 10) (hlo : lo ≤ hi) : ∀ k h n M, h + k = H + 1 → k < n → lsR M up dn H lo hi → (∀ g v, 0 < g → g ≤ H → lo ≤ v → v ≤ hi → fee g v ≤ 100 ∧ M 23 (11 * g + v) = iN (fee g v)) → (∀ g v, g ≤ H → lo ≤ v → v ≤ hi → W g v ≤ 10000 ∧ M 22 (11 * g + v) = iN (W g v)) → ∃ M', l_X3_fillDay_2 n (iN h) σ M = some M' ∧ (∀ g v, h ≤ g → g ≤ H → lo ≤ v → v ≤ hi → M' 21 (11 * g + v) = iN (leastF (fun r => r * fee g v + W (g - r) v) g).1) ∧ (M' 20 1 = if h ≤ H then iN (leastF (fun r => r * fee H hi + W (H - r) hi) H).2 else M 20 1) ∧ ∀ a j, ¬ (a = 21 ∧ 11 * h ≤ j) → ¬ (a = 20 ∧ j = 1) → M' a j = M a j := by
  intro k
  induction k with
  | zero =>
    intro h n M hu hn hR hF hW
    obtain ⟨n, rfl⟩ : ∃ m, n = m + 1 := ⟨n - 1, by omega⟩
    refine ⟨M, ?_, fun g v h1 h2 => by omega, by rw [if_neg (by omega)], fun a j _ _ => rfl⟩
    rw [l_X3_fillDay_2, hR.2.2.1, if_pos (by rw [iN_lt (by omega) (by omega)]; omega)]
  | succ k ih =>
    intro h n M hu hn hR hF hW
    obtain ⟨n, rfl⟩ : ∃ m, n = m + 1 := ⟨n - 1, by omega⟩
    obtain ⟨M1, a1, a2, a4, a3⟩ := l_day15 (σ := σ) (up := up) (dn := dn) (H := H) (h := h) (lo := lo) (hi := hi) (fee := fee) (W := W) (k2 := fun x1 σ M => l_X3_fillDay_2 n x1 σ M) (by omega) hhi (hi + 1 - lo) lo g_FU M (by omega) (by omega) (by unfold g_FU; omega) hR (fun v h1 h2 h3 => hF h v h3 (by omega) h1 h2) (fun g v h0 h1 h2 => hW g v (by omega) h1 h2)
    obtain ⟨M', q1, q2, q4, q3⟩ := ih (h + 1) n M1 (by omega) (by omega) (by unfold lsR at *; simp (disch := omega) only [a3]; exact hR) (fun g v h0 h1 h2 h3 => by rw [a3 _ _ (by omega) (by omega)]; exact hF g v h0 h1 h2 h3) (fun g v h1 h2 h3 => by rw [a3 _ _ (by omega) (by omega)]; exact hW g v h1 h2 h3)
    refine ⟨M', ?_, fun g v h1 h2 h3 h4 => ?_, ?_, fun a j hj hj2 => by rw [q3 a j (by omega) hj2, a3 a j (by omega) hj2]⟩
    · rw [l_X3_fillDay_2, hR.2.2.1, if_neg (by rw [iN_lt (by omega) (by omega)]; omega), hR.2.2.2.1, a1]
      exact q1
    · by_cases c : g = h
      · subst c
        rw [q3 _ _ (by omega) (by omega)]
        exact a2 v h3 h4
      · exact q2 g v (by omega) h2 h3 h4
    · rw [q4, if_pos (show h ≤ H by omega)]
      by_cases c : h = H
      · subst c
        rw [if_neg (by omega), a4, if_pos hlo]
      · rw [if_pos (by omega)]
