/-! loss: what both sides count. -/
/-- the most of f over lo .. lo + k - 1, at least 0 -/
def mostF (f : Nat → Nat) (lo : Nat) : Nat → Nat
  | 0 => 0
  | k + 1 => if mostF f lo k < f (lo + k) then f (lo + k) else mostF f lo k
/-- the least of f over 0 .. k, and where it is first -/
def leastF (f : Nat → Nat) : Nat → Nat × Nat
  | 0 => (f 0, 0)
  | k + 1 => if f (k + 1) < (leastF f k).1 then (f (k + 1), k + 1) else leastF f k
def minN (a b : Nat) : Nat := if a < b then a else b
def L0F (sm h u : Nat) : Nat := if u ≤ h then 100 * (h - u) else sm * (u - h)
def wstF (L : Nat → Nat) (up dn u : Nat) : Nat := mostF L (u - dn) (minN (u + up) 10 + 1 - (u - dn))
def LsF (fee : Nat → Nat → Nat → Nat) (sm up dn : Nat) : Nat → Nat → Nat → Nat
  | 0, h, u => L0F sm h u
  | e + 1, h, u => (leastF (fun r => r * fee (e + 1) h u + wstF (LsF fee sm up dn e (h - r)) up dn u) h).1
def GvF (fee : Nat → Nat → Nat → Nat) (sm up dn : Nat) : Nat → Nat → Nat → Nat
  | 0, _, _ => 0
  | e + 1, h, u => (leastF (fun r => r * fee (e + 1) h u + wstF (LsF fee sm up dn e (h - r)) up dn u) h).2
theorem mostF_le {f : Nat → Nat} {lo B : Nat} : ∀ k, (∀ i, i < k → f (lo + i) ≤ B) → mostF f lo k ≤ B := by
  intro k
  induction k with
  | zero => intro _; exact Nat.zero_le _
  | succ k ih =>
    intro h
    have h1 := ih (fun i hi => h i (by omega))
    have h2 := h k (by omega)
    unfold mostF
    split <;> omega
theorem mostF_congr {f g : Nat → Nat} {lo : Nat} : ∀ k, (∀ i, i < k → f (lo + i) = g (lo + i)) → mostF f lo k = mostF g lo k := by
  intro k
  induction k with
  | zero => intro _; rfl
  | succ k ih =>
    intro h
    unfold mostF
    rw [ih (fun i hi => h i (by omega)), h k (by omega)]
theorem leastF_le {f : Nat → Nat} : ∀ k, (leastF f k).1 ≤ f 0 ∧ (leastF f k).2 ≤ k := by
  intro k
  induction k with
  | zero => exact ⟨Nat.le_refl _, Nat.le_refl _⟩
  | succ k ih =>
    unfold leastF
    split
    · exact ⟨by omega, Nat.le_refl _⟩
    · exact ⟨ih.1, by omega⟩
theorem leastF_congr {f g : Nat → Nat} : ∀ k, (∀ i, i ≤ k → f i = g i) → leastF f k = leastF g k := by
  intro k
  induction k with
  | zero => intro h; unfold leastF; rw [h 0 (by omega)]
  | succ k ih =>
    intro h
    unfold leastF
    rw [ih (fun i hi => h i (by omega)), h (k + 1) (by omega)]
theorem minN_le (a b : Nat) : minN a b ≤ a ∧ minN a b ≤ b ∧ (minN a b = a ∨ minN a b = b) := by
  unfold minN; split <;> omega
theorem L0F_le {sm h u : Nat} (hs : sm ≤ 1000) (hh : h ≤ 10) (hu : u ≤ 10) : L0F sm h u ≤ 10000 := by
  unfold L0F
  split
  · omega
  · exact Nat.le_trans (Nat.mul_le_mul hs (show u - h ≤ 10 by omega)) (by omega)
theorem LsF_le {fee : Nat → Nat → Nat → Nat} {sm up dn : Nat} (hs : sm ≤ 1000) : ∀ e h u, h ≤ 10 → u ≤ 10 → LsF fee sm up dn e h u ≤ 10000 := by
  intro e
  induction e with
  | zero => intro h u hh hu; exact L0F_le hs hh hu
  | succ e ih =>
    intro h u hh hu
    unfold LsF
    refine Nat.le_trans (leastF_le h).1 ?_
    have hm := minN_le (u + up) 10
    have : wstF (LsF fee sm up dn e (h - 0)) up dn u ≤ 10000 := mostF_le _ (fun i hi => ih _ _ (by omega) (by omega))
    omega
theorem wstF_le {fee : Nat → Nat → Nat → Nat} {sm up dn : Nat} (hs : sm ≤ 1000) {e h u : Nat} (hh : h ≤ 10) (hu : u ≤ 10) : wstF (LsF fee sm up dn e h) up dn u ≤ 10000 := by
  have hm := minN_le (u + up) 10
  exact mostF_le _ (fun i hi => LsF_le hs _ _ _ hh (by omega))
/-! the class's tables -/
theorem sub10 : ∀ h, h < 11 → ∀ u, u < 11 → h < u → iN h - iN u < 0 ∧ -(iN h - iN u) = iN (u - h) := by decide
theorem l_last15 {σ : gS} {sm h hi : Nat} {k2 : Int32 → Int32 → gS → gM → Option gM} (hs : sm ≤ 1000) (hh : h ≤ 10) (hhi : hi ≤ 10) : ∀ k u n M, u + k = hi + 1 → k < n → M 20 9 = iN hi → ∃ M', l_X3_fillLastDay_15 k2 n (iN sm) (iN h) (iN u) σ M = k2 (iN sm) (iN (h + 1)) σ M' ∧ (∀ v, u ≤ v → v ≤ hi → M' 21 (11 * h + v) = iN (L0F sm h v)) ∧ ∀ a j, ¬ (a = 21 ∧ 11 * h + u ≤ j ∧ j ≤ 11 * h + hi) → M' a j = M a j := by
  intro k
  induction k with
  | zero =>
    intro u n M hu hn h9
    obtain ⟨n, rfl⟩ : ∃ m, n = m + 1 := ⟨n - 1, by omega⟩
    refine ⟨M, ?_, fun v h1 h2 => by omega, fun a j _ => rfl⟩
    rw [l_X3_fillLastDay_15, h9, if_pos (by rw [iN_lt (by omega) (by omega)]; omega), show iN h + (1 : Int32) = iN (h + 1) from iN_add h 1]
  | succ k ih =>
    intro u n M hu hn h9
    obtain ⟨n, rfl⟩ : ∃ m, n = m + 1 := ⟨n - 1, by omega⟩
    obtain ⟨M', q1, q2, q3⟩ := ih (u + 1) n (g_up M 21 (11 * h + u) (iN (L0F sm h u))) (by omega) (by omega) (by rw [g_up_ne _ _ (by omega)]; exact h9)
    refine ⟨M', ?_, fun v h1 h2 => ?_, fun a j hj => by rw [q3 a j (by omega), g_up_ne _ _ (by omega)]⟩
    · rw [l_X3_fillLastDay_15, h9, if_neg (by rw [iN_lt (by omega) (by omega)]; omega)]
      have e1 : iN h * (11 : Int32) + iN u = iN (11 * h + u) := by rw [show (11 : Int32) = iN 11 from rfl, iN_mul, iN_add, Nat.mul_comm]
      have e2 : iN u + (1 : Int32) = iN (u + 1) := iN_add u 1
      have gi : g_in (iN (11 * h + u)) 121 = true := by rw [iN_in (by omega)]; omega
      by_cases c : u ≤ h
      · rw [if_neg (show ¬ iN h - iN u < 0 by rw [iN_sub c]; exact iN_nneg (by omega)), iN_sub c, show (100 : Int32) = iN 100 from rfl, iN_mul]
        unfold b_X3_fillLastDay_56
        rw [e1, e2, if_pos gi, iN_cl (by omega)]
        unfold L0F at q1
        rw [if_pos c] at q1
        exact q1
      · obtain ⟨s1, s2⟩ := sub10 h (by omega) u (by omega) (by omega)
        rw [if_pos s1, s2, iN_mul, Nat.mul_comm]
        unfold b_X3_fillLastDay_56
        rw [e1, e2, if_pos gi, iN_cl (by omega)]
        unfold L0F at q1
        rw [if_neg c] at q1
        exact q1
    · by_cases c : v = u
      · subst c
        rw [q3 _ _ (by omega), g_up_eq _ _ ⟨rfl, rfl⟩]
      · exact q2 v (by omega) h2
theorem l_last2 {σ : gS} {sm H lo hi : Nat} (hs : sm ≤ 1000) (hH : H ≤ 10) (hhi : hi ≤ 10) (hlo : lo ≤ hi) : ∀ k h n M, h + k = H + 1 → k < n → M 20 7 = iN H → M 20 8 = iN lo → M 20 9 = iN hi → ∃ M', l_X3_fillLastDay_2 n (iN sm) (iN h) σ M = some M' ∧ (∀ g v, h ≤ g → g ≤ H → lo ≤ v → v ≤ hi → M' 21 (11 * g + v) = iN (L0F sm g v)) ∧ ∀ a j, ¬ (a = 21 ∧ 11 * h ≤ j) → M' a j = M a j := by
  intro k
  induction k with
  | zero =>
    intro h n M hu hn h7 h8 h9
    obtain ⟨n, rfl⟩ : ∃ m, n = m + 1 := ⟨n - 1, by omega⟩
    refine ⟨M, ?_, fun g v h1 h2 => by omega, fun a j _ => rfl⟩
    rw [l_X3_fillLastDay_2, h7, if_pos (by rw [iN_lt (by omega) (by omega)]; omega)]
  | succ k ih =>
    intro h n M hu hn h7 h8 h9
    obtain ⟨n, rfl⟩ : ∃ m, n = m + 1 := ⟨n - 1, by omega⟩
    obtain ⟨M1, a1, a2, a3⟩ := l_last15 (σ := σ) (sm := sm) (h := h) (hi := hi) (k2 := fun x1 x2 σ M => l_X3_fillLastDay_2 n x1 x2 σ M) hs (by omega) hhi (hi + 1 - lo) lo g_FU M (by omega) (by unfold g_FU; omega) h9
    obtain ⟨M', q1, q2, q3⟩ := ih (h + 1) n M1 (by omega) (by omega) (by rw [a3 _ _ (by omega)]; exact h7) (by rw [a3 _ _ (by omega)]; exact h8) (by rw [a3 _ _ (by omega)]; exact h9)
    refine ⟨M', ?_, fun g v h1 h2 h3 h4 => ?_, fun a j hj => by rw [q3 a j (by omega), a3 a j (by omega)]⟩
    · rw [l_X3_fillLastDay_2, h7, if_neg (by rw [iN_lt (by omega) (by omega)]; omega), h8, a1]
      exact q1
    · by_cases c : g = h
      · subst c
        rw [q3 _ _ (by omega)]
        exact a2 v h3 h4
      · exact q2 g v (by omega) h2 h3 h4
