/-! loss: the model. -/
theorem g_up_self {M : gM} {a k : Nat} : g_up M a k (M a k) = M := by
  funext b j
  by_cases h : b = a ∧ j = k
  · rw [g_up_eq _ _ h, h.1, h.2]
  · rw [g_up_ne _ _ h]
theorem past_m : ∀ u, u < 11 → ∀ up, up < 4 → ∀ dn, dn < 4 → ∀ i, i < 8 → (decide (iN u + iN up < iN (u + i) - iN dn) = decide (up + dn < i)) := by decide +kernel
theorem low_m : ∀ a, a < 20 → ∀ b, b < 4 → a < b → f_X12_in (iN a - iN b) 0 10 = some 0 := by decide +kernel
def cntX (u dn i : Nat) : Nat := minN (u + i - dn) 11 - (u - dn)
theorem l_m204 {σ : gS} {M : gM} {N : gN} {h u up dn r fee best : Nat} {x1 x2 x6 x7 x8 : Int32} {f : Nat → Nat} {k98 : _} {k137 : _} {k147 : _} {k187 : _} (hh : h ≤ 10) (hu : u ≤ 10) (hup : up ≤ 3) (hdn : dn ≤ 3) (hr : r ≤ h) (hf : ∀ v, v ≤ 10 → f v ≤ 10000 ∧ M 76 (11 * (h - r) + v) = iN (f v)) (hfee : fee ≤ 100) (hb : best ≤ 1073741824) : ∀ k i n, i + k = up + dn + 1 → k < n → l_X12_losses_204 k98 k137 k147 k187 n x1 x2 (iN up) (iN dn) x6 x7 x8 (iN h) (iN u) (iN fee) (iN best) (iN r) (iN (mostF f (u - dn) (cntX u dn i))) (iN (u + i) - iN dn) σ M N = k187 x1 x2 (iN up) (iN dn) x6 x7 x8 (iN h) (iN u) (iN fee) (iN (if r * fee + wstF f up dn u < best then r * fee + wstF f up dn u else best)) (iN (r + 1)) σ (if r * fee + wstF f up dn u < best ∧ iN h = x6 ∧ iN u = x7 then g_up M 40 62 (iN r) else M) N := by
  intro k
  induction k with
  | zero =>
    intro i n hi hn
    obtain ⟨n, rfl⟩ : ∃ m, n = m + 1 := ⟨n - 1, by omega⟩
    obtain rfl : i = up + dn + 1 := by omega
    have c0 : iN u + iN up < iN (u + (up + dn + 1)) - iN dn := of_decide_eq_true ((past_m u (by omega) up (by omega) dn (by omega) (up + dn + 1) (by omega)).trans (decide_eq_true (by omega)))
    have ew : cntX u dn (up + dn + 1) = minN (u + up) 10 + 1 - (u - dn) := by
      unfold cntX
      have : minN (u + (up + dn + 1) - dn) 11 = minN (u + up) 10 + 1 := by unfold minN; split <;> split <;> omega
      rw [this]
    have hm := minN_le (u + up) 10
    have hw : wstF f up dn u ≤ 10000 := mostF_le _ (fun j hj => (hf _ (by omega)).1)
    have hrf : r * fee ≤ 1000 := Nat.le_trans (Nat.mul_le_mul (show r ≤ 10 by omega) hfee) (by omega)
    rw [l_X12_losses_204, if_pos c0, ew, show mostF f (u - dn) (minN (u + up) 10 + 1 - (u - dn)) = wstF f up dn u from rfl, iN_mul, iN_add]
    unfold b_X12_losses_320 b_X12_losses_324 b_X12_losses_327
    rw [g_up_self, eS]
    by_cases c : r * fee + wstF f up dn u < best
    · rw [if_pos (show iN (r * fee + wstF f up dn u) < iN best by rw [iN_lt (by omega) (by omega)]; exact c), if_pos c]
      by_cases c6 : iN h = x6
      · rw [if_pos c6]
        by_cases c7 : iN u = x7
        · rw [if_pos c7, if_pos ⟨c, c6, c7⟩]
        · rw [if_neg c7, if_neg (fun q => c7 q.2.2)]
      · rw [if_neg c6, if_neg (fun q => c6 q.2.1)]
    · rw [if_neg (show ¬ iN (r * fee + wstF f up dn u) < iN best by rw [iN_lt (by omega) (by omega)]; exact c), if_neg c, if_neg (fun q => c q.1)]
  | succ k ih =>
    intro i n hi hn
    obtain ⟨n, rfl⟩ : ∃ m, n = m + 1 := ⟨n - 1, by omega⟩
    have c0 : ¬ iN u + iN up < iN (u + i) - iN dn := of_decide_eq_false ((past_m u (by omega) up (by omega) dn (by omega) i (by omega)).trans (decide_eq_false (by omega)))
    have e1 : iN (u + i) - iN dn + 1 = iN (u + (i + 1)) - iN dn := by
      rw [show iN (u + (i + 1)) = iN (u + i) + 1 from (iN_add (u + i) 1).symm, Int32.sub_eq_add_neg, Int32.sub_eq_add_neg, Int32.add_assoc, Int32.add_assoc, Int32.add_comm (-iN dn)]
    have nx := ih (i + 1) n (by omega) (by omega)
    rw [← nx]
    rw [l_X12_losses_204, if_neg c0]
    by_cases c1 : u + i < dn
    · rw [low_m (u + i) (by omega) dn (by omega) c1, oB, if_pos rfl]
      unfold b_X12_losses_264 b_X12_losses_266
      rw [e1]
      have : cntX u dn (i + 1) = cntX u dn i := by unfold cntX minN; split <;> split <;> omega
      rw [this]
    · rw [iN_sub (by omega)] at e1 ⊢
      by_cases c2 : u + i - dn ≤ 10
      · obtain ⟨f1, f2⟩ := hf (u + i - dn) c2
        have i1 : f_X12_in (iN (u + i - dn)) 0 10 = some (iN 1) := by
          rcases in_cases (iN (u + i - dn)) (a := 0) (b := 10) (by omega) (by omega) with ⟨m, _, _, _, q⟩ | ⟨_, q⟩
          · exact q
          · exact absurd rfl (q (u + i - dn) (by omega) c2)
        have gi : g_in (iN (11 * (h - r) + (u + i - dn))) 121 = true := by rw [iN_in (by omega)]; omega
        have ec : cntX u dn (i + 1) = cntX u dn i + 1 := by unfold cntX minN; split <;> split <;> omega
        have el : u - dn + cntX u dn i = u + i - dn := by unfold cntX minN; split <;> omega
        have hm : mostF f (u - dn) (cntX u dn i) ≤ 10000 := mostF_le _ (fun j hj => (hf _ (by omega)).1)
        rw [i1, oB, if_neg (show ¬ iN 1 = (0 : Int32) by decide), iN_sub hr, e11', if_pos gi, iN_cl (by omega), f2, if_pos gi]
        unfold b_X12_losses_264 b_X12_losses_266
        rw [e1, ec, mostF, el]
        by_cases c3 : mostF f (u - dn) (cntX u dn i) < f (u + i - dn)
        · rw [if_pos (show iN (mostF f (u - dn) (cntX u dn i)) < iN (f (u + i - dn)) by rw [iN_lt (by omega) (by omega)]; exact c3), if_pos c3]
        · rw [if_neg (show ¬ iN (mostF f (u - dn) (cntX u dn i)) < iN (f (u + i - dn)) by rw [iN_lt (by omega) (by omega)]; exact c3), if_neg c3]
      · have i0 : f_X12_in (iN (u + i - dn)) 0 10 = some (iN 0) := by
          rcases in_cases (iN (u + i - dn)) (a := 0) (b := 10) (by omega) (by omega) with ⟨m, q1, _, q2, _⟩ | ⟨q, _⟩
          · rw [iN_inj (by omega) (by omega)] at q1; omega
          · exact q
        rw [i0, oB, if_pos (show iN 0 = (0 : Int32) from rfl)]
        unfold b_X12_losses_264 b_X12_losses_266
        rw [e1]
        have : cntX u dn (i + 1) = cntX u dn i := by unfold cntX minN; split <;> split <;> omega
        rw [this]
theorem l_m187 {σ : gS} {N : gN} {h u up dn fee : Nat} {x1 x2 x6 x7 x8 : Int32} {L : Nat → Nat → Nat} {k98 : _} {k137 : _} {k147 : _} (hh : h ≤ 10) (hu : u ≤ 10) (hup : up ≤ 3) (hdn : dn ≤ 3) (hfee : fee ≤ 100) : ∀ k r n M, r + k = h → k + 1 < n → (∀ g v, g ≤ 10 → v ≤ 10 → L g v ≤ 10000 ∧ M 76 (11 * g + v) = iN (L g v)) → ∀ b : Nat, b ≤ 1073741824 → (r = 0 → b = 1073741824) → (∀ s, r = s + 1 → b = (leastF (fun r => r * fee + wstF (L (h - r)) up dn u) s).1 ∧ (iN h = x6 ∧ iN u = x7 → M 40 62 = iN (leastF (fun r => r * fee + wstF (L (h - r)) up dn u) s).2)) → ∃ M', l_X12_losses_187 k98 k137 k147 n x1 x2 (iN up) (iN dn) x6 x7 x8 (iN h) (iN u) (iN fee) (iN b) (iN r) σ M N = k147 x1 x2 (iN up) (iN dn) x6 x7 x8 (iN h) (iN (u + 1)) σ M' N ∧ M' 75 (11 * h + u) = iN (leastF (fun r => r * fee + wstF (L (h - r)) up dn u) h).1 ∧ (M' 40 62 = if iN h = x6 ∧ iN u = x7 then iN (leastF (fun r => r * fee + wstF (L (h - r)) up dn u) h).2 else M 40 62) ∧ ∀ a j, ¬ (a = 40 ∧ j = 62) → ¬ (a = 75 ∧ j = 11 * h + u) → M' a j = M a j := by
  sorry
