/-! loss: the model. -/
theorem g_up_self {M : gM} {a k : Nat} : g_up M a k (M a k) = M := by
  funext b j
  by_cases h : b = a ∧ j = k
  · rw [g_up_eq _ _ h, h.1, h.2]
  · rw [g_up_ne _ _ h]
theorem past_m : ∀ u, u < 11 → ∀ up, up < 4 → ∀ dn, dn < 4 → ∀ i, i < 8 → (decide (iN u + iN up < iN (u + i) - iN dn) = decide (up + dn < i)) := by decide +kernel
theorem low_m : ∀ a, a < 20 → ∀ b, b < 4 → a < b → f_X12_in (iN a - iN b) 0 10 = some 0 := by decide +kernel
def cntX (u dn i : Nat) : Nat := minN (u + i - dn) 11 - (u - dn)
theorem l_m204 {σ : gS} {M : gM} {N : gN} {h u up dn r fee best : Nat} {x1 x2 x6 x7 x8 : Int32} {f : Nat → Nat} {k98 : _} {k137 : _} {k147 : _} {k187 : _} (hh : h ≤ 10) (hu : u ≤ 10) (hup : up ≤ 3) (hdn : dn ≤ 3) (hr : r ≤ h) (hf : ∀ v, v ≤ 10 → f v ≤ 10000 ∧ M 76 (11 * (h - r) + v) = iN (f v)) (hfee : fee ≤ 100) (hb : best ≤ 1073741824) : ∀ k i n, i + k = up + dn + 1 → k < n → l_X12_losses_204 k98 k137 k147 k187 n x1 x2 (iN up) (iN dn) x6 x7 x8 (iN h) (iN u) (iN fee) (iN best) (iN r) (iN (mostF f (u - dn) (cntX u dn i))) (iN (u + i) - iN dn) σ M N = k187 x1 x2 (iN up) (iN dn) x6 x7 x8 (iN h) (iN u) (iN fee) (iN (if r * fee + wstF f up dn u < best then r * fee + wstF f up dn u else best)) (iN (r + 1)) σ (if r * fee + wstF f up dn u < best ∧ iN h = x6 ∧ iN u = x7 then g_up M 40 62 (iN r) else M) N := by
  intro k
  induction k with
  | zero =>
    intro i n hi hn
    obtain ⟨n, rfl⟩ : ∃ m, n = m + 1 := ⟨n - 1, by omega⟩
    obtain rfl : i = up + dn + 1 := by omega
    have c0 : iN u + iN up < iN (u + (up + dn + 1)) - iN dn := of_decide_eq_true ((past_m u (by omega) up (by omega) dn (by omega) (up + dn + 1) (by omega)).trans (decide_eq_true (by omega)))
    have ew : cntX u dn (up + dn + 1) = minN (u + up) 10 + 1 - (u - dn) := by
      unfold cntX
      have : minN (u + (up + dn + 1) - dn) 11 = minN (u + up) 10 + 1 := by unfold minN; split <;> split <;> omega
      rw [this]
    have hm := minN_le (u + up) 10
    have hw : wstF f up dn u ≤ 10000 := mostF_le _ (fun j hj => (hf _ (by omega)).1)
    have hrf : r * fee ≤ 1000 := Nat.le_trans (Nat.mul_le_mul (show r ≤ 10 by omega) hfee) (by omega)
    rw [l_X12_losses_204, if_pos c0, ew, show mostF f (u - dn) (minN (u + up) 10 + 1 - (u - dn)) = wstF f up dn u from rfl, iN_mul, iN_add]
    unfold b_X12_losses_320 b_X12_losses_324 b_X12_losses_327
    rw [g_up_self, eS]
    by_cases c : r * fee + wstF f up dn u < best
    · rw [if_pos (show iN (r * fee + wstF f up dn u) < iN best by rw [iN_lt (by omega) (by omega)]; exact c), if_pos c]
      by_cases c6 : iN h = x6
      · rw [if_pos c6]
        by_cases c7 : iN u = x7
        · rw [if_pos c7, if_pos ⟨c, c6, c7⟩]
        · rw [if_neg c7, if_neg (fun q => c7 q.2.2)]
      · rw [if_neg c6, if_neg (fun q => c6 q.2.1)]
    · rw [if_neg (show ¬ iN (r * fee + wstF f up dn u) < iN best by rw [iN_lt (by omega) (by omega)]; exact c), if_neg c, if_neg (fun q => c q.1)]
  | succ k ih =>
    intro i n hi hn
    obtain ⟨n, rfl⟩ : ∃ m, n = m + 1 := ⟨n - 1, by omega⟩
    have c0 : ¬ iN u + iN up < iN (u + i) - iN dn := of_decide_eq_false ((past_m u (by omega) up (by omega) dn (by omega) i (by omega)).trans (decide_eq_false (by omega)))
    have e1 : iN (u + i) - iN dn + 1 = iN (u + (i + 1)) - iN dn := by
      rw [show iN (u + (i + 1)) = iN (u + i) + 1 from (iN_add (u + i) 1).symm, Int32.sub_eq_add_neg, Int32.sub_eq_add_neg, Int32.add_assoc, Int32.add_assoc, Int32.add_comm (-iN dn)]
    have nx := ih (i + 1) n (by omega) (by omega)
    rw [← nx]
    rw [l_X12_losses_204, if_neg c0]
    by_cases c1 : u + i < dn
    · rw [low_m (u + i) (by omega) dn (by omega) c1, oB, if_pos rfl]
      unfold b_X12_losses_264 b_X12_losses_266
      rw [e1]
      have : cntX u dn (i + 1) = cntX u dn i := by unfold cntX minN; split <;> split <;> omega
      rw [this]
    · rw [iN_sub (by omega)] at e1 ⊢
      by_cases c2 : u + i - dn ≤ 10
      · obtain ⟨f1, f2⟩ := hf (u + i - dn) c2
        have i1 : f_X12_in (iN (u + i - dn)) 0 10 = some (iN 1) := by
          rcases in_cases (iN (u + i - dn)) (a := 0) (b := 10) (by omega) (by omega) with ⟨m, _, _, _, q⟩ | ⟨_, q⟩
          · exact q
          · exact absurd rfl (q (u + i - dn) (by omega) c2)
        have gi : g_in (iN (11 * (h - r) + (u + i - dn))) 121 = true := by rw [iN_in (by omega)]; omega
        have ec : cntX u dn (i + 1) = cntX u dn i + 1 := by unfold cntX minN; split <;> split <;> omega
        have el : u - dn + cntX u dn i = u + i - dn := by unfold cntX minN; split <;> omega
        have hm : mostF f (u - dn) (cntX u dn i) ≤ 10000 := mostF_le _ (fun j hj => (hf _ (by omega)).1)
        rw [i1, oB, if_neg (show ¬ iN 1 = (0 : Int32) by decide), iN_sub hr, e11', if_pos gi, iN_cl (by omega), f2, if_pos gi]
        unfold b_X12_losses_264 b_X12_losses_266
        rw [e1, ec, mostF, el]
        by_cases c3 : mostF f (u - dn) (cntX u dn i) < f (u + i - dn)
        · rw [if_pos (show iN (mostF f (u - dn) (cntX u dn i)) < iN (f (u + i - dn)) by rw [iN_lt (by omega) (by omega)]; exact c3), if_pos c3]
        · rw [if_neg (show ¬ iN (mostF f (u - dn) (cntX u dn i)) < iN (f (u + i - dn)) by rw [iN_lt (by omega) (by omega)]; exact c3), if_neg c3]
      · have i0 : f_X12_in (iN (u + i - dn)) 0 10 = some (iN 0) := by
          rcases in_cases (iN (u + i - dn)) (a := 0) (b := 10) (by omega) (by omega) with ⟨m, q1, _, q2, _⟩ | ⟨q, _⟩
          · rw [iN_inj (by omega) (by omega)] at q1; omega
          · exact q
        rw [i0, oB, if_pos (show iN 0 = (0 : Int32) from rfl)]
        unfold b_X12_losses_264 b_X12_losses_266
        rw [e1]
        have : cntX u dn (i + 1) = cntX u dn i := by unfold cntX minN; split <;> split <;> omega
        rw [this]
theorem cntX0 {u dn : Nat} (hu : u ≤ 10) : cntX u dn 0 = 0 := by unfold cntX minN; split <;> omega
/-- one try of r -/
theorem l_m187a {σ : gS} {M : gM} {N : gN} {h u up dn fee r b n : Nat} {x1 x2 x6 x7 x8 : Int32} {L : Nat → Nat → Nat} {k98 : _} {k137 : _} {k147 : _} (hh : h ≤ 10) (hu : u ≤ 10) (hup : up ≤ 3) (hdn : dn ≤ 3) (hfee : fee ≤ 100) (hr : r ≤ h) (hL : ∀ g v, g ≤ 10 → v ≤ 10 → L g v ≤ 10000 ∧ M 76 (11 * g + v) = iN (L g v)) (hb : b ≤ 1073741824) : l_X12_losses_187 k98 k137 k147 (n + 1) x1 x2 (iN up) (iN dn) x6 x7 x8 (iN h) (iN u) (iN fee) (iN b) (iN r) σ M N = l_X12_losses_187 k98 k137 k147 n x1 x2 (iN up) (iN dn) x6 x7 x8 (iN h) (iN u) (iN fee) (iN (if r * fee + wstF (L (h - r)) up dn u < b then r * fee + wstF (L (h - r)) up dn u else b)) (iN (r + 1)) σ (if r * fee + wstF (L (h - r)) up dn u < b ∧ iN h = x6 ∧ iN u = x7 then g_up M 40 62 (iN r) else M) N := by
  have q := l_m204 (σ := σ) (M := M) (N := N) (best := b) (x1 := x1) (x2 := x2) (x6 := x6) (x7 := x7) (x8 := x8) (f := L (h - r)) (k98 := k98) (k137 := k137) (k147 := k147) (k187 := fun x1 x2 x3 x4 x6 x7 x8 x9 x10 x11 x12 x13 σ M N => l_X12_losses_187 k98 k137 k147 n x1 x2 x3 x4 x6 x7 x8 x9 x10 x11 x12 x13 σ M N) hh hu hup hdn hr (fun v hv => hL (h - r) v (by omega) hv) hfee hb (up + dn + 1) 0 g_FU (by omega) (by unfold g_FU; omega)
  rw [cntX0 hu, Nat.add_zero] at q
  rw [l_X12_losses_187, if_neg (by rw [iN_lt (by omega) (by omega)]; omega)]
  exact q
theorem l_m187s {σ : gS} {N : gN} {h u up dn fee : Nat} {x1 x2 x6 x7 x8 : Int32} {L : Nat → Nat → Nat} {k98 : _} {k137 : _} {k147 : _} (hh : h ≤ 10) (hu : u ≤ 10) (hup : up ≤ 3) (hdn : dn ≤ 3) (hfee : fee ≤ 100) : ∀ k s n M, s + k = h → k < n → (∀ g v, g ≤ 10 → v ≤ 10 → L g v ≤ 10000 ∧ M 76 (11 * g + v) = iN (L g v)) → (iN h = x6 ∧ iN u = x7 → M 40 62 = iN (leastF (fun r => r * fee + wstF (L (h - r)) up dn u) s).2) → ∃ M', l_X12_losses_187 k98 k137 k147 n x1 x2 (iN up) (iN dn) x6 x7 x8 (iN h) (iN u) (iN fee) (iN (leastF (fun r => r * fee + wstF (L (h - r)) up dn u) s).1) (iN (s + 1)) σ M N = k147 x1 x2 (iN up) (iN dn) x6 x7 x8 (iN h) (iN (u + 1)) σ M' N ∧ M' 75 (11 * h + u) = iN (leastF (fun r => r * fee + wstF (L (h - r)) up dn u) h).1 ∧ (iN h = x6 ∧ iN u = x7 → M' 40 62 = iN (leastF (fun r => r * fee + wstF (L (h - r)) up dn u) h).2) ∧ (¬ (iN h = x6 ∧ iN u = x7) → M' 40 62 = M 40 62) ∧ ∀ a j, ¬ (a = 40 ∧ j = 62) → ¬ (a = 75 ∧ j = 11 * h + u) → M' a j = M a j := by
  intro k
  induction k with
  | zero =>
    intro s n M hs hn hL hg
    obtain ⟨n, rfl⟩ : ∃ m, n = m + 1 := ⟨n - 1, by omega⟩
    obtain rfl : s = h := by omega
    have gi : g_in (iN (11 * s + u)) 121 = true := by rw [iN_in (by omega)]; omega
    refine ⟨g_up M 75 (11 * s + u) (iN (leastF (fun r => r * fee + wstF (L (s - r)) up dn u) s).1), ?_, g_up_eq _ _ ⟨rfl, rfl⟩, fun q => by rw [g_up_ne _ _ (by omega)]; exact hg q, fun _ => g_up_ne _ _ (by omega), fun a j _ g2 => g_up_ne _ _ g2⟩
    rw [l_X12_losses_187, if_pos (by rw [iN_lt (by omega) (by omega)]; omega), e11', if_pos gi, iN_cl (by omega), eS]
  | succ k ih =>
    intro s n M hs hn hL hg
    obtain ⟨n, rfl⟩ : ∃ m, n = m + 1 := ⟨n - 1, by omega⟩
    have hw0 : wstF (L (h - 0)) up dn u ≤ 10000 := by
      have hm := minN_le (u + up) 10
      exact mostF_le _ (fun j hj => (hL (h - 0) _ (by omega) (by omega)).1)
    have b0 : (leastF (fun r => r * fee + wstF (L (h - r)) up dn u) s).1 ≤ 10000 := by
      refine Nat.le_trans (leastF_le s).1 ?_
      show 0 * fee + wstF (L (h - 0)) up dn u ≤ _
      omega
    rw [l_m187a hh hu hup hdn hfee (by omega) hL (by omega)]
    by_cases c : (s + 1) * fee + wstF (L (h - (s + 1))) up dn u < (leastF (fun r => r * fee + wstF (L (h - r)) up dn u) s).1
    · have e : leastF (fun r => r * fee + wstF (L (h - r)) up dn u) (s + 1) = ((s + 1) * fee + wstF (L (h - (s + 1))) up dn u, s + 1) := by rw [leastF]; exact if_pos c
      rw [if_pos c]
      have e1 : (s + 1) * fee + wstF (L (h - (s + 1))) up dn u = (leastF (fun r => r * fee + wstF (L (h - r)) up dn u) (s + 1)).1 := by rw [e]
      by_cases c2 : iN h = x6 ∧ iN u = x7
      · rw [if_pos ⟨c, c2⟩, e1]
        obtain ⟨M', q1, q2, q3, q4, q5⟩ := ih (s + 1) n (g_up M 40 62 (iN (s + 1))) (by omega) (by omega) (fun g v g1 g2 => by rw [g_up_ne _ _ (by omega)]; exact hL g v g1 g2) (fun _ => by rw [g_up_eq _ _ ⟨rfl, rfl⟩, e])
        exact ⟨M', q1, q2, q3, fun q => absurd c2 q, fun a j g1 g2 => by rw [q5 a j g1 g2, g_up_ne _ _ g1]⟩
      · rw [if_neg (fun q => c2 q.2), e1]
        exact ih (s + 1) n M (by omega) (by omega) hL (fun q => absurd q c2)
    · have e : leastF (fun r => r * fee + wstF (L (h - r)) up dn u) (s + 1) = leastF (fun r => r * fee + wstF (L (h - r)) up dn u) s := by rw [leastF]; exact if_neg c
      rw [if_neg c, if_neg (fun q => c q.1), ← e]
      exact ih (s + 1) n M (by omega) (by omega) hL (fun q => by rw [e]; exact hg q)
theorem l_m187 {σ : gS} {M : gM} {N : gN} {h u up dn fee n : Nat} {x1 x2 x6 x7 x8 : Int32} {L : Nat → Nat → Nat} {k98 : _} {k137 : _} {k147 : _} (hh : h ≤ 10) (hu : u ≤ 10) (hup : up ≤ 3) (hdn : dn ≤ 3) (hfee : fee ≤ 100) (hn : h + 1 < n) (hL : ∀ g v, g ≤ 10 → v ≤ 10 → L g v ≤ 10000 ∧ M 76 (11 * g + v) = iN (L g v)) : ∃ M', l_X12_losses_187 k98 k137 k147 n x1 x2 (iN up) (iN dn) x6 x7 x8 (iN h) (iN u) (iN fee) (iN 1073741824) (iN 0) σ M N = k147 x1 x2 (iN up) (iN dn) x6 x7 x8 (iN h) (iN (u + 1)) σ M' N ∧ M' 75 (11 * h + u) = iN (leastF (fun r => r * fee + wstF (L (h - r)) up dn u) h).1 ∧ (iN h = x6 ∧ iN u = x7 → M' 40 62 = iN (leastF (fun r => r * fee + wstF (L (h - r)) up dn u) h).2) ∧ (¬ (iN h = x6 ∧ iN u = x7) → M' 40 62 = M 40 62) ∧ ∀ a j, ¬ (a = 40 ∧ j = 62) → ¬ (a = 75 ∧ j = 11 * h + u) → M' a j = M a j := by
  obtain ⟨n, rfl⟩ : ∃ m, n = m + 1 := ⟨n - 1, by omega⟩
  have hw0 : wstF (L (h - 0)) up dn u ≤ 10000 := by
    have hm := minN_le (u + up) 10
    exact mostF_le _ (fun j hj => (hL (h - 0) _ (by omega) (by omega)).1)
  have c : 0 * fee + wstF (L (h - 0)) up dn u < 1073741824 := by omega
  rw [l_m187a hh hu hup hdn hfee (by omega) hL (by omega), if_pos c]
  have e1 : 0 * fee + wstF (L (h - 0)) up dn u = (leastF (fun r => r * fee + wstF (L (h - r)) up dn u) 0).1 := rfl
  by_cases c2 : iN h = x6 ∧ iN u = x7
  · rw [if_pos ⟨c, c2⟩, e1]
    obtain ⟨M', q1, q2, q3, q4, q5⟩ := l_m187s (σ := σ) (N := N) (fee := fee) (x1 := x1) (x2 := x2) (x6 := x6) (x7 := x7) (x8 := x8) (L := L) (k98 := k98) (k137 := k137) (k147 := k147) hh hu hup hdn hfee h 0 n (g_up M 40 62 (iN 0)) (by omega) (by omega) (fun g v g1 g2 => by rw [g_up_ne _ _ (by omega)]; exact hL g v g1 g2) (fun _ => g_up_eq _ _ ⟨rfl, rfl⟩)
    exact ⟨M', q1, q2, q3, fun q => absurd c2 q, fun a j g1 g2 => by rw [q5 a j g1 g2, g_up_ne _ _ g1]⟩
  · rw [if_neg (fun q => c2 q.2), e1]
    exact l_m187s hh hu hup hdn hfee h 0 n M (by omega) (by omega) hL (fun q => absurd q c2)
