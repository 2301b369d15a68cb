/-! settle: the model's first set of a room; its plan. -/
def least (M0 : gM) (P t n how r S X : Nat) : Prop := bd X S = 0 ∧ LT M0 P t n how (r + 1) (bd S X) ≠ 1073741824 ∧ LT M0 P t n how (r + 1) (bd S X) + wM M0 P t how r X = LT M0 P t n how r S
theorem isLeast_m {σ : gS} {M M0 : gM} {P t n how r S X : Nat} (hC : mCx M0 P t n) (hr : r < n) (hS : S < 1024) (hX : X < 1024) (hh : how ≤ 1) (fr : frM M M0) (hL : hasL M M0 P t n how 0) : f_X12_isLeast (iN t) (iN r) (iN S) (iN X) (iN how) σ M = some (bI (bP (least M0 P t n how r S X))) := by
  have hn := hC.2.2.1
  have hbd : bd S X < 1024 := bd_ltp (n := 10) hS
  have hbx : bd X S < 1024 := bd_ltp (n := 10) hX
  have l1 := LT_le (M0 := M0) (P := P) (t := t) (how := how) (S := bd S X) (show r + 1 ≤ n by omega)
  have l2 := LT_le (M0 := M0) (P := P) (t := t) (how := how) (S := S) (show r ≤ n by omega)
  have hw := wM_lt (how := how) (X := X) hC hr
  have i1 : (1024 : Int32) * iN (r + 1) + iN (bd S X) = iN (1024 * (r + 1) + bd S X) := by rw [show (1024 : Int32) = iN 1024 from rfl, iN_mul, iN_add]
  have i2 : (1024 : Int32) * iN r + iN S = iN (1024 * r + S) := by rw [show (1024 : Int32) = iN 1024 from rfl, iN_mul, iN_add]
  unfold f_X12_isLeast b_X12_isLeast_0
  rw [show (-1 : Int32) = iM from rfl, iN_bd, iN_bd, eS, i1, i2, weight_m hC hr hX hh fr, oB, if_pos (show g_in (iN (1024 * (r + 1) + bd S X)) 11264 = true by rw [iN_in (by omega)]; omega), if_pos (show g_in (iN (1024 * r + S)) 11264 = true by rw [iN_in (by omega)]; omega), iN_cl (by omega), iN_cl (by omega), hL (r + 1) _ (by omega) (by omega) hbd, hL r _ (by omega) (by omega) hS, iN_add]
  by_cases c1 : bd X S = 0
  · rw [if_pos (show iN (bd X S) = (0 : Int32) by rw [c1]; rfl)]
    by_cases c2 : LT M0 P t n how (r + 1) (bd S X) = 1073741824
    · rw [if_pos (show iN (LT M0 P t n how (r + 1) (bd S X)) = (1073741824 : Int32) by rw [c2]; rfl), bP_f (fun q => q.2.1 c2)]; rfl
    · rw [if_neg (show ¬ iN (LT M0 P t n how (r + 1) (bd S X)) = (1073741824 : Int32) by rw [show (1073741824 : Int32) = iN 1073741824 from rfl, iN_inj (by omega) (by omega)]; exact c2)]
      by_cases c3 : LT M0 P t n how (r + 1) (bd S X) + wM M0 P t how r X = LT M0 P t n how r S
      · rw [if_pos (by rw [c3]), bP_t ⟨c1, c2, c3⟩]; rfl
      · rw [if_neg (by rw [iN_inj (by omega) (by omega)]; exact c3), bP_f (fun q => c3 q.2.2)]; rfl
  · rw [if_neg (show ¬ iN (bd X S) = (0 : Int32) by rw [show (0 : Int32) = iN 0 from rfl, iN_inj (by omega) (by omega)]; exact c1), bP_f (fun q => c1 q.1)]; rfl
theorem l_t52 {σ : gS} {M M0 : gM} {P t n how r S : Nat} {x5 x6 : Int32} {K : Int32 → Int32 → Int32 → Int32 → Int32 → Int32 → gS → gM → Option (Int32 × gM)} (hC : mCx M0 P t n) (hr : r < n) (hS : S < 1024) (hh : how ≤ 1) (fr : frM M M0) (hs : hasS M M0 P t n) (hL : hasL M M0 P t n how 0) (hex : ∃ j, j < (mlist M0 P t r).length ∧ least M0 P t n how r S ((mlist M0 P t r).getD j 0)) : ∀ d j f, j + d = (mlist M0 P t r).length → d < f → (∀ j', j' < j → ¬ least M0 P t n how r S ((mlist M0 P t r).getD j' 0)) → ∃ j0, j0 < (mlist M0 P t r).length ∧ least M0 P t n how r S ((mlist M0 P t r).getD j0 0) ∧ (∀ j', j' < j0 → ¬ least M0 P t n how r S ((mlist M0 P t r).getD j' 0)) ∧ l_X12_takes_52 K f (iN t) (iN how) (iN S) x5 x6 (iN r) (iN j) σ M = l_X12_takes_102 K g_FU (iN t) (iN how) (iN S) x5 x6 (iN r) (iN ((mlist M0 P t r).getD j0 0)) 0 σ M := by
  have hn := hC.2.2.1
  have hl' : (mlist M0 P t r).length ≤ 56 := mo_len hC hr (Nat.le_refl 1024)
  obtain ⟨s1, s2⟩ := hs r hr
  intro d
  induction d with
  | zero =>
    intro j f hj hf hno
    obtain ⟨j1, h1, h2⟩ := hex
    exact absurd h2 (hno j1 (by omega))
  | succ d ih =>
    intro j f hj hf hno
    obtain ⟨f, rfl⟩ : ∃ m, f = m + 1 := ⟨f - 1, by omega⟩
    have hjl : j < (mlist M0 P t r).length := by omega
    have hX : (mlist M0 P t r).getD j 0 < 1024 := by
      have eX : (mlist M0 P t r).getD j 0 = (mlist M0 P t r)[j] := by simp [List.getD, List.getElem?_eq_getElem hjl]
      rw [eX]; exact (mlist_mem.mp (List.getElem_mem hjl)).1
    have gi : g_in (iN (64 * r + j)) 640 = true := by rw [iN_in (by omega)]; omega
    have st : l_X12_takes_52 K (f + 1) (iN t) (iN how) (iN S) x5 x6 (iN r) (iN j) σ M = if bI (bP (least M0 P t n how r S ((mlist M0 P t r).getD j 0))) = (0 : Int32) then l_X12_takes_52 K f (iN t) (iN how) (iN S) x5 x6 (iN r) (iN (j + 1)) σ M else l_X12_takes_102 K g_FU (iN t) (iN how) (iN S) x5 x6 (iN r) (iN ((mlist M0 P t r).getD j 0)) 0 σ M := by
      rw [l_X12_takes_52, show (64 : Int32) * iN r + iN j = iN (64 * r + j) from by rw [show (64 : Int32) = iN 64 from rfl, iN_mul, iN_add], if_pos gi, iN_cl (by omega), s2 j hjl, isLeast_m hC hr hS hX hh fr hL, oB, if_pos gi, eS]
    by_cases c : least M0 P t n how r S ((mlist M0 P t r).getD j 0)
    · exact ⟨j, hjl, c, hno, by rw [st, if_neg (by rw [bP_t c]; decide)]⟩
    · obtain ⟨j0, q1, q2, q3, q4⟩ := ih (j + 1) f (by omega) (by omega) (fun j' hj' => by
        by_cases e : j' = j
        · rw [e]; exact c
        · exact hno j' (by omega))
      exact ⟨j0, q1, q2, q3, by rw [st, if_pos (by rw [bP_f c]; rfl)]; exact q4⟩
/-- the model's first set of a room -/
theorem first_m {σ : gS} {M M0 : gM} {P t n how r S : Nat} {x5 x6 : Int32} {K : Int32 → Int32 → Int32 → Int32 → Int32 → Int32 → gS → gM → Option (Int32 × gM)} (hC : mCx M0 P t n) (hr : r < n) (hS : S < 1024) (hh : how ≤ 1) (fr : frM M M0) (hs : hasS M M0 P t n) (hL : hasL M M0 P t n how 0) (hF : LT M0 P t n how r S ≠ 1073741824) : ∃ X, X < 1024 ∧ moB M0 P t r X = true ∧ least M0 P t n how r S X ∧ (∀ Y, Y < X → moB M0 P t r Y = true → ¬ least M0 P t n how r S Y) ∧ l_X12_takes_52 K g_FU (iN t) (iN how) (iN S) x5 x6 (iN r) 0 σ M = l_X12_takes_102 K g_FU (iN t) (iN how) (iN S) x5 x6 (iN r) (iN X) 0 σ M := by
  have hl' : (mlist M0 P t r).length ≤ 56 := mo_len hC hr (Nat.le_refl 1024)
  have gD : ∀ j, (h : j < (mlist M0 P t r).length) → (mlist M0 P t r).getD j 0 = (mlist M0 P t r)[j] := fun j h => by simp [List.getD, List.getElem?_eq_getElem h]
  have hex : ∃ j, j < (mlist M0 P t r).length ∧ least M0 P t n how r S ((mlist M0 P t r).getD j 0) := by
    rcases (LT_is (M0 := M0) (P := P) (t := t) (how := how) (S := S) hr).2.2 with l3 | ⟨X, x1, x2, x3, x4, x5⟩
    · exact absurd l3 hF
    · obtain ⟨j, h1, h2⟩ := List.getElem_of_mem (mlist_mem.mpr ⟨x1, x2⟩)
      exact ⟨j, h1, by rw [gD j h1, h2]; exact ⟨x3, x4, x5.symm⟩⟩
  obtain ⟨j0, q1, q2, q3, q4⟩ := l_t52 (σ := σ) (x5 := x5) (x6 := x6) (K := K) hC hr hS hh fr hs hL hex (mlist M0 P t r).length 0 g_FU (by omega) (by unfold g_FU; omega) (fun j' hj' => by omega)
  have hm := mlist_mem.mp (show (mlist M0 P t r).getD j0 0 ∈ mlist M0 P t r by rw [gD j0 q1]; exact List.getElem_mem q1)
  refine ⟨(mlist M0 P t r).getD j0 0, hm.1, hm.2, q2, fun Y hY hYm => ?_, q4⟩
  obtain ⟨j, h1, h2⟩ := List.getElem_of_mem (mlist_mem.mpr ⟨by omega, hYm⟩)
  have pw : List.Pairwise (· < ·) (mlist M0 P t r) := List.Pairwise.filter _ (List.pairwise_lt_range)
  have hj : j < j0 := by
    rcases Nat.lt_or_ge j j0 with c | c
    · exact c
    · rcases Nat.lt_or_ge j0 j with c2 | c2
      · have := List.pairwise_iff_getElem.mp pw j0 j q1 h1 c2
        rw [gD j0 q1, ← h2] at hY
        omega
      · have e : j = j0 := by omega
        subst e
        rw [gD j q1, h2] at hY
        omega
  have := q3 j hj
  rw [gD j h1, h2] at this
  exact this
theorem l_t102 {σ : gS} {M0 : gM} {P t n how r S X cost mv : Nat} {K : Int32 → Int32 → Int32 → Int32 → Int32 → Int32 → gS → gM → Option (Int32 × gM)} (hC : mCx M0 P t n) (hr : r < n) (hX : X < 1024) : ∀ k i f M, i + k = P → k < f → frM M M0 → ∃ M', l_X12_takes_102 K f (iN t) (iN how) (iN S) (iN cost) (iN mv) (iN r) (iN X) (iN i) σ M = K (iN t) (iN how) (iN (bd S X)) (iN (cost + if X = 0 then 0 else prF M0 t r)) (iN (mv + mvSum M0 t r X P)) (iN (r + 1)) σ M' ∧ (∀ p, i ≤ p → p < P → M' 68 p = if X.testBit p then iN r else M 68 p) ∧ (∀ p, p < i → M' 68 p = M 68 p) ∧ ∀ a j, a ≠ 68 → M' a j = M a j := by
  have hC' := hC
  obtain ⟨c1, c2, c3, c4, c5, c6⟩ := hC'
  obtain ⟨b1, b2, b3, b4, b5⟩ := c6 r hr
  intro k
  induction k with
  | zero =>
    intro i f M hi hf fr
    obtain ⟨f, rfl⟩ : ∃ m, f = m + 1 := ⟨f - 1, by omega⟩
    refine ⟨M, ?_, fun p h1 h2 => by omega, fun _ _ => rfl, fun _ _ _ => rfl⟩
    rw [l_X12_takes_102, fr _ _ (by omega) (by omega) (by omega), c4, if_neg (by rw [iN_lt (by omega) (by omega)]; omega)]
    unfold b_X12_takes_170
    rw [moved_m hC (by omega) hX fr, oB, show (-1 : Int32) = iM from rfl, iN_bd, eS, iN_add, show (10 : Int32) * iN t + iN r = iN (10 * t + r) from by rw [show (10 : Int32) = iN 10 from rfl, iN_mul, iN_add], if_pos (show g_in (iN (10 * t + r)) 60 = true by rw [iN_in (by omega)]; omega), iN_cl (by omega), fr 55 _ (by omega) (by omega) (by omega), b4]
    by_cases c : X = 0
    · rw [if_pos (show iN X = (0 : Int32) by rw [c]; rfl), if_pos c, show iN cost + (0 : Int32) = iN (cost + 0) from iN_add _ 0]
    · rw [if_neg (show ¬ iN X = (0 : Int32) by rw [show (0 : Int32) = iN 0 from rfl, iN_inj (by omega) (by omega)]; exact c), if_neg c, iN_add, oB, iN_add]
  | succ k ih =>
    intro i f M hi hf fr
    obtain ⟨f, rfl⟩ : ∃ m, f = m + 1 := ⟨f - 1, by omega⟩
    have gi : g_in (iN i) 10 = true := by rw [iN_in (by omega)]; omega
    have go : ∀ v : Int32, (v = if X.testBit i then iN r else M 68 i) → ∃ M', l_X12_takes_102 K f (iN t) (iN how) (iN S) (iN cost) (iN mv) (iN r) (iN X) (iN (i + 1)) σ (g_up M 68 i v) = K (iN t) (iN how) (iN (bd S X)) (iN (cost + if X = 0 then 0 else prF M0 t r)) (iN (mv + mvSum M0 t r X P)) (iN (r + 1)) σ M' ∧ (∀ p, i ≤ p → p < P → M' 68 p = if X.testBit p then iN r else M 68 p) ∧ (∀ p, p < i → M' 68 p = M 68 p) ∧ ∀ a j, a ≠ 68 → M' a j = M a j := fun v hv => by
      obtain ⟨M', q1, q2, q3, q4⟩ := ih (i + 1) f (g_up M 68 i v) (by omega) (by omega) (fun a j h1 h2 h3 => by rw [g_up_ne _ _ (by omega), fr a j h1 h2 h3])
      refine ⟨M', q1, fun p h1 h2 => ?_, fun p hp => by rw [q3 p (by omega), g_up_ne _ _ (by omega)], fun a j h => by rw [q4 a j h, g_up_ne _ _ (by omega)]⟩
      by_cases e : p = i
      · rw [e, q3 i (by omega), g_up_eq _ _ ⟨rfl, rfl⟩, hv]
      · rw [q2 p (by omega) h2, g_up_ne _ _ (by omega)]
    rw [l_X12_takes_102, fr _ _ (by omega) (by omega) (by omega), c4, if_pos (by rw [iN_lt (by omega) (by omega)]; omega)]
    unfold b_X12_takes_140
    rw [eS, if_pos gi, if_pos gi, iN_cl (by omega)]
    cases c : X.testBit i with
    | true =>
      rw [if_pos (by rw [iN_bit1 (by omega) (by omega), c])]
      exact go _ (by rw [c, if_pos rfl])
    | false =>
      rw [if_neg (by rw [iN_bit1 (by omega) (by omega), c]; decide), if_pos gi]
      exact go _ (by rw [c, if_neg (by decide)])
