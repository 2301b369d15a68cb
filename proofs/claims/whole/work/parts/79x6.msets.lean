/-! settle, most: the model's sets. -/
def frM (M M0 : gM) : Prop := ∀ a j, 40 ≤ a → a < 100 → ¬ (65 ≤ a ∧ a ≤ 69) → M a j = M0 a j
def allS (M : gM) (P t : Nat) : Nat := setOf (fun p => thereB M p t) P
theorem l_there {σ : gS} {M : gM} {P t : Nat} (h10 : P ≤ 10) (hP : M 40 1 = iN P) : ∀ k i n, i + k = P → k < n → l_X12_there_4 n (iN t) (iN (setOf (fun p => thereB M p t) i)) (iN i) σ M = some (iN (allS M P t)) := by
  intro k
  induction k with
  | zero =>
    intro i n hi hn
    obtain ⟨n, rfl⟩ : ∃ m, n = m + 1 := ⟨n - 1, by omega⟩
    obtain rfl : i = P := by omega
    rw [l_X12_there_4, hP, if_neg (by rw [iN_lt (by omega) (by omega)]; omega)]; rfl
  | succ k ih =>
    intro i n hi hn
    obtain ⟨n, rfl⟩ : ∃ m, n = m + 1 := ⟨n - 1, by omega⟩
    have e := ih (i + 1) n (by omega) (by omega)
    rw [l_X12_there_4, hP, if_pos (by rw [iN_lt (by omega) (by omega)]; omega), there_m (by omega), oB]
    unfold b_X12_there_29
    rw [eS]
    rw [setOf] at e
    cases c : thereB M i t with
    | true =>
      rw [c, if_pos rfl] at e
      rw [if_neg (show ¬ bI true = (0 : Int32) by decide), show (1 : Int32) <<< (iN i &&& 31) = iN (2 ^ i) from by rw [show (1 : Int32) = iN 1 from rfl, iN_shl (by omega), Nat.one_mul], iN_or]
      exact e
    | false =>
      rw [c, if_neg (by decide), Nat.or_zero] at e
      rw [if_pos (show bI false = (0 : Int32) from rfl), show (0 : Int32) = iN 0 from rfl, iN_or, Nat.or_zero]
      exact e
theorem thereS_m {σ : gS} {M : gM} {P t : Nat} (h10 : P ≤ 10) (hP : M 40 1 = iN P) : f_X12_there (iN t) σ M = some (iN (allS M P t)) := l_there h10 hP P 0 g_FU (by omega) (by unfold g_FU; omega)
noncomputable def moB (M : gM) (P t r X : Nat) : Bool := decide (bd X (allS M P t) = 0) && bP (mayP M P t r (bF M t r) X)
noncomputable def mlist (M : gM) (P t r : Nat) : List Nat := (List.range 1024).filter (moB M P t r)
theorem frM.rows {M M0 : gM} (h : frM M M0) : M 56 = M0 56 ∧ M 43 = M0 43 ∧ M 54 = M0 54 ∧ M 48 = M0 48 ∧ M 49 = M0 49 ∧ M 41 = M0 41 ∧ M 42 = M0 42 ∧ M 45 = M0 45 ∧ M 46 = M0 46 ∧ M 47 = M0 47 ∧ M 53 = M0 53 ∧ M 55 = M0 55 ∧ M 57 = M0 57 :=
  ⟨funext fun j => h _ j (by omega) (by omega) (by omega), funext fun j => h _ j (by omega) (by omega) (by omega), funext fun j => h _ j (by omega) (by omega) (by omega), funext fun j => h _ j (by omega) (by omega) (by omega), funext fun j => h _ j (by omega) (by omega) (by omega), funext fun j => h _ j (by omega) (by omega) (by omega), funext fun j => h _ j (by omega) (by omega) (by omega), funext fun j => h _ j (by omega) (by omega) (by omega), funext fun j => h _ j (by omega) (by omega) (by omega), funext fun j => h _ j (by omega) (by omega) (by omega), funext fun j => h _ j (by omega) (by omega) (by omega), funext fun j => h _ j (by omega) (by omega) (by omega), funext fun j => h _ j (by omega) (by omega) (by omega)⟩
theorem mayP_fr {M M0 : gM} (h : frM M M0) (P t r b s : Nat) : bP (mayP M P t r b s) = bP (mayP M0 P t r b s) := by
  obtain ⟨r1, r2, r3, r4, r5, r6, r7, _⟩ := h.rows
  unfold mayP okP shareB
  rw [r1, r2, r3, r4, r5, r6, r7]
theorem allS_fr {M M0 : gM} (h : frM M M0) (P t : Nat) : allS M P t = allS M0 P t := by
  obtain ⟨_, _, _, _, _, _, _, r8, r9, r10, _⟩ := h.rows
  unfold allS thereB
  rw [r8, r9, r10]
theorem bF_fr {M M0 : gM} (h : frM M M0) (t r : Nat) : bF M t r = bF M0 t r ∧ prF M t r = prF M0 t r ∧ (∀ p, mvP M t r p = mvP M0 t r p) := by
  obtain ⟨_, _, _, _, _, _, _, _, _, _, r11, r12, r13⟩ := h.rows
  unfold bF prF mvP
  rw [r11, r12, r13]
  exact ⟨rfl, rfl, fun _ => rfl⟩
/-- what the model's cells must be -/
def mCx (M0 : gM) (P t n : Nat) : Prop := P ≤ 10 ∧ t < 6 ∧ n ≤ 10 ∧ M0 40 1 = iN P ∧ M0 52 t = iN n ∧ ∀ r, r < n → M0 53 (10 * t + r) = iN (bF M0 t r) ∧ 1 ≤ bF M0 t r ∧ bF M0 t r ≤ 2 ∧ M0 55 (10 * t + r) = iN (prF M0 t r) ∧ prF M0 t r ≤ 1000
theorem mo_cnt {M0 : gM} {P t n r X : Nat} (hC : mCx M0 P t n) (hr : r < n) (h : moB M0 P t r X = true) : pc10 X ≤ 2 := by
  unfold moB at h
  rw [Bool.and_eq_true] at h
  have h1 := bd_z.mp (of_decide_eq_true h.1)
  have h2 : mayP M0 P t r (bF M0 t r) X := by
    by_cases c : mayP M0 P t r (bF M0 t r) X
    · exact c
    · rw [bP_f c] at h; exact absurd h.2 (by decide)
  have h3 := h2.2.1
  have h4 := (hC.2.2.2.2.2 r hr).2.2.1
  have h5 := hC.1
  rw [pc10_cnt, cnt_more h5 (fun p q1 q2 => by
    cases e : X.testBit p with
    | false => rfl
    | true =>
      have := h1 p e
      unfold allS at this
      rw [setOf_bit, decide_eq_false (by omega)] at this
      exact absurd this (by simp))]
  omega
set_option maxRecDepth 100000 in
theorem two56 : (List.range 1024).countP (fun X => decide (pc10 X ≤ 2)) = 56 := by decide +kernel
theorem mo_len {M0 : gM} {P t n r : Nat} (hC : mCx M0 P t n) (hr : r < n) {x : Nat} (hx : x ≤ 1024) : ((List.range x).filter (moB M0 P t r)).length ≤ 56 := by
  rw [← List.countP_eq_length_filter, ← two56]
  refine Nat.le_trans (List.countP_mono_left (fun X _ h => decide_eq_true (mo_cnt hC hr h))) ?_
  exact List.Sublist.countP_le (List.range_sublist.mpr hx)
theorem l_sets28 {σ : gS} {M0 : gM} {P t n r : Nat} {K : Int32 → Int32 → Int32 → gS → gM → Option gM} (hC : mCx M0 P t n) (hr : r < n) : ∀ k x f M, x + k = 1024 → k < f → frM M M0 → M 66 r = iN ((List.range x).filter (moB M0 P t r)).length → (∀ j, j < ((List.range x).filter (moB M0 P t r)).length → M 65 (64 * r + j) = iN (((List.range x).filter (moB M0 P t r)).getD j 0)) → ∃ M', l_X12_findSets_28 K f (iN t) (iN (allS M0 P t)) (iN r) (iN x) σ M = K (iN t) (iN (allS M0 P t)) (iN (r + 1)) σ M' ∧ M' 66 r = iN (mlist M0 P t r).length ∧ (∀ j, j < (mlist M0 P t r).length → M' 65 (64 * r + j) = iN ((mlist M0 P t r).getD j 0)) ∧ ∀ a j, ¬ (a = 66 ∧ j = r) → ¬ (a = 65 ∧ 64 * r ≤ j ∧ j < 64 * r + 64) → M' a j = M a j := by
  obtain ⟨c1, c2, c3, c4, c5, c6⟩ := hC
  have hC : mCx M0 P t n := ⟨c1, c2, c3, c4, c5, c6⟩
  intro k
  induction k with
  | zero =>
    intro x f M hx hf fr h66 h65
    obtain ⟨f, rfl⟩ : ∃ m, f = m + 1 := ⟨f - 1, by omega⟩
    obtain rfl : x = 1024 := by omega
    refine ⟨M, ?_, h66, h65, fun _ _ _ _ => rfl⟩
    rw [l_X12_findSets_28, if_neg (by decide), eS]
  | succ k ih =>
    intro x f M hx hf fr h66 h65
    obtain ⟨f, rfl⟩ : ∃ m, f = m + 1 := ⟨f - 1, by omega⟩
    have hl := mo_len hC hr (show x ≤ 1024 by omega)
    have gi : g_in (iN r) 10 = true := by rw [iN_in (by omega)]; omega
    have eR : (List.range (x + 1)).filter (moB M0 P t r) = (List.range x).filter (moB M0 P t r) ++ (if moB M0 P t r x = true then [x] else []) := by
      rw [List.range_succ, List.filter_append]
      congr 1
      by_cases c : moB M0 P t r x = true
      · rw [if_pos c, List.filter_cons_of_pos c]; rfl
      · rw [if_neg c, List.filter_cons_of_neg c]; rfl
    have eM : moB M0 P t r x = (decide (bd x (allS M0 P t) = 0) && bP (mayP M0 P t r (bF M0 t r) x)) := rfl
    obtain ⟨b1, b2, b3, b4, b5⟩ := c6 r hr
    rw [l_X12_findSets_28, if_pos (show iN x < (1024 : Int32) by rw [show (1024 : Int32) = iN 1024 from rfl, iN_lt (by omega) (by omega)]; omega), show (-1 : Int32) = iM from rfl, iN_bd]
    unfold b_X12_findSets_87
    rw [eS]
    have bl : bd x (allS M0 P t) < 1024 := bd_ltp (n := 10) (by omega)
    have skip : moB M0 P t r x = false → ∃ M', l_X12_findSets_28 K f (iN t) (iN (allS M0 P t)) (iN r) (iN (x + 1)) σ M = K (iN t) (iN (allS M0 P t)) (iN (r + 1)) σ M' ∧ M' 66 r = iN (mlist M0 P t r).length ∧ (∀ j, j < (mlist M0 P t r).length → M' 65 (64 * r + j) = iN ((mlist M0 P t r).getD j 0)) ∧ ∀ a j, ¬ (a = 66 ∧ j = r) → ¬ (a = 65 ∧ 64 * r ≤ j ∧ j < 64 * r + 64) → M' a j = M a j := fun hf0 => by
      rw [hf0, if_neg (by decide), List.append_nil] at eR
      exact ih (x + 1) f M (by omega) (by omega) fr (by rw [eR]; exact h66) (by rw [eR]; exact h65)
    by_cases c : bd x (allS M0 P t) = 0
    · rw [if_pos (show iN (bd x (allS M0 P t)) = (0 : Int32) by rw [c]; rfl), mayBe_m (M := M) (P := P) (b := bF M0 t r) (by omega) (by omega) (by omega) (by rw [fr _ _ (by omega) (by omega) (by omega)]; exact c4) c1 (by rw [fr _ _ (by omega) (by omega) (by omega)]; exact b1) b2 b3, oB, mayP_fr fr]
      cases e : bP (mayP M0 P t r (bF M0 t r) x) with
      | false =>
        rw [if_pos (show bI false = (0 : Int32) from rfl)]
        exact skip (by rw [eM, e, Bool.and_false])
      | true =>
        rw [eM, e, decide_eq_true c, Bool.true_and, if_pos rfl] at eR
        generalize hlg : (List.range x).filter (moB M0 P t r) = l at *
        rw [if_neg (show ¬ bI true = (0 : Int32) by decide), if_pos gi, iN_cl (by omega), h66, show (64 : Int32) * iN r + iN l.length = iN (64 * r + l.length) from by rw [show (64 : Int32) = iN 64 from rfl, iN_mul, iN_add], if_pos (by rw [iN_in (by omega)]; omega), if_pos gi, if_pos gi, iN_cl (by omega), g_up_ne (b := 66) _ _ (by omega), h66, eS]
        obtain ⟨M', q1, q2, q3, q4⟩ := ih (x + 1) f (g_up (g_up M 65 (64 * r + l.length) (iN x)) 66 r (iN (l.length + 1))) (by omega) (by omega) (fun a j h1 h2 h3 => by rw [g_up_ne _ _ (by omega), g_up_ne _ _ (by omega), fr a j h1 h2 h3]) (by rw [g_up_eq _ _ ⟨rfl, rfl⟩, eR, List.length_append]; rfl) (fun j hj => by
          rw [eR] at hj ⊢
          rw [List.length_append, List.length_singleton] at hj
          by_cases cj : j = l.length
          · rw [g_up_ne _ _ (by omega), g_up_eq _ _ ⟨rfl, by rw [cj]⟩, cj]
            congr 1
            simp [List.getD]
          · rw [g_up_ne _ _ (by omega), g_up_ne _ _ (by omega), h65 j (by omega)]
            congr 1
            simp [List.getD, List.getElem?_append_left (show j < l.length by omega)])
        exact ⟨M', q1, q2, q3, fun a j h1 h2 => by rw [q4 a j h1 h2, g_up_ne _ _ h1, g_up_ne _ _ (by omega)]⟩
    · rw [if_neg (show ¬ iN (bd x (allS M0 P t)) = (0 : Int32) by rw [show (0 : Int32) = iN 0 from rfl, iN_inj (by omega) (by omega)]; exact c)]
      exact skip (by rw [eM, decide_eq_false c, Bool.false_and])
/-- the model's sets of each room -/
def hasS (M M0 : gM) (P t n : Nat) : Prop := ∀ r, r < n → M 66 r = iN (mlist M0 P t r).length ∧ ∀ j, j < (mlist M0 P t r).length → M 65 (64 * r + j) = iN ((mlist M0 P t r).getD j 0)
theorem l_sets8 {σ : gS} {M0 : gM} {P t n : Nat} (hC : mCx M0 P t n) : ∀ k r f M, r + k = n → k < f → frM M M0 → hasS M M0 P t r → ∃ M', l_X12_findSets_8 f (iN t) (iN (allS M0 P t)) (iN r) σ M = some M' ∧ hasS M' M0 P t n ∧ ∀ a j, ¬ (65 ≤ a ∧ a ≤ 66) → M' a j = M a j := by
  obtain ⟨c1, c2, c3, c4, c5, c6⟩ := hC
  have hC : mCx M0 P t n := ⟨c1, c2, c3, c4, c5, c6⟩
  have gt : g_in (iN t) 6 = true := by rw [iN_in (by omega)]; exact c2
  intro k
  induction k with
  | zero =>
    intro r f M hr hf fr hS
    obtain ⟨f, rfl⟩ : ∃ m, f = m + 1 := ⟨f - 1, by omega⟩
    obtain rfl : r = n := by omega
    refine ⟨M, ?_, hS, fun _ _ _ => rfl⟩
    rw [l_X12_findSets_8, if_pos gt, iN_cl (by omega), fr _ _ (by omega) (by omega) (by omega), c5, if_neg (by rw [iN_lt (by omega) (by omega)]; omega)]
  | succ k ih =>
    intro r f M hr hf fr hS
    obtain ⟨f, rfl⟩ : ∃ m, f = m + 1 := ⟨f - 1, by omega⟩
    obtain ⟨M1, u1, u2, u3, u4⟩ := l_sets28 (σ := σ) (K := fun x1 x2 x3 σ M => l_X12_findSets_8 f x1 x2 x3 σ M) hC (show r < n by omega) 1024 0 g_FU (g_up M 66 r 0) (by omega) (by unfold g_FU; omega) (fun a j h1 h2 h3 => by rw [g_up_ne _ _ (by omega), fr a j h1 h2 h3]) (g_up_eq _ _ ⟨rfl, rfl⟩) (fun j hj => absurd hj (Nat.not_lt_zero _))
    have fr1 : ∀ a j, ¬ (a = 66 ∧ j = r) → ¬ (a = 65 ∧ 64 * r ≤ j ∧ j < 64 * r + 64) → M1 a j = M a j := fun a j h1 h2 => by rw [u4 a j h1 h2, g_up_ne _ _ h1]
    obtain ⟨M', q1, q2, q3⟩ := ih (r + 1) f M1 (by omega) (by omega) (fun a j h1 h2 h3 => by rw [fr1 a j (by omega) (by omega), fr a j h1 h2 h3]) (fun r' hr' => by
      by_cases c : r' = r
      · rw [c]; exact ⟨u2, u3⟩
      · obtain ⟨s1, s2⟩ := hS r' (by omega)
        have hl := mo_len hC (show r' < n by omega) (Nat.le_refl 1024)
        refine ⟨by rw [fr1 _ _ (by omega) (by omega)]; exact s1, fun j hj => ?_⟩
        have hj' : j < 64 := by unfold mlist at hj; omega
        rw [fr1 _ _ (by omega) (by omega)]; exact s2 j hj)
    refine ⟨M', ?_, q2, fun a j h => by rw [q3 a j h, fr1 a j (by omega) (by omega)]⟩
    rw [l_X12_findSets_8, if_pos gt, iN_cl (by omega), fr _ _ (by omega) (by omega) (by omega), c5, if_pos (by rw [iN_lt (by omega) (by omega)]; omega), if_pos (by rw [iN_in (by omega)]; omega), iN_cl (by omega)]
    exact u1.trans q1
theorem sets_m {σ : gS} {M M0 : gM} {P t n : Nat} (hC : mCx M0 P t n) (fr : frM M M0) : ∃ M', f_X12_findSets (iN t) σ M = some M' ∧ hasS M' M0 P t n ∧ ∀ a j, ¬ (65 ≤ a ∧ a ≤ 66) → M' a j = M a j := by
  have hC' := hC
  obtain ⟨c1, c2, c3, c4, c5, c6⟩ := hC'
  obtain ⟨M', q1, q2, q3⟩ := l_sets8 (σ := σ) hC n 0 g_FU M (by omega) (by unfold g_FU; omega) fr (fun r hr => by omega)
  refine ⟨M', ?_, q2, q3⟩
  unfold f_X12_findSets b_X12_findSets_0
  rw [thereS_m c1 (by rw [fr _ _ (by omega) (by omega) (by omega)]; exact c4), oB, allS_fr fr]
  exact q1
/-! the model's weights -/
def mvSum (M : gM) (t r X : Nat) : Nat → Nat
  | 0 => 0
  | n + 1 => mvSum M t r X n + if X.testBit n then mvP M t r n else 0
theorem mvSum_le (M : gM) (t r X : Nat) : ∀ n, mvSum M t r X n ≤ n := by
  intro n
  induction n with
  | zero => exact Nat.le_refl _
  | succ n ih =>
    have := mvP_le M t r n
    rw [mvSum]
    split <;> omega
theorem l_movedBy {σ : gS} {M M0 : gM} {P t r X : Nat} (h10 : P ≤ 10) (ht : t < 6) (hr : r < 10) (hX : X < 1024) (fr : frM M M0) (hP : M0 40 1 = iN P) : ∀ k i n, i + k = P → k < n → l_X12_movedBy_6 n (iN t) (iN r) (iN X) (iN (mvSum M0 t r X i)) (iN i) σ M = some (iN (mvSum M0 t r X P)) := by
  intro k
  induction k with
  | zero =>
    intro i n hi hn
    obtain ⟨n, rfl⟩ : ∃ m, n = m + 1 := ⟨n - 1, by omega⟩
    obtain rfl : i = P := by omega
    rw [l_X12_movedBy_6, fr _ _ (by omega) (by omega) (by omega), hP, if_neg (by rw [iN_lt (by omega) (by omega)]; omega)]
  | succ k ih =>
    intro i n hi hn
    obtain ⟨n, rfl⟩ : ∃ m, n = m + 1 := ⟨n - 1, by omega⟩
    have e := ih (i + 1) n (by omega) (by omega)
    have gi : g_in (iN (10 * t + i)) 60 = true := by rw [iN_in (by omega)]; omega
    rw [mvSum] at e
    rw [l_X12_movedBy_6, fr _ _ (by omega) (by omega) (by omega), hP, if_pos (by rw [iN_lt (by omega) (by omega)]; omega), show (10 : Int32) * iN t + iN i = iN (10 * t + i) from by rw [show (10 : Int32) = iN 10 from rfl, iN_mul, iN_add], if_pos gi, if_pos gi, iN_cl (by omega), fr 57 _ (by omega) (by omega) (by omega)]
    unfold b_X12_movedBy_63 b_X12_movedBy_64
    rw [eS]
    have z0 : iN (mvSum M0 t r X i) + (0 : Int32) = iN (mvSum M0 t r X i) := Int32.add_zero _
    cases c : X.testBit i with
    | false =>
      rw [c, if_neg (by decide), Nat.add_zero] at e
      rw [if_neg (by rw [iN_bit1 (by omega) (by omega), c]; decide), z0]
      exact e
    | true =>
      rw [c, if_pos rfl] at e
      rw [if_pos (by rw [iN_bit1 (by omega) (by omega), c])]
      unfold mvP at e
      by_cases c1 : M0 57 (10 * t + i) = iM
      · rw [if_pos c1, Nat.add_zero] at e
        rw [if_pos (show M0 57 (10 * t + i) = -1 from c1), z0]
        exact e
      · rw [if_neg c1] at e
        rw [if_neg (show ¬ M0 57 (10 * t + i) = -1 from c1)]
        by_cases c2 : M0 57 (10 * t + i) = iN r
        · rw [if_pos c2, Nat.add_zero] at e
          rw [if_pos c2, z0]
          exact e
        · rw [if_neg c2] at e
          rw [if_neg c2, eS]
          exact e
theorem moved_m {σ : gS} {M M0 : gM} {P t r X n : Nat} (hC : mCx M0 P t n) (hr : r < 10) (hX : X < 1024) (fr : frM M M0) : f_X12_movedBy (iN t) (iN r) (iN X) σ M = some (iN (mvSum M0 t r X P)) := l_movedBy hC.1 hC.2.1 hr hX fr hC.2.2.2.1 P 0 g_FU (by omega) (by unfold g_FU; have := hC.1; omega)
def encM (how c mv : Nat) : Nat := if how = 0 then 32 * c + mv else 32768 * mv + c
def wM (M0 : gM) (P t how r X : Nat) : Nat := if X = 0 then 0 else encM how (prF M0 t r) (mvSum M0 t r X P)
theorem wM_lt {M0 : gM} {P t how r X n : Nat} (hC : mCx M0 P t n) (hr : r < n) : wM M0 P t how r X < 1000000 := by
  have h1 := hC.1
  have h2 := (hC.2.2.2.2.2 r hr).2.2.2.2
  have h3 := mvSum_le M0 t r X P
  unfold wM encM
  split
  · omega
  · split <;> omega
theorem weight_m {σ : gS} {M M0 : gM} {P t r X n how : Nat} (hC : mCx M0 P t n) (hr : r < n) (hX : X < 1024) (hh : how ≤ 1) (fr : frM M M0) : f_X12_weight (iN t) (iN r) (iN X) (iN how) σ M = some (iN (wM M0 P t how r X)) := by
  have hC' := hC
  obtain ⟨c1, c2, c3, c4, c5, c6⟩ := hC'
  obtain ⟨b1, b2, b3, b4, b5⟩ := c6 r hr
  unfold f_X12_weight b_X12_weight_0 wM encM
  by_cases c : X = 0
  · rw [if_pos c, if_pos (show iN X = (0 : Int32) by rw [c]; rfl)]; rfl
  · rw [if_neg c, if_neg (show ¬ iN X = (0 : Int32) by rw [show (0 : Int32) = iN 0 from rfl, iN_inj (by omega) (by omega)]; exact c), show (10 : Int32) * iN t + iN r = iN (10 * t + r) from by rw [show (10 : Int32) = iN 10 from rfl, iN_mul, iN_add], if_pos (by rw [iN_in (by omega)]; omega), moved_m hC (by omega) hX fr, oB, iN_cl (by omega), fr 55 _ (by omega) (by omega) (by omega), b4]
    by_cases h0 : how = 0
    · rw [if_pos h0, if_pos (show iN how = (0 : Int32) by rw [h0]; rfl), show (32 : Int32) = iN 32 from rfl, iN_mul, iN_add]
    · rw [if_neg h0, if_neg (show ¬ iN how = (0 : Int32) by rw [show (0 : Int32) = iN 0 from rfl, iN_inj (by omega) (by omega)]; exact h0), show (32768 : Int32) = iN 32768 from rfl, iN_mul, iN_add]
