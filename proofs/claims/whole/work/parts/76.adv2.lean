/-! read: the class's tokens, told ahead. -/
theorem sign_c {x : Nat} (hx : x < 256) : f_X7_isSign (iN x) = some (bI (signB x)) := by
  have : ∀ x, x < 256 → f_X7_isSign (iN x) = some (bI (signB x)) := by decide +kernel
  exact this x hx
theorem plcF_le {b : Nat → Nat} {n s : Nat} (h : s ≤ n) : s ≤ plcF b n s ∧ plcF b n s ≤ n := by
  have := endR_ge blankB b n (n - s) s
  unfold plcF
  omega
theorem bhdF_le {b : Nat → Nat} {n s : Nat} (h : s ≤ n) : plcF b n s ≤ bhdF b n s ∧ bhdF b n s ≤ n ∧ (plcF b n s < n → plcF b n s < bhdF b n s) := by
  have hp := plcF_le (b := b) h
  unfold bhdF
  by_cases c : n ≤ plcF b n s
  · rw [if_pos c]; omega
  · rw [if_neg c]
    by_cases cl : letB (b (plcF b n s)) = true
    · rw [if_pos cl]
      have := endR_ge letB b n (n - plcF b n s - 1) (plcF b n s + 1)
      rw [show n - plcF b n s = (n - plcF b n s - 1) + 1 by omega, endR, if_pos ⟨by omega, cl⟩]
      omega
    · rw [if_neg cl]
      by_cases cd : digB (b (plcF b n s)) = true
      · rw [if_pos cd]
        have := endR_ge digB b n (n - plcF b n s - 1) (plcF b n s + 1)
        rw [show n - plcF b n s = (n - plcF b n s - 1) + 1 by omega, endR, if_pos ⟨by omega, cd⟩]
        omega
      · rw [if_neg cd]; omega
theorem wordT_c (b : Nat → Nat) (p q : Nat) : ∀ k e, wordT b p q k e = 13 ∨ (wordT b p q k e < e + k) := by
  intro k
  induction k with
  | zero => intro e; exact Or.inl rfl
  | succ k ih =>
    intro e
    unfold wordT
    by_cases c : isW b p q (wdN e)
    · rw [if_pos c]; omega
    · rw [if_neg c]
      have := ih (e + 1)
      omega
/-- what a token may be -/
theorem tokF_c (b : Nat → Nat) (n s : Nat) : (tokF b n s = 12 ∧ n ≤ plcF b n s) ∨ (plcF b n s < n ∧ (tokF b n s ≤ 10 ∨ tokF b n s = 13 ∨ (tokF b n s = 11 ∧ letB (b (plcF b n s)) = false ∧ digB (b (plcF b n s)) = true) ∨ (signB (tokF b n s) = true ∧ 40 ≤ tokF b n s ∧ tokF b n s ≤ 61))) := by
  unfold tokF
  by_cases c : n ≤ plcF b n s
  · rw [if_pos c]; exact Or.inl ⟨rfl, c⟩
  · rw [if_neg c]
    refine Or.inr ⟨by omega, ?_⟩
    by_cases cl : letB (b (plcF b n s)) = true
    · rw [if_pos cl]
      have := wordT_c b (plcF b n s) (bhdF b n s) 11 0
      omega
    · rw [if_neg cl]
      by_cases cd : digB (b (plcF b n s)) = true
      · rw [if_pos cd]
        by_cases c4 : 4 < bhdF b n s - plcF b n s
        · rw [if_pos c4]; omega
        · rw [if_neg c4]; exact Or.inr (Or.inr (Or.inl ⟨rfl, Bool.eq_false_iff.mpr cl, cd⟩))
      · rw [if_neg cd]
        by_cases cs : signB (b (plcF b n s)) = true
        · rw [if_pos cs]
          have := of_decide_eq_true cs
          exact Or.inr (Or.inr (Or.inr ⟨cs, by omega, by omega⟩))
        · rw [if_neg cs]; omega
theorem plc_nb {b : Nat → Nat} {n s : Nat} (hs : s ≤ n) (h : plcF b n s < n) : blankB (b (plcF b n s)) = false := endR_stop (n - s) s (by omega) h
theorem plc_bl {b : Nat → Nat} {n s j : Nat} (h1 : s ≤ j) (h2 : j < plcF b n s) : blankB (b j) = true := endR_all (n - s) s j h1 h2
theorem bhd_end {b : Nat → Nat} {n s : Nat} (h : plcF b n s < n) : bhdF b n s = endF b n (plcF b n s) := by
  unfold bhdF endF
  rw [if_neg (by omega)]
/-- the number that the class keeps of a token -/
noncomputable def tkV (b : Nat → Nat) (n s : Nat) : Nat := if tokF b n s = 11 then 1000 + nmbF b n s else tokF b n s
theorem tok_c {σ : gS} {b : Nat → Nat} {n s : Nat} {M : gM} (ht : tapeC M b n) (hs : s ≤ n) (hp : plcF b n s < n) : f_X7_tokenOf (iN (plcF b n s)) (iN (bhdF b n s)) σ M = some (iN (tkV b n s)) := by
  have h1 := ht.1
  obtain ⟨t1, t2⟩ := ht.2.2 (plcF b n s) hp
  have hb := bhdF_le (b := b) hs
  have gi : g_in (iN (plcF b n s)) 400 = true := by rw [iN_in (by omega)]; omega
  unfold f_X7_tokenOf b_X7_tokenOf_0
  rw [if_pos gi, iN_cl (by omega), t2, let_c t1, oB]
  by_cases cl : letB (b (plcF b n s)) = true
  · have e : tokF b n s = wordT b (plcF b n s) (bhdF b n s) 11 0 := by unfold tokF; rw [if_neg (by omega), if_pos cl]
    have ne : tkV b n s = wordT b (plcF b n s) (bhdF b n s) 11 0 := by
      unfold tkV
      rw [e]
      have := wordT_c b (plcF b n s) (bhdF b n s) 11 0
      rw [if_neg (by omega)]
    rw [if_neg (show ¬ bI (letB (b (plcF b n s))) = 0 by rw [cl]; decide), word_c ht hb.1 hb.2.1, oB, ne]
  · have cl' : letB (b (plcF b n s)) = false := Bool.eq_false_iff.mpr cl
    rw [if_pos (show bI (letB (b (plcF b n s))) = 0 by rw [cl']; rfl), if_pos gi, dig_c t1, oB]
    by_cases cd : digB (b (plcF b n s)) = true
    · have eb : bhdF b n s = endR digB b n (n - plcF b n s) (plcF b n s) := by unfold bhdF; rw [if_neg (by omega), if_neg cl, if_pos cd]
      have e : tokF b n s = if 4 < bhdF b n s - plcF b n s then 13 else 11 := by unfold tokF; rw [if_neg (by omega), if_neg cl, if_pos cd]
      have q := numb_c (σ := σ) ht hb.1 hb.2.1 (fun j hj => endR_all (n - plcF b n s) (plcF b n s) (plcF b n s + j) (by omega) (by rw [← eb]; omega))
      rw [if_neg (show ¬ bI (digB (b (plcF b n s))) = 0 by rw [cd]; decide), q, oB]
      unfold tkV
      rw [e]
      by_cases c4 : 4 < bhdF b n s - plcF b n s
      · rw [if_pos c4, if_pos c4, if_neg (by decide)]
      · have em : nmbF b n s = numF b (plcF b n s) (bhdF b n s - plcF b n s) := by
          unfold nmbF minN
          by_cases c5 : bhdF b n s - plcF b n s < 4
          · rw [if_pos c5]
          · rw [if_neg c5, show bhdF b n s - plcF b n s = 4 by omega]
        rw [if_neg c4, if_neg c4, if_pos rfl, em]
    · have cd' : digB (b (plcF b n s)) = false := Bool.eq_false_iff.mpr cd
      rw [if_pos (show bI (digB (b (plcF b n s))) = 0 by rw [cd']; rfl), if_pos gi, sign_c t1, oB]
      by_cases cs : signB (b (plcF b n s)) = true
      · have e : tokF b n s = b (plcF b n s) := by unfold tokF; rw [if_neg (by omega), if_neg cl, if_neg cd, if_pos cs]
        have ne : tkV b n s = b (plcF b n s) := by
          unfold tkV
          rw [e]
          have := of_decide_eq_true cs
          rw [if_neg (by omega)]
        rw [if_neg (show ¬ bI (signB (b (plcF b n s))) = 0 by rw [cs]; decide), if_pos gi, ne]
      · have e : tokF b n s = 13 := by unfold tokF; rw [if_neg (by omega), if_neg cl, if_neg cd, if_neg cs]
        have ne : tkV b n s = 13 := by unfold tkV; rw [e, if_neg (by decide)]
        rw [if_pos (show bI (signB (b (plcF b n s))) = 0 by rw [Bool.eq_false_iff.mpr cs]; rfl), ne]
        rfl
theorem keep_c {σ : gS} {M : gM} {k : Nat} (x y : Int32) (h : M 7 9 = iN k) (hk : k ≤ 400) : f_X7_keep x y σ M = some (g_up (g_up (g_up M 37 k x) 38 k y) 7 9 (iN (k + 1))) := by
  have gi : g_in (iN k) 401 = true := by rw [iN_in (by omega)]; omega
  unfold f_X7_keep b_X7_keep_0
  rw [h, if_neg (show ¬ (400 : Int32) < iN k by rw [show (400 : Int32) = iN 400 from rfl, iN_lt (by omega) (by omega)]; omega), if_pos gi, iN_cl (by omega), g_up_ne (b := 7) _ _ (by omega), h, if_pos gi, iN_cl (by omega), g_up_ne (b := 7) _ _ (by omega), g_up_ne (b := 7) _ _ (by omega), h, eS]
/-- the places from which the tokens are looked for -/
def sqF (b : Nat → Nat) (n : Nat) : Nat → Nat
  | 0 => 0
  | k + 1 => bhdF b n (sqF b n k)
def lowK (b : Nat → Nat) (n k : Nat) : Prop := ∀ i, i < k → plcF b n (sqF b n i) < n
def cellK (M : gM) (b : Nat → Nat) (n k : Nat) : Prop := ∀ i, i < k → M 37 i = iN (tkV b n (sqF b n i)) ∧ M 38 i = iN (plcF b n (sqF b n i))
theorem sqF_le (b : Nat → Nat) (n : Nat) : ∀ k, sqF b n k ≤ n := by
  intro k
  induction k with
  | zero => exact Nat.zero_le _
  | succ k ih => exact (bhdF_le (b := b) ih).2.1
theorem tkV_end {b : Nat → Nat} {n s : Nat} (h : n ≤ plcF b n s) : tkV b n s = 12 := by
  have e : tokF b n s = 12 := by unfold tokF; rw [if_pos h]
  unfold tkV
  rw [e, if_neg (by decide)]
theorem cell_up {M : gM} {b : Nat → Nat} {n k : Nat} {x y : Int32} (h : cellK M b n k) (hx : x = iN (tkV b n (sqF b n k))) (hy : y = iN (plcF b n (sqF b n k))) : cellK (g_up (g_up (g_up M 37 k x) 38 k y) 7 9 (iN (k + 1))) b n (k + 1) := fun i hi => by
  by_cases c : i = k
  · subst c
    exact ⟨by rw [g_up_ne _ _ (by omega), g_up_ne _ _ (by omega), g_up_eq _ _ ⟨rfl, rfl⟩, hx], by rw [g_up_ne _ _ (by omega), g_up_eq _ _ ⟨rfl, rfl⟩, hy]⟩
  · rw [g_up_ne _ _ (by omega), g_up_ne _ _ (by omega), g_up_ne _ _ (by omega), g_up_ne _ _ (by omega), g_up_ne _ _ (by omega), g_up_ne _ _ (by omega)]
    exact h i (by omega)
theorem l_split {σ : gS} {b : Nat → Nat} {n : Nat} : ∀ r p k f M, p + r = n → r < f → tapeC M b n → M 7 9 = iN k → k ≤ p → lowK b n k → p ≤ plcF b n (sqF b n k) → cellK M b n k → ∃ M' K, l_X7_splitTape_9 f (iN (sqF b n k)) (iN p) σ M = some M' ∧ K ≤ n ∧ lowK b n K ∧ n ≤ plcF b n (sqF b n K) ∧ M' 7 9 = iN (K + 1) ∧ cellK M' b n (K + 1) ∧ ∀ a j, ¬ (a = 7 ∧ j = 9) → a ≠ 37 → a ≠ 38 → M' a j = M a j := by
  intro r
  induction r with
  | zero =>
    intro p k f M hp hf ht h9 hk hl hq hc
    obtain ⟨f, rfl⟩ : ∃ m, f = m + 1 := ⟨f - 1, by omega⟩
    have h1 := ht.1
    have hs := sqF_le b n k
    have pl := plcF_le (b := b) hs
    have en : plcF b n (sqF b n k) = n := by omega
    refine ⟨g_up (g_up (g_up M 37 k 12) 38 k (iN n)) 7 9 (iN (k + 1)), k, ?_, by omega, hl, by omega, g_up_eq _ _ ⟨rfl, rfl⟩, cell_up hc (by rw [tkV_end (by omega)]; rfl) (by rw [en]), fun a j g1 g2 g3 => by rw [g_up_ne _ _ g1, g_up_ne _ _ (by omega), g_up_ne _ _ (by omega)]⟩
    rw [l_X7_splitTape_9, ht.2.1, if_neg (by rw [iN_lt (by omega) (by omega)]; omega), keep_c _ _ h9 (by omega), oB]
  | succ r ih =>
    intro p k f M hp hf ht h9 hk hl hq hc
    obtain ⟨f, rfl⟩ : ∃ m, f = m + 1 := ⟨f - 1, by omega⟩
    have h1 := ht.1
    have hs := sqF_le b n k
    have pl := plcF_le (b := b) hs
    obtain ⟨t1, t2⟩ := ht.2.2 p (by omega)
    have gi : g_in (iN p) 400 = true := by rw [iN_in (by omega)]; omega
    have go : p + 1 ≤ plcF b n (sqF b n k) → ∃ M' K, l_X7_splitTape_9 f (iN (sqF b n k)) (iN (p + 1)) σ M = some M' ∧ K ≤ n ∧ lowK b n K ∧ n ≤ plcF b n (sqF b n K) ∧ M' 7 9 = iN (K + 1) ∧ cellK M' b n (K + 1) ∧ ∀ a j, ¬ (a = 7 ∧ j = 9) → a ≠ 37 → a ≠ 38 → M' a j = M a j := fun h => ih (p + 1) k f M (by omega) (by omega) ht h9 (by omega) hl h hc
    rw [l_X7_splitTape_9, ht.2.1, if_pos (by rw [iN_lt (by omega) (by omega)]; omega)]
    unfold b_X7_splitTape_51
    rw [eS]
    by_cases c1 : p < sqF b n k
    · rw [if_pos (by rw [iN_lt (by omega) (by omega)]; exact c1)]
      exact go (by omega)
    · rw [if_neg (by rw [iN_lt (by omega) (by omega)]; exact c1), if_pos gi, iN_cl (by omega), t2, blank_c t1, oB]
      by_cases c2 : blankB (b p) = true
      · rw [if_neg (show ¬ bI (blankB (b p)) = 0 by rw [c2]; decide)]
        refine go ?_
        by_cases e : p = plcF b n (sqF b n k)
        · have := plc_nb (b := b) hs (by omega)
          rw [← e, c2] at this
          cases this
        · omega
      · have e : p = plcF b n (sqF b n k) := by
          by_cases e : p = plcF b n (sqF b n k)
          · exact e
          · exact absurd (plc_bl (b := b) (n := n) (s := sqF b n k) (j := p) (by omega) (by omega)) c2
        have hb := bhdF_le (b := b) hs
        have hb2 : plcF b n (sqF b n k) < bhdF b n (sqF b n k) := hb.2.2 (by omega)
        have pl2 := plcF_le (b := b) hb.2.1
        rw [if_pos (show bI (blankB (b p)) = 0 by rw [Bool.eq_false_iff.mpr c2]; rfl), endTok_c ht (by omega), oB]
        have ee : endF b n p = bhdF b n (sqF b n k) := by rw [bhd_end (by omega), ← e]
        have et : f_X7_tokenOf (iN p) (iN (bhdF b n (sqF b n k))) σ M = some (iN (tkV b n (sqF b n k))) := by
          have := tok_c (σ := σ) ht hs (by omega)
          rw [← e] at this
          exact this
        rw [ee, et, oB, keep_c _ _ h9 (by omega), oB]
        have fr : ∀ a j, ¬ (a = 7 ∧ j = 9) → a ≠ 37 → a ≠ 38 → g_up (g_up (g_up M 37 k (iN (tkV b n (sqF b n k)))) 38 k (iN p)) 7 9 (iN (k + 1)) a j = M a j := fun a j g1 g2 g3 => by rw [g_up_ne _ _ g1, g_up_ne _ _ (by omega), g_up_ne _ _ (by omega)]
        obtain ⟨M', K, q1, q2, q3, q4, q5, q6, q7⟩ := ih (p + 1) (k + 1) f (g_up (g_up (g_up M 37 k (iN (tkV b n (sqF b n k)))) 38 k (iN p)) 7 9 (iN (k + 1))) (by omega) (by omega) (ht.keep (fun a j h => fr a j (by omega) (by omega) (by omega))) (g_up_eq _ _ ⟨rfl, rfl⟩) (by omega) (fun i hi => by
          by_cases c : i = k
          · rw [c]; omega
          · exact hl i (by omega)) (by show p + 1 ≤ plcF b n (bhdF b n (sqF b n k)); omega) (cell_up hc rfl (by rw [← e]))
        exact ⟨M', K, q1, q2, q3, q4, q5, q6, fun a j g1 g2 g3 => by rw [q7 a j g1 g2 g3, fr a j g1 g2 g3]⟩
/-- the tokens as the class keeps them -/
def tabC (M : gM) (b : Nat → Nat) (n : Nat) : Prop := n ≤ 400 ∧ ∃ K, K ≤ n ∧ lowK b n K ∧ n ≤ plcF b n (sqF b n K) ∧ M 7 9 = iN (K + 1) ∧ cellK M b n (K + 1)
theorem tabC.keep {M M' : gM} {b : Nat → Nat} {n : Nat} (h : tabC M b n) (k : ∀ a j, (a = 7 ∧ j = 9) ∨ a = 37 ∨ a = 38 → M' a j = M a j) : tabC M' b n := by
  obtain ⟨h1, K, h2, h3, h4, h5, h6⟩ := h
  exact ⟨h1, K, h2, h3, h4, by rw [k _ _ (by omega)]; exact h5, fun i hi => by rw [k _ _ (by omega), k _ _ (by omega)]; exact h6 i hi⟩
theorem split_c {σ : gS} {b : Nat → Nat} {n : Nat} {M : gM} (ht : tapeC M b n) : ∃ M', f_X7_splitTape σ M = some M' ∧ tabC M' b n ∧ ∀ a j, ¬ (a = 7 ∧ j = 9) → a ≠ 37 → a ≠ 38 → M' a j = M a j := by
  have h1 := ht.1
  obtain ⟨M', K, q1, q2, q3, q4, q5, q6, q7⟩ := l_split (σ := σ) (b := b) n 0 0 g_FU (g_up M 7 9 (iN 0)) (by omega) (by unfold g_FU; omega) (ht.keep (fun a j h => g_up_ne _ _ (by omega))) (g_up_eq _ _ ⟨rfl, rfl⟩) (Nat.le_refl _) (fun i hi => by omega) (Nat.zero_le _) (fun i hi => by omega)
  refine ⟨M', ?_, ⟨h1, K, q2, q3, q4, q5, q6⟩, fun a j g1 g2 g3 => by rw [q7 a j g1 g2 g3, g_up_ne _ _ g1]⟩
  unfold f_X7_splitTape b_X7_splitTape_0
  exact q1
/-- the class's next token is behind the k-th -/
def nxC (b : Nat → Nat) (n : Nat) (x : Int32) (s : Nat) : Prop := ∃ k, x = iN (k + 1) ∧ lowK b n k ∧ (s = sqF b n k ∨ (s = n ∧ n ≤ plcF b n (sqF b n k)))
/-- the class at the token s, c codes written -/
def atC (b : Nat → Nat) (n : Nat) (M : gM) (s c : Nat) : Prop := tabC M b n ∧ (tokF b n s ≠ 11 → M 7 11 = iN (tokF b n s)) ∧ M 7 12 = iN (plcF b n s) ∧ nxC b n (M 7 10) s ∧ (tokF b n s = 11 → M 7 11 = iN (1000 + nmbF b n s)) ∧ M 7 8 = iN c
theorem tk_of {b : Nat → Nat} {n s : Nat} {x : Int32} (h : x = iN (tkV b n s)) : (tokF b n s ≠ 11 → x = iN (tokF b n s)) ∧ (tokF b n s = 11 → x = iN (1000 + nmbF b n s)) := by
  unfold tkV at h
  exact ⟨fun c => by rw [h, if_neg c], fun c => by rw [h, if_pos c]⟩
/-- the k-th token is taken -/
theorem take_k {σ : gS} {b : Nat → Nat} {n k : Nat} {M : gM} (ht : tabC M b n) (hl : lowK b n k) (hx : M 7 10 = iN k) : ∃ M', f_X7_advance σ M = some M' ∧ (∀ c, M 7 8 = iN c → atC b n M' (sqF b n k) c) ∧ ∀ a j, ¬ (a = 7 ∧ 10 ≤ j ∧ j ≤ 12) → M' a j = M a j := by
  have ht0 := ht
  obtain ⟨h1, K, h2, h3, h4, h5, h6⟩ := ht
  have hk : k ≤ K := by
    by_cases c : K < k
    · have := hl K c
      omega
    · omega
  obtain ⟨c1, c2⟩ := h6 k (by omega)
  have gi : g_in (iN k) 401 = true := by rw [iN_in (by omega)]; omega
  have fr : ∀ a j, ¬ (a = 7 ∧ 10 ≤ j ∧ j ≤ 12) → g_up (g_up (g_up M 7 11 (iN (tkV b n (sqF b n k)))) 7 12 (iN (plcF b n (sqF b n k)))) 7 10 (iN (k + 1)) a j = M a j := fun a j h => by rw [g_up_ne _ _ (by omega), g_up_ne _ _ (by omega), g_up_ne _ _ (by omega)]
  have tk := tk_of (b := b) (n := n) (s := sqF b n k) (x := g_up (g_up (g_up M 7 11 (iN (tkV b n (sqF b n k)))) 7 12 (iN (plcF b n (sqF b n k)))) 7 10 (iN (k + 1)) 7 11) (by rw [g_up_ne _ _ (by omega), g_up_ne _ _ (by omega), g_up_eq _ _ ⟨rfl, rfl⟩])
  refine ⟨g_up (g_up (g_up M 7 11 (iN (tkV b n (sqF b n k)))) 7 12 (iN (plcF b n (sqF b n k)))) 7 10 (iN (k + 1)), ?_, fun c hc => ⟨ht0.keep (fun a j h => fr a j (by omega)), tk.1, by rw [g_up_ne _ _ (by omega), g_up_eq _ _ ⟨rfl, rfl⟩], ⟨k, g_up_eq _ _ ⟨rfl, rfl⟩, hl, Or.inl rfl⟩, tk.2, by rw [fr _ _ (by omega)]; exact hc⟩, fr⟩
  unfold f_X7_advance b_X7_advance_0
  rw [hx, h5, if_pos (by rw [iN_lt (by omega) (by omega)]; omega), if_pos gi, iN_cl (by omega), c1, g_up_ne (a := 7) (k := 11) (b := 7) (j := 10) _ _ (by omega), hx, if_pos gi, iN_cl (by omega), g_up_ne (a := 7) (k := 11) (b := 38) _ _ (by omega), c2, g_up_ne (a := 7) (k := 12) (b := 7) (j := 10) _ _ (by omega), g_up_ne (a := 7) (k := 11) (b := 7) (j := 10) _ _ (by omega), hx, eS]
