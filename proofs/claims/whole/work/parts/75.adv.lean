/-! read: the class's advance. -/
def numF (b : Nat → Nat) (p : Nat) : Nat → Nat
  | 0 => 0
  | k + 1 => numF b p k * 10 + (b (p + k) - 48)
def bhdF (b : Nat → Nat) (n s : Nat) : Nat := if n ≤ plcF b n s then plcF b n s else if letB (b (plcF b n s)) = true then endR letB b n (n - plcF b n s) (plcF b n s) else if digB (b (plcF b n s)) = true then endR digB b n (n - plcF b n s) (plcF b n s) else plcF b n s + 1
noncomputable def tokF (b : Nat → Nat) (n s : Nat) : Nat := if n ≤ plcF b n s then 12 else if letB (b (plcF b n s)) = true then wordT b (plcF b n s) (bhdF b n s) 11 0 else if digB (b (plcF b n s)) = true then (if 4 < bhdF b n s - plcF b n s then 13 else 11) else if signB (b (plcF b n s)) = true then b (plcF b n s) else 13
def nmbF (b : Nat → Nat) (n s : Nat) : Nat := numF b (plcF b n s) (minN (bhdF b n s - plcF b n s) 4)
theorem l_word {σ : gS} {b : Nat → Nat} {n p : Nat} : ∀ k q f M, q + k = n → p ≤ q → k < f → tapeC M b n → M 7 8 = iN p → M 7 9 = iN q → l_X7_takeWord_0 f σ M = some (g_up (g_up M 7 9 (iN (endR letB b n k q))) 7 7 (iN (wordT b p (endR letB b n k q) 11 0))) := by
  intro k
  induction k with
  | zero =>
    intro q f M hp hpq hf ht h8 h9
    obtain ⟨f, rfl⟩ : ∃ m, f = m + 1 := ⟨f - 1, by omega⟩
    have h1 := ht.1
    rw [l_X7_takeWord_0, h9, ht.2.1, if_neg (by rw [iN_lt (by omega) (by omega)]; omega), word39 ht h8 h9 hpq (by omega), endR, ← h9, g_up_self]
  | succ k ih =>
    intro q f M hp hpq hf ht h8 h9
    obtain ⟨f, rfl⟩ : ∃ m, f = m + 1 := ⟨f - 1, by omega⟩
    have h1 := ht.1
    obtain ⟨t1, t2⟩ := ht.2.2 q (by omega)
    have gi : g_in (iN q) 400 = true := by rw [iN_in (by omega)]; omega
    rw [l_X7_takeWord_0, h9, ht.2.1, if_pos (by rw [iN_lt (by omega) (by omega)]; omega), if_pos gi, iN_cl (by omega), t2, let_c t1, oB, endR]
    by_cases c : letB (b q) = true
    · rw [if_neg (by rw [c]; decide), if_pos ⟨by omega, c⟩, eS, ih (q + 1) f (g_up M 7 9 (iN (q + 1))) (by omega) (by omega) (by omega) (ht.keep (fun a j h => g_up_ne _ _ (by omega))) (by rw [g_up_ne _ _ (by omega)]; exact h8) (g_up_eq _ _ ⟨rfl, rfl⟩)]
      congr 2
      funext a j
      by_cases q : a = 7 ∧ j = 9
      · rw [g_up_eq _ _ q, g_up_eq _ _ q]
      · rw [g_up_ne _ _ q, g_up_ne _ _ q, g_up_ne _ _ q]
    · rw [if_pos (by rw [Bool.eq_false_iff.mpr c]; rfl), if_neg (fun q => c q.2), word39 ht h8 h9 hpq (by omega), ← h9, g_up_self]
theorem numF_le {b : Nat → Nat} {p : Nat} : ∀ k, (∀ j, j < k → digB (b (p + j)) = true) → numF b p k + 1 ≤ 10 ^ k := by
  intro k
  induction k with
  | zero => intro _; exact Nat.le_refl _
  | succ k ih =>
    intro h
    have h1 := ih (fun j hj => h j (by omega))
    have h2 := of_decide_eq_true (h k (by omega))
    rw [numF, Nat.pow_succ]
    omega
theorem l_num {σ : gS} {b : Nat → Nat} {n p : Nat} : ∀ k q f M, q + k = n → p ≤ q → k < f → tapeC M b n → M 7 8 = iN p → M 7 9 = iN q → (∀ j, j < q - p → digB (b (p + j)) = true) → M 7 10 = iN (numF b p (minN (q - p) 4)) → ∃ M', l_X7_takeNumber_5 f σ M = some M' ∧ M' 7 7 = iN (if 4 < endR digB b n k q - p then 13 else 11) ∧ M' 7 9 = iN (endR digB b n k q) ∧ M' 7 10 = iN (numF b p (minN (endR digB b n k q - p) 4)) ∧ ∀ a j, ¬ (a = 7 ∧ (j = 7 ∨ j = 9 ∨ j = 10)) → M' a j = M a j := by
  have stop : ∀ q M, p ≤ q → q ≤ 400 → M 7 8 = iN p → M 7 9 = iN q → M 7 10 = iN (numF b p (minN (q - p) 4)) → ∃ M', b_X7_takeNumber_81 σ M = some M' ∧ M' 7 7 = iN (if 4 < q - p then 13 else 11) ∧ M' 7 9 = iN q ∧ M' 7 10 = iN (numF b p (minN (q - p) 4)) ∧ ∀ a j, ¬ (a = 7 ∧ (j = 7 ∨ j = 9 ∨ j = 10)) → M' a j = M a j := fun q M h1 h2 h8 h9 h10 => by
    refine ⟨g_up M 7 7 (iN (if 4 < q - p then 13 else 11)), ?_, g_up_eq _ _ ⟨rfl, rfl⟩, by rw [g_up_ne _ _ (by omega)]; exact h9, by rw [g_up_ne _ _ (by omega)]; exact h10, fun a j h => g_up_ne _ _ (by omega)⟩
    unfold b_X7_takeNumber_81 b_X7_takeNumber_102
    rw [h8, h9, iN_sub h1]
    by_cases c : 4 < q - p
    · rw [if_pos (show (4 : Int32) < iN (q - p) by rw [show (4 : Int32) = iN 4 from rfl, iN_lt (by omega) (by omega)]; exact c), if_pos c]; rfl
    · rw [if_neg (show ¬ (4 : Int32) < iN (q - p) by rw [show (4 : Int32) = iN 4 from rfl, iN_lt (by omega) (by omega)]; exact c), if_neg c]; rfl
  intro k
  induction k with
  | zero =>
    intro q f M hp hpq hf ht h8 h9 hd h10
    obtain ⟨f, rfl⟩ : ∃ m, f = m + 1 := ⟨f - 1, by omega⟩
    have h1 := ht.1
    rw [l_X7_takeNumber_5, h9, ht.2.1, if_neg (by rw [iN_lt (by omega) (by omega)]; omega), endR]
    exact stop q M hpq (by omega) h8 h9 h10
  | succ k ih =>
    intro q f M hp hpq hf ht h8 h9 hd h10
    obtain ⟨f, rfl⟩ : ∃ m, f = m + 1 := ⟨f - 1, by omega⟩
    have h1 := ht.1
    obtain ⟨t1, t2⟩ := ht.2.2 q (by omega)
    have gi : g_in (iN q) 400 = true := by rw [iN_in (by omega)]; omega
    rw [l_X7_takeNumber_5, h9, ht.2.1, if_pos (by rw [iN_lt (by omega) (by omega)]; omega), if_pos gi, iN_cl (by omega), t2, dig_c t1, oB]
    by_cases c : digB (b q) = true
    · have eE : endR digB b n (k + 1) q = endR digB b n k (q + 1) := by rw [endR, if_pos ⟨by omega, c⟩]
      rw [if_neg (show ¬ bI (digB (b q)) = 0 by rw [c]; decide), eE, h8, iN_sub hpq]
      have hd' : ∀ j, j < q + 1 - p → digB (b (p + j)) = true := fun j hj => by
        by_cases cj : j = q - p
        · rw [cj, show p + (q - p) = q by omega]; exact c
        · exact hd j (by omega)
      unfold b_X7_takeNumber_68
      by_cases c4 : q - p < 4
      · have e4 : minN (q - p) 4 = q - p := by unfold minN; rw [if_pos c4]
        have hn := numF_le (q - p) hd
        have hpw : 10 ^ (q - p) ≤ 10 ^ 3 := Nat.pow_le_pow_right (by omega) (by omega)
        have cd := of_decide_eq_true c
        rw [e4] at h10
        have e5 : minN (q + 1 - p) 4 = q - p + 1 := by unfold minN; split <;> omega
        rw [if_pos (show iN (q - p) < (4 : Int32) by rw [show (4 : Int32) = iN 4 from rfl, iN_lt (by omega) (by omega)]; exact c4), if_pos gi, h10, show (10 : Int32) = iN 10 from rfl, iN_mul, iN_add, show (48 : Int32) = iN 48 from rfl, iN_sub (by omega), g_up_ne (j := 9) _ _ (by omega), h9, eS]
        obtain ⟨M', q1, q2, q3, q4, q5⟩ := ih (q + 1) f (g_up (g_up M 7 10 (iN (numF b p (q - p) * 10 + b q - 48))) 7 9 (iN (q + 1))) (by omega) (by omega) (by omega) (ht.keep (fun a j h => by rw [g_up_ne _ _ (by omega), g_up_ne _ _ (by omega)])) (by rw [g_up_ne _ _ (by omega), g_up_ne _ _ (by omega)]; exact h8) (g_up_eq _ _ ⟨rfl, rfl⟩) hd' (by rw [g_up_ne _ _ (by omega), g_up_eq _ _ ⟨rfl, rfl⟩, e5, numF, show p + (q - p) = q by omega]; congr 1; omega)
        exact ⟨M', q1, q2, q3, q4, fun a j h => by rw [q5 a j h, g_up_ne _ _ (by omega), g_up_ne _ _ (by omega)]⟩
      · have e4 : minN (q - p) 4 = 4 := by unfold minN; rw [if_neg c4]
        have e5 : minN (q + 1 - p) 4 = 4 := by unfold minN; split <;> omega
        rw [if_neg (show ¬ iN (q - p) < (4 : Int32) by rw [show (4 : Int32) = iN 4 from rfl, iN_lt (by omega) (by omega)]; exact c4), h9, eS]
        obtain ⟨M', q1, q2, q3, q4, q5⟩ := ih (q + 1) f (g_up M 7 9 (iN (q + 1))) (by omega) (by omega) (by omega) (ht.keep (fun a j h => g_up_ne _ _ (by omega))) (by rw [g_up_ne _ _ (by omega)]; exact h8) (g_up_eq _ _ ⟨rfl, rfl⟩) hd' (by rw [g_up_ne _ _ (by omega), h10, e4, e5])
        refine ⟨M', ?_, q2, q3, q4, fun a j h => by rw [q5 a j h, g_up_ne _ _ (by omega)]⟩
        exact q1
    · have eE : endR digB b n (k + 1) q = q := by rw [endR, if_neg (fun q => c q.2)]
      rw [if_pos (show bI (digB (b q)) = 0 by rw [Bool.eq_false_iff.mpr c]; rfl), eE]
      exact stop q M hpq (by omega) h8 h9 h10
