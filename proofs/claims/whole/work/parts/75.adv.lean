/-! read: the class's advance. -/
def numF (b : Nat → Nat) (p : Nat) : Nat → Nat
  | 0 => 0
  | k + 1 => numF b p k * 10 + (b (p + k) - 48)
def bhdF (b : Nat → Nat) (n s : Nat) : Nat := if n ≤ plcF b n s then plcF b n s else if letB (b (plcF b n s)) = true then endR letB b n (n - plcF b n s) (plcF b n s) else if digB (b (plcF b n s)) = true then endR digB b n (n - plcF b n s) (plcF b n s) else plcF b n s + 1
noncomputable def tokF (b : Nat → Nat) (n s : Nat) : Nat := if n ≤ plcF b n s then 12 else if letB (b (plcF b n s)) = true then wordT b (plcF b n s) (bhdF b n s) 11 0 else if digB (b (plcF b n s)) = true then (if 4 < bhdF b n s - plcF b n s then 13 else 11) else if signB (b (plcF b n s)) = true then b (plcF b n s) else 13
def nmbF (b : Nat → Nat) (n s : Nat) : Nat := numF b (plcF b n s) (minN (bhdF b n s - plcF b n s) 4)
theorem l_word {σ : gS} {b : Nat → Nat} {n p : Nat} : ∀ k q f M, q + k = n → p ≤ q → k < f → tapeC M b n → M 7 8 = iN p → M 7 9 = iN q → l_X7_takeWord_0 f σ M = some (g_up (g_up M 7 9 (iN (endR letB b n k q))) 7 7 (iN (wordT b p (endR letB b n k q) 11 0))) := by
  intro k
  induction k with
  | zero =>
    intro q f M hp hpq hf ht h8 h9
    obtain ⟨f, rfl⟩ : ∃ m, f = m + 1 := ⟨f - 1, by omega⟩
    have h1 := ht.1
    rw [l_X7_takeWord_0, h9, ht.2.1, if_neg (by rw [iN_lt (by omega) (by omega)]; omega), word39 ht h8 h9 hpq (by omega), endR, ← h9, g_up_self]
  | succ k ih =>
    intro q f M hp hpq hf ht h8 h9
    obtain ⟨f, rfl⟩ : ∃ m, f = m + 1 := ⟨f - 1, by omega⟩
    have h1 := ht.1
    obtain ⟨t1, t2⟩ := ht.2.2 q (by omega)
    have gi : g_in (iN q) 400 = true := by rw [iN_in (by omega)]; omega
    rw [l_X7_takeWord_0, h9, ht.2.1, if_pos (by rw [iN_lt (by omega) (by omega)]; omega), if_pos gi, iN_cl (by omega), t2, let_c t1, oB, endR]
    by_cases c : letB (b q) = true
    · rw [if_neg (by rw [c]; decide), if_pos ⟨by omega, c⟩, eS, ih (q + 1) f (g_up M 7 9 (iN (q + 1))) (by omega) (by omega) (by omega) (ht.keep (fun a j h => g_up_ne _ _ (by omega))) (by rw [g_up_ne _ _ (by omega)]; exact h8) (g_up_eq _ _ ⟨rfl, rfl⟩)]
      congr 2
      funext a j
      by_cases q : a = 7 ∧ j = 9
      · rw [g_up_eq _ _ q, g_up_eq _ _ q]
      · rw [g_up_ne _ _ q, g_up_ne _ _ q, g_up_ne _ _ q]
    · rw [if_pos (by rw [Bool.eq_false_iff.mpr c]; rfl), if_neg (fun q => c q.2), word39 ht h8 h9 hpq (by omega), ← h9, g_up_self]
theorem numF_le {b : Nat → Nat} {p : Nat} : ∀ k, (∀ j, j < k → digB (b (p + j)) = true) → numF b p k + 1 ≤ 10 ^ k := by
  intro k
  induction k with
  | zero => intro _; exact Nat.le_refl _
  | succ k ih =>
    intro h
    have h1 := ih (fun j hj => h j (by omega))
    have h2 := of_decide_eq_true (h k (by omega))
    rw [numF, Nat.pow_succ]
    omega
