/-! read: tokens of a text of bytes. -/
/-- the end of the run of P from p on, at most k long -/
def endR (P : Nat → Bool) (b : Nat → Nat) (n : Nat) : Nat → Nat → Nat
  | 0, p => p
  | k + 1, p => if p < n ∧ P (b p) = true then endR P b n k (p + 1) else p
def blankB (x : Nat) : Bool := decide (x = 32 ∨ x = 10)
def letB (x : Nat) : Bool := decide (97 ≤ x ∧ x ≤ 122)
def digB (x : Nat) : Bool := decide (48 ≤ x ∧ x ≤ 57)
def signB (x : Nat) : Bool := decide (x = 40 ∨ x = 41 ∨ x = 43 ∨ x = 45 ∨ x = 59 ∨ x = 60 ∨ x = 61)
theorem endR_ge (P : Nat → Bool) (b : Nat → Nat) (n : Nat) : ∀ k p, p ≤ endR P b n k p ∧ endR P b n k p ≤ p + k ∧ (p ≤ n → endR P b n k p ≤ n) := by
  intro k
  induction k with
  | zero => intro p; exact ⟨Nat.le_refl _, Nat.le_refl _, fun h => h⟩
  | succ k ih =>
    intro p
    unfold endR
    by_cases c : p < n ∧ P (b p) = true
    · rw [if_pos c]
      have := ih (p + 1)
      exact ⟨by omega, by omega, fun _ => this.2.2 (by omega)⟩
    · rw [if_neg c]
      exact ⟨Nat.le_refl _, by omega, fun h => h⟩
def plcF (b : Nat → Nat) (n s : Nat) : Nat := endR blankB b n (n - s) s
theorem blank_c {x : Nat} (hx : x < 256) : f_X7_isBlank (iN x) = some (bI (blankB x)) := by
  unfold f_X7_isBlank b_X7_isBlank_0 b_X7_isBlank_12 blankB
  rw [show (32 : Int32) = iN 32 from rfl, show (10 : Int32) = iN 10 from rfl]
  by_cases c : x = 32
  · rw [if_pos (by rw [c]), decide_eq_true (Or.inl c)]; rfl
  · rw [if_neg (by rw [iN_inj (by omega) (by omega)]; exact c)]
    by_cases c2 : x = 10
    · rw [if_pos (by rw [c2]), decide_eq_true (Or.inr c2)]; rfl
    · rw [if_neg (by rw [iN_inj (by omega) (by omega)]; exact c2), decide_eq_false (fun q => by omega)]; rfl
theorem let_c {x : Nat} (hx : x < 256) : f_X7_isLetter (iN x) = some (bI (letB x)) := by
  unfold f_X7_isLetter b_X7_isLetter_0 letB
  rw [show (97 : Int32) = iN 97 from rfl, show (122 : Int32) = iN 122 from rfl]
  by_cases c : x < 97
  · rw [if_pos (by rw [iN_lt (by omega) (by omega)]; exact c), decide_eq_false (fun q => by omega)]; rfl
  · rw [if_neg (by rw [iN_lt (by omega) (by omega)]; exact c)]
    by_cases c2 : 122 < x
    · rw [if_pos (by rw [iN_lt (by omega) (by omega)]; exact c2), decide_eq_false (fun q => by omega)]; rfl
    · rw [if_neg (by rw [iN_lt (by omega) (by omega)]; exact c2), decide_eq_true (by omega)]; rfl
theorem dig_c {x : Nat} (hx : x < 256) : f_X7_isDigit (iN x) = some (bI (digB x)) := by
  unfold f_X7_isDigit b_X7_isDigit_0 digB
  rw [show (48 : Int32) = iN 48 from rfl, show (57 : Int32) = iN 57 from rfl]
  by_cases c : x < 48
  · rw [if_pos (by rw [iN_lt (by omega) (by omega)]; exact c), decide_eq_false (fun q => by omega)]; rfl
  · rw [if_neg (by rw [iN_lt (by omega) (by omega)]; exact c)]
    by_cases c2 : 57 < x
    · rw [if_pos (by rw [iN_lt (by omega) (by omega)]; exact c2), decide_eq_false (fun q => by omega)]; rfl
    · rw [if_neg (by rw [iN_lt (by omega) (by omega)]; exact c2), decide_eq_true (by omega)]; rfl
/-- the tape in the class -/
def tapeC (M : gM) (b : Nat → Nat) (n : Nat) : Prop := n ≤ 400 ∧ M 7 4 = iN n ∧ ∀ k, k < n → b k < 256 ∧ M 11 k = iN (b k)
theorem tapeC.keep {M M' : gM} {b : Nat → Nat} {n : Nat} (h : tapeC M b n) (k : ∀ a j, (a = 7 ∧ j = 4) ∨ a = 11 → M' a j = M a j) : tapeC M' b n := by
  obtain ⟨h1, h2, h3⟩ := h
  exact ⟨h1, by rw [k _ _ (by omega)]; exact h2, fun j hj => by rw [k _ _ (by omega)]; exact h3 j hj⟩
theorem l_adv8 {σ : gS} {b : Nat → Nat} {n : Nat} : ∀ k p f M, p + k = n → k < f → tapeC M b n → M 7 8 = iN p → l_X7_advance_8 f σ M = b_X7_advance_47 σ (g_up M 7 8 (iN (endR blankB b n k p))) := by
  intro k
  induction k with
  | zero =>
    intro p f M hp hf ht h8
    obtain ⟨f, rfl⟩ : ∃ m, f = m + 1 := ⟨f - 1, by omega⟩
    have h1 := ht.1
    rw [l_X7_advance_8, h8, ht.2.1, if_neg (by rw [iN_lt (by omega) (by omega)]; omega), endR, ← h8, g_up_self]
  | succ k ih =>
    intro p f M hp hf ht h8
    obtain ⟨f, rfl⟩ : ∃ m, f = m + 1 := ⟨f - 1, by omega⟩
    have h1 := ht.1
    obtain ⟨t1, t2⟩ := ht.2.2 p (by omega)
    have gi : g_in (iN p) 400 = true := by rw [iN_in (by omega)]; omega
    rw [l_X7_advance_8, h8, ht.2.1, if_pos (by rw [iN_lt (by omega) (by omega)]; omega), if_pos gi, iN_cl (by omega), t2, blank_c t1, oB, endR]
    by_cases c : blankB (b p) = true
    · rw [if_neg (by rw [c]; decide), if_pos ⟨by omega, c⟩, eS, ih (p + 1) f (g_up M 7 8 (iN (p + 1))) (by omega) (by omega) (ht.keep (fun a j h => g_up_ne _ _ (by omega))) (g_up_eq _ _ ⟨rfl, rfl⟩)]
      congr 1
      funext a j
      by_cases q : a = 7 ∧ j = 8
      · rw [g_up_eq _ _ q, g_up_eq _ _ q]
      · rw [g_up_ne _ _ q, g_up_ne _ _ q, g_up_ne _ _ q]
    · rw [if_pos (by rw [Bool.eq_false_iff.mpr c]; rfl), if_neg (fun q => c q.2), ← h8, g_up_self]
