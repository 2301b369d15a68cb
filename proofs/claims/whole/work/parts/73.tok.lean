/-! read: tokens of a text of bytes. -/
/-- the end of the run of P from p on, at most k long -/
def endR (P : Nat → Bool) (b : Nat → Nat) (n : Nat) : Nat → Nat → Nat
  | 0, p => p
  | k + 1, p => if p < n ∧ P (b p) = true then endR P b n k (p + 1) else p
def blankB (x : Nat) : Bool := decide (x = 32 ∨ x = 10)
def letB (x : Nat) : Bool := decide (97 ≤ x ∧ x ≤ 122)
def digB (x : Nat) : Bool := decide (48 ≤ x ∧ x ≤ 57)
def signB (x : Nat) : Bool := decide (x = 40 ∨ x = 41 ∨ x = 43 ∨ x = 45 ∨ x = 59 ∨ x = 60 ∨ x = 61)
theorem endR_ge (P : Nat → Bool) (b : Nat → Nat) (n : Nat) : ∀ k p, p ≤ endR P b n k p ∧ endR P b n k p ≤ p + k ∧ (p ≤ n → endR P b n k p ≤ n) := by
  intro k
  induction k with
  | zero => intro p; exact ⟨Nat.le_refl _, Nat.le_refl _, fun h => h⟩
  | succ k ih =>
    intro p
    unfold endR
    by_cases c : p < n ∧ P (b p) = true
    · rw [if_pos c]
      have := ih (p + 1)
      exact ⟨by omega, by omega, fun _ => this.2.2 (by omega)⟩
    · rw [if_neg c]
      exact ⟨Nat.le_refl _, by omega, fun h => h⟩
def plcF (b : Nat → Nat) (n s : Nat) : Nat := endR blankB b n (n - s) s
theorem blank_c {x : Nat} (hx : x < 256) : f_X7_isBlank (iN x) = some (bI (blankB x)) := by
  unfold f_X7_isBlank b_X7_isBlank_0 b_X7_isBlank_12 blankB
  rw [show (32 : Int32) = iN 32 from rfl, show (10 : Int32) = iN 10 from rfl]
  by_cases c : x = 32
  · rw [if_pos (by rw [c]), decide_eq_true (Or.inl c)]; rfl
  · rw [if_neg (by rw [iN_inj (by omega) (by omega)]; exact c)]
    by_cases c2 : x = 10
    · rw [if_pos (by rw [c2]), decide_eq_true (Or.inr c2)]; rfl
    · rw [if_neg (by rw [iN_inj (by omega) (by omega)]; exact c2), decide_eq_false (fun q => by omega)]; rfl
theorem let_c {x : Nat} (hx : x < 256) : f_X7_isLetter (iN x) = some (bI (letB x)) := by
  unfold f_X7_isLetter b_X7_isLetter_0 letB
  rw [show (97 : Int32) = iN 97 from rfl, show (122 : Int32) = iN 122 from rfl]
  by_cases c : x < 97
  · rw [if_pos (by rw [iN_lt (by omega) (by omega)]; exact c), decide_eq_false (fun q => by omega)]; rfl
  · rw [if_neg (by rw [iN_lt (by omega) (by omega)]; exact c)]
    by_cases c2 : 122 < x
    · rw [if_pos (by rw [iN_lt (by omega) (by omega)]; exact c2), decide_eq_false (fun q => by omega)]; rfl
    · rw [if_neg (by rw [iN_lt (by omega) (by omega)]; exact c2), decide_eq_true (by omega)]; rfl
theorem dig_c {x : Nat} (hx : x < 256) : f_X7_isDigit (iN x) = some (bI (digB x)) := by
  unfold f_X7_isDigit b_X7_isDigit_0 digB
  rw [show (48 : Int32) = iN 48 from rfl, show (57 : Int32) = iN 57 from rfl]
  by_cases c : x < 48
  · rw [if_pos (by rw [iN_lt (by omega) (by omega)]; exact c), decide_eq_false (fun q => by omega)]; rfl
  · rw [if_neg (by rw [iN_lt (by omega) (by omega)]; exact c)]
    by_cases c2 : 57 < x
    · rw [if_pos (by rw [iN_lt (by omega) (by omega)]; exact c2), decide_eq_false (fun q => by omega)]; rfl
    · rw [if_neg (by rw [iN_lt (by omega) (by omega)]; exact c2), decide_eq_true (by omega)]; rfl
/-- the tape in the class -/
def tapeC (M : gM) (b : Nat → Nat) (n : Nat) : Prop := n ≤ 400 ∧ M 7 6 = iN n ∧ ∀ k, k < n → b k < 256 ∧ M 11 k = iN (b k)
theorem tapeC.keep {M M' : gM} {b : Nat → Nat} {n : Nat} (h : tapeC M b n) (k : ∀ a j, (a = 7 ∧ j = 6) ∨ a = 11 → M' a j = M a j) : tapeC M' b n := by
  obtain ⟨h1, h2, h3⟩ := h
  exact ⟨h1, by rw [k _ _ (by omega)]; exact h2, fun j hj => by rw [k _ _ (by omega)]; exact h3 j hj⟩
theorem endR_all {P : Nat → Bool} {b : Nat → Nat} {n : Nat} : ∀ k p j, p ≤ j → j < endR P b n k p → P (b j) = true := by
  intro k
  induction k with
  | zero => intro p j h1 h2; rw [endR] at h2; omega
  | succ k ih =>
    intro p j h1 h2
    rw [endR] at h2
    by_cases c : p < n ∧ P (b p) = true
    · rw [if_pos c] at h2
      by_cases e : j = p
      · rw [e]; exact c.2
      · exact ih (p + 1) j (by omega) h2
    · rw [if_neg c] at h2; omega
theorem endR_stop {P : Nat → Bool} {b : Nat → Nat} {n : Nat} : ∀ k p, p + k = n → endR P b n k p < n → P (b (endR P b n k p)) = false := by
  intro k
  induction k with
  | zero => intro p hp h; rw [endR] at h; omega
  | succ k ih =>
    intro p hp h
    by_cases c : p < n ∧ P (b p) = true
    · rw [endR, if_pos c] at h ⊢
      exact ih (p + 1) (by omega) h
    · rw [endR, if_neg c] at h ⊢
      exact Bool.eq_false_iff.mpr (fun q => c ⟨h, q⟩)
