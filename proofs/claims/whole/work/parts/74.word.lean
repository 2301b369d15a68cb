/-! read: the class's words. -/
def wdL : List (List Nat) := [[102, 101, 101], [98, 97, 99, 107], [114, 101, 102, 117, 110, 100], [102, 114, 101, 101], [119, 104, 101, 110], [97, 110, 100], [108, 101, 102, 116], [104, 101, 108, 100], [117, 115, 101, 100], [112, 101, 111, 112, 108, 101], [115, 101, 97, 115, 111, 110]]
def wdN (e : Nat) : List Nat := wdL.getD e []
theorem spell_len : ∀ e, e < 11 → f_S_length e = some (iN (wdN e).length) ∧ (wdN e).length ≤ 6 := by decide +kernel
theorem spell_chr : ∀ e, e < 11 → ∀ k, k < (wdN e).length → f_S_charAt e (iN k) = some (iN ((wdN e).getD k 0)) ∧ (wdN e).getD k 0 < 256 := by decide +kernel
theorem k13 : ∀ e, e < 11 → g_k13 e = true := by decide
def isW (b : Nat → Nat) (p q : Nat) (w : List Nat) : Prop := w.length = q - p ∧ ∀ j, j < w.length → b (p + j) = w.getD j 0
theorem l_spells {σ : gS} {M : gM} {b : Nat → Nat} {n p q e : Nat} (he : e < 11) (ht : tapeC M b n) (hq : p + (wdN e).length ≤ n) : ∀ k i f, i + k = (wdN e).length → k < f → (∀ j, j < i → b (p + j) = (wdN e).getD j 0) → (l_X7_spells_15 f e (iN p) (iN i) σ M = some 1 ∧ ∀ j, j < (wdN e).length → b (p + j) = (wdN e).getD j 0) ∨ (l_X7_spells_15 f e (iN p) (iN i) σ M = some 0 ∧ ¬ ∀ j, j < (wdN e).length → b (p + j) = (wdN e).getD j 0) := by
  obtain ⟨s1, s2⟩ := spell_len e he
  have h1 := ht.1
  intro k
  induction k with
  | zero =>
    intro i f hi hf hp
    obtain ⟨f, rfl⟩ : ∃ m, f = m + 1 := ⟨f - 1, by omega⟩
    refine Or.inl ⟨?_, fun j hj => hp j (by omega)⟩
    rw [l_X7_spells_15, if_pos (k13 e he), s1, oB, if_neg (by rw [iN_lt (by omega) (by omega)]; omega)]
  | succ k ih =>
    intro i f hi hf hp
    obtain ⟨f, rfl⟩ : ∃ m, f = m + 1 := ⟨f - 1, by omega⟩
    obtain ⟨c1, c2⟩ := spell_chr e he i (by omega)
    obtain ⟨t1, t2⟩ := ht.2.2 (p + i) (by omega)
    have gi : g_in (iN (p + i)) 400 = true := by rw [iN_in (by omega)]; omega
    rw [l_X7_spells_15, if_pos (k13 e he), s1, oB, if_pos (by rw [iN_lt (by omega) (by omega)]; omega), c1, oB, iN_add, if_pos gi, iN_cl (by omega), t2, eS]
    by_cases c : (wdN e).getD i 0 = b (p + i)
    · rw [if_pos (by rw [c])]
      exact ih (i + 1) f (by omega) (by omega) (fun j hj => by
        by_cases cj : j = i
        · subst cj; exact c.symm
        · exact hp j (by omega))
    · rw [if_neg (by rw [iN_inj (by omega) (by omega)]; exact c)]
      exact Or.inr ⟨rfl, fun q => c (q i (by omega)).symm⟩
theorem spells_c {σ : gS} {M : gM} {b : Nat → Nat} {n p q e : Nat} (he : e < 11) (ht : tapeC M b n) (hpq : p ≤ q) (hqn : q ≤ n) : (f_X7_spells e (iN p) (iN q) σ M = some 1 ∧ isW b p q (wdN e)) ∨ (f_X7_spells e (iN p) (iN q) σ M = some 0 ∧ ¬ isW b p q (wdN e)) := by
  obtain ⟨s1, s2⟩ := spell_len e he
  have h1 := ht.1
  unfold f_X7_spells b_X7_spells_0
  rw [if_pos (k13 e he), s1, oB, iN_sub hpq]
  by_cases c : (wdN e).length = q - p
  · rw [if_pos (by rw [c])]
    rcases l_spells (σ := σ) (p := p) (q := q) he ht (by omega) (wdN e).length 0 g_FU (by omega) (by unfold g_FU; omega) (fun j hj => by omega) with ⟨h, h2⟩ | ⟨h, h2⟩
    · exact Or.inl ⟨h, c, h2⟩
    · exact Or.inr ⟨h, fun q => h2 q.2⟩
  · rw [if_neg (by rw [iN_inj (by omega) (by omega)]; exact c)]
    exact Or.inr ⟨rfl, fun q => c q.1⟩
/-- the number of a word: the first that it is, 13 if none -/
noncomputable def wordT (b : Nat → Nat) (p q : Nat) : Nat → Nat → Nat
  | 0, _ => 13
  | k + 1, e => by
    classical
    exact if isW b p q (wdN e) then e else wordT b p q k (e + 1)
theorem word_c {σ : gS} {M : gM} {b : Nat → Nat} {n p q : Nat} (ht : tapeC M b n) (hpq : p ≤ q) (hqn : q ≤ n) : f_X7_wordOf (iN p) (iN q) σ M = some (iN (wordT b p q 11 0)) := by
  have S := fun e (he : e < 11) => spells_c (σ := σ) (e := e) he ht hpq hqn
  have n1 : ¬ (1 : Int32) = 0 := by decide
  unfold f_X7_wordOf b_X7_wordOf_0
  rw [wordT]
  rcases S 0 (by omega) with ⟨e, h⟩ | ⟨e, h⟩
  · rw [e, oB, if_neg n1, if_pos h]; rfl
  rw [e, oB, if_pos rfl, if_neg h, wordT]
  rcases S 1 (by omega) with ⟨e, h⟩ | ⟨e, h⟩
  · rw [e, oB, if_neg n1, if_pos h]; rfl
  rw [e, oB, if_pos rfl, if_neg h, wordT]
  rcases S 2 (by omega) with ⟨e, h⟩ | ⟨e, h⟩
  · rw [e, oB, if_neg n1, if_pos h]; rfl
  rw [e, oB, if_pos rfl, if_neg h, wordT]
  rcases S 3 (by omega) with ⟨e, h⟩ | ⟨e, h⟩
  · rw [e, oB, if_neg n1, if_pos h]; rfl
  rw [e, oB, if_pos rfl, if_neg h, wordT]
  rcases S 4 (by omega) with ⟨e, h⟩ | ⟨e, h⟩
  · rw [e, oB, if_neg n1, if_pos h]; rfl
  rw [e, oB, if_pos rfl, if_neg h, wordT]
  rcases S 5 (by omega) with ⟨e, h⟩ | ⟨e, h⟩
  · rw [e, oB, if_neg n1, if_pos h]; rfl
  rw [e, oB, if_pos rfl, if_neg h, wordT]
  rcases S 6 (by omega) with ⟨e, h⟩ | ⟨e, h⟩
  · rw [e, oB, if_neg n1, if_pos h]; rfl
  rw [e, oB, if_pos rfl, if_neg h, wordT]
  rcases S 7 (by omega) with ⟨e, h⟩ | ⟨e, h⟩
  · rw [e, oB, if_neg n1, if_pos h]; rfl
  rw [e, oB, if_pos rfl, if_neg h, wordT]
  rcases S 8 (by omega) with ⟨e, h⟩ | ⟨e, h⟩
  · rw [e, oB, if_neg n1, if_pos h]; rfl
  rw [e, oB, if_pos rfl, if_neg h, wordT]
  rcases S 9 (by omega) with ⟨e, h⟩ | ⟨e, h⟩
  · rw [e, oB, if_neg n1, if_pos h]; rfl
  rw [e, oB, if_pos rfl, if_neg h, wordT]
  rcases S 10 (by omega) with ⟨e, h⟩ | ⟨e, h⟩
  · rw [e, oB, if_neg n1, if_pos h]; rfl
  rw [e, oB, if_pos rfl, if_neg h, wordT]
  rfl
