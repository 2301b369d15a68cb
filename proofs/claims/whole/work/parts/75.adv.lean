/-! read: the class's tokens. -/
def numF (b : Nat → Nat) (p : Nat) : Nat → Nat
  | 0 => 0
  | k + 1 => numF b p k * 10 + (b (p + k) - 48)
def bhdF (b : Nat → Nat) (n s : Nat) : Nat := if n ≤ plcF b n s then plcF b n s else if letB (b (plcF b n s)) = true then endR letB b n (n - plcF b n s) (plcF b n s) else if digB (b (plcF b n s)) = true then endR digB b n (n - plcF b n s) (plcF b n s) else plcF b n s + 1
noncomputable def tokF (b : Nat → Nat) (n s : Nat) : Nat := if n ≤ plcF b n s then 12 else if letB (b (plcF b n s)) = true then wordT b (plcF b n s) (bhdF b n s) 11 0 else if digB (b (plcF b n s)) = true then (if 4 < bhdF b n s - plcF b n s then 13 else 11) else if signB (b (plcF b n s)) = true then b (plcF b n s) else 13
def nmbF (b : Nat → Nat) (n s : Nat) : Nat := numF b (plcF b n s) (minN (bhdF b n s - plcF b n s) 4)
theorem numF_le {b : Nat → Nat} {p : Nat} : ∀ k, (∀ j, j < k → digB (b (p + j)) = true) → numF b p k + 1 ≤ 10 ^ k := by
  intro k
  induction k with
  | zero => intro _; exact Nat.le_refl _
  | succ k ih =>
    intro h
    have h1 := ih (fun j hj => h j (by omega))
    have h2 := of_decide_eq_true (h k (by omega))
    rw [numF, Nat.pow_succ]
    omega
theorem l_end {σ : gS} {b : Nat → Nat} {n : Nat} {M : gM} (w d : Bool) (ht : tapeC M b n) : ∀ k q f, q + k = n → k < f → l_X7_endOfToken_25 f (bI w) (bI d) (iN q) σ M = some (iN (endR (fun x => (w && letB x) || (d && digB x)) b n k q)) := by
  have h1 := ht.1
  have n1 : ¬ bI true = (0 : Int32) := by decide
  have n0 : bI false = (0 : Int32) := rfl
  intro k
  induction k with
  | zero =>
    intro q f hq hf
    obtain ⟨f, rfl⟩ : ∃ m, f = m + 1 := ⟨f - 1, by omega⟩
    rw [l_X7_endOfToken_25, ht.2.1, if_neg (by rw [iN_lt (by omega) (by omega)]; omega), endR]
  | succ k ih =>
    intro q f hq hf
    obtain ⟨f, rfl⟩ : ∃ m, f = m + 1 := ⟨f - 1, by omega⟩
    obtain ⟨t1, t2⟩ := ht.2.2 q (by omega)
    have gi : g_in (iN q) 400 = true := by rw [iN_in (by omega)]; omega
    have nx := ih (q + 1) f (by omega) (by omega)
    have eR : endR (fun x => (w && letB x) || (d && digB x)) b n (k + 1) q = if ((w && letB (b q)) || (d && digB (b q))) = true then endR (fun x => (w && letB x) || (d && digB x)) b n k (q + 1) else q := by
      rw [endR]
      by_cases c : ((w && letB (b q)) || (d && digB (b q))) = true
      · rw [if_pos ⟨by omega, c⟩, if_pos c]
      · rw [if_neg (fun z => c z.2), if_neg c]
    have h51 : b_X7_endOfToken_51 (fun x2 x3 x4 σ M => l_X7_endOfToken_25 f x2 x3 x4 σ M) (bI w) (bI d) (iN q) σ M = if (d && digB (b q)) = true then some (iN (endR (fun x => (w && letB x) || (d && digB x)) b n k (q + 1))) else some (iN q) := by
      unfold b_X7_endOfToken_51 b_X7_endOfToken_68
      by_cases cd : d = true
      · rw [cd] at nx ⊢
        rw [if_neg n1, if_pos gi, iN_cl (by omega), t2, dig_c t1, oB, Bool.true_and]
        by_cases c : digB (b q) = true
        · rw [if_neg (show ¬ bI (digB (b q)) = 0 by rw [c]; exact n1), eS, if_pos c]
          exact nx
        · rw [if_pos (show bI (digB (b q)) = 0 by rw [Bool.eq_false_iff.mpr c]; exact n0), if_neg c]
      · have cd' : d = false := Bool.eq_false_iff.mpr cd
        rw [cd', if_pos n0, Bool.false_and, if_neg (by decide)]
    rw [l_X7_endOfToken_25, ht.2.1, if_pos (by rw [iN_lt (by omega) (by omega)]; omega), h51, eR]
    by_cases cw : w = true
    · rw [cw] at nx ⊢
      rw [if_neg n1, if_pos gi, iN_cl (by omega), t2, let_c t1, oB]
      by_cases c : letB (b q) = true
      · rw [if_neg (show ¬ bI (letB (b q)) = 0 by rw [c]; exact n1)]
        unfold b_X7_endOfToken_68
        rw [eS, if_pos (by simp [c])]
        exact nx
      · rw [if_pos (show bI (letB (b q)) = 0 by rw [Bool.eq_false_iff.mpr c]; exact n0)]
        by_cases c2 : (d && digB (b q)) = true
        · rw [if_pos c2, if_pos (by rw [c2, Bool.or_true])]
        · rw [if_neg c2, if_neg (by rw [Bool.eq_false_iff.mpr c2, Bool.eq_false_iff.mpr c]; decide)]
    · have cw' : w = false := Bool.eq_false_iff.mpr cw
      rw [cw', if_pos n0, Bool.false_and, Bool.false_or]
      by_cases c2 : (d && digB (b q)) = true
      · rw [if_pos c2, if_pos c2]
      · rw [if_neg c2, if_neg c2]
theorem let_dig {x : Nat} (h : letB x = true) : digB x = false := by
  have := of_decide_eq_true h
  exact decide_eq_false (fun q => by omega)
def endF (b : Nat → Nat) (n p : Nat) : Nat := if letB (b p) = true then endR letB b n (n - p) p else if digB (b p) = true then endR digB b n (n - p) p else p + 1
theorem endTok_c {σ : gS} {b : Nat → Nat} {n p : Nat} {M : gM} (ht : tapeC M b n) (hp : p < n) : f_X7_endOfToken (iN p) σ M = some (iN (endF b n p)) := by
  have h1 := ht.1
  obtain ⟨t1, t2⟩ := ht.2.2 p hp
  have gi : g_in (iN p) 400 = true := by rw [iN_in (by omega)]; omega
  have st : f_X7_endOfToken (iN p) σ M = some (iN (endR (fun x => (letB (b p) && letB x) || (digB (b p) && digB x)) b n (n - (p + 1)) (p + 1))) := by
    unfold f_X7_endOfToken b_X7_endOfToken_0
    rw [if_pos gi, iN_cl (by omega), t2, let_c t1, oB, if_pos gi, dig_c t1, oB, eS]
    exact l_end _ _ ht (n - (p + 1)) (p + 1) g_FU (by omega) (by unfold g_FU; omega)
  rw [st]
  unfold endF
  have sp : n - p = n - (p + 1) + 1 := by omega
  by_cases c : letB (b p) = true
  · have eP : (fun x => (letB (b p) && letB x) || (digB (b p) && digB x)) = letB := by
      funext x
      rw [c, let_dig c, Bool.true_and, Bool.false_and, Bool.or_false]
    rw [if_pos c, eP, sp, endR, if_pos ⟨hp, c⟩]
  · have c' := Bool.eq_false_iff.mpr c
    rw [if_neg c]
    by_cases c2 : digB (b p) = true
    · have eP : (fun x => (letB (b p) && letB x) || (digB (b p) && digB x)) = digB := by
        funext x
        rw [c', c2, Bool.true_and, Bool.false_and, Bool.false_or]
      rw [if_pos c2, eP, sp, endR, if_pos ⟨hp, c2⟩]
    · have eP : (fun x => (letB (b p) && letB x) || (digB (b p) && digB x)) = fun _ => false := by
        funext x
        rw [c', Bool.eq_false_iff.mpr c2, Bool.false_and, Bool.false_and, Bool.false_or]
      rw [if_neg c2, eP]
      generalize n - (p + 1) = k
      cases k with
      | zero => rfl
      | succ k => rw [endR, if_neg (fun q => Bool.false_ne_true q.2)]
theorem l_numb {σ : gS} {b : Nat → Nat} {n p e : Nat} {M : gM} (ht : tapeC M b n) (he : e ≤ n) (h4 : e - p ≤ 4) (hd : ∀ j, j < e - p → digB (b (p + j)) = true) : ∀ k q f, q + k = e → k < f → p ≤ q → l_X7_numberOf_15 f (iN e) (iN (numF b p (q - p))) (iN q) σ M = some (iN (1000 + numF b p (e - p))) := by
  have h1 := ht.1
  intro k
  induction k with
  | zero =>
    intro q f hq hf hp
    obtain ⟨f, rfl⟩ : ∃ m, f = m + 1 := ⟨f - 1, by omega⟩
    rw [l_X7_numberOf_15, if_neg (by rw [iN_lt (by omega) (by omega)]; omega), show (1000 : Int32) = iN 1000 from rfl, iN_add, show q = e by omega]
  | succ k ih =>
    intro q f hq hf hp
    obtain ⟨f, rfl⟩ : ∃ m, f = m + 1 := ⟨f - 1, by omega⟩
    obtain ⟨t1, t2⟩ := ht.2.2 q (by omega)
    have gi : g_in (iN q) 400 = true := by rw [iN_in (by omega)]; omega
    have dq := hd (q - p) (by omega)
    rw [show p + (q - p) = q by omega] at dq
    have cd := of_decide_eq_true dq
    have nx := ih (q + 1) f (by omega) (by omega) (by omega)
    have en : numF b p (q + 1 - p) = numF b p (q - p) * 10 + b q - 48 := by
      rw [show q + 1 - p = q - p + 1 by omega, numF, show p + (q - p) = q by omega]
      omega
    rw [en] at nx
    rw [l_X7_numberOf_15, if_pos (by rw [iN_lt (by omega) (by omega)]; omega), if_pos gi, iN_cl (by omega), t2, show (10 : Int32) = iN 10 from rfl, iN_mul, iN_add, show (48 : Int32) = iN 48 from rfl, iN_sub (by omega), eS]
    exact nx
theorem numb_c {σ : gS} {b : Nat → Nat} {n p e : Nat} {M : gM} (ht : tapeC M b n) (hp : p ≤ e) (he : e ≤ n) (hd : ∀ j, j < e - p → digB (b (p + j)) = true) : f_X7_numberOf (iN p) (iN e) σ M = some (iN (if 4 < e - p then 13 else 1000 + numF b p (e - p))) := by
  have h1 := ht.1
  unfold f_X7_numberOf b_X7_numberOf_0
  rw [iN_sub hp]
  by_cases c : 4 < e - p
  · rw [if_pos (show (4 : Int32) < iN (e - p) by rw [show (4 : Int32) = iN 4 from rfl, iN_lt (by omega) (by omega)]; exact c), if_pos c]; rfl
  · rw [if_neg (show ¬ (4 : Int32) < iN (e - p) by rw [show (4 : Int32) = iN 4 from rfl, iN_lt (by omega) (by omega)]; exact c), if_neg c]
    have q := l_numb (σ := σ) ht he (by omega) hd (e - p) p g_FU (by omega) (by unfold g_FU; omega) (Nat.le_refl _)
    rw [Nat.sub_self] at q
    exact q
