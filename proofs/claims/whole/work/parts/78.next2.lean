/-! read: the model's next token, whole. -/
theorem l_next96 {σ : gS} {b : Nat → Nat} {n p : Nat} : ∀ k q f A N, q + k = n → p ≤ q → k < f → textM A b n → A 40 48 = iN p → A 40 47 = iN q → (∀ j, j < q - p → letB (b (p + j)) = true) → N 40 53 = Int64.ofNat (valW b p (q - p)) → ∃ A' N', l_X12_next_96 f σ A N = some (A', N') ∧ A' 40 47 = iN (endR letB b n k q) ∧ N' 40 53 = Int64.ofNat (valW b p (endR letB b n k q - p)) ∧ ∀ a j, ¬ (a = 40 ∧ j = 47) → A' a j = A a j := by
  intro k
  induction k with
  | zero =>
    intro q f A N hp hpq hf ht h8 h7 hl hN
    obtain ⟨f, rfl⟩ : ∃ m, f = m + 1 := ⟨f - 1, by omega⟩
    have h1 := ht.1
    rw [l_X12_next_96, small_m ht h7 (by omega), oB, decide_eq_false (show ¬ q < n by omega), if_pos (show bI (false && letB (b q)) = 0 from rfl), endR]
    exact ⟨A, N, rfl, h7, hN, fun _ _ _ => rfl⟩
  | succ k ih =>
    intro q f A N hp hpq hf ht h8 h7 hl hN
    obtain ⟨f, rfl⟩ : ∃ m, f = m + 1 := ⟨f - 1, by omega⟩
    have h1 := ht.1
    obtain ⟨t1, t2⟩ := ht.2.2 q (by omega)
    have gi : g_in (iN q) 400 = true := by rw [iN_in (by omega)]; omega
    rw [l_X12_next_96, small_m ht h7 (by omega), oB, decide_eq_true (show q < n by omega), Bool.true_and]
    by_cases c : letB (b q) = true
    · have eE : endR letB b n (k + 1) q = endR letB b n k (q + 1) := by rw [endR, if_pos ⟨by omega, c⟩]
      have cc := of_decide_eq_true c
      have hl' : ∀ j, j < q + 1 - p → letB (b (p + j)) = true := fun j hj => by
        by_cases cj : j = q - p
        · rw [cj, show p + (q - p) = q by omega]; exact c
        · exact hl j (by omega)
      have go : ∀ v : Int64, v = Int64.ofNat (valW b p (q + 1 - p)) → ∃ A' N', l_X12_next_96 f σ (g_up A 40 47 (iN (q + 1))) (g_up N 40 53 v) = some (A', N') ∧ A' 40 47 = iN (endR letB b n (k + 1) q) ∧ N' 40 53 = Int64.ofNat (valW b p (endR letB b n (k + 1) q - p)) ∧ ∀ a j, ¬ (a = 40 ∧ j = 47) → A' a j = A a j := fun v hv => by
        obtain ⟨A', N', q1, q2, q3, q4⟩ := ih (q + 1) f (g_up A 40 47 (iN (q + 1))) (g_up N 40 53 v) (by omega) (by omega) (by omega) (ht.keep (fun a j h => g_up_ne _ _ (by omega))) (by rw [g_up_ne _ _ (by omega)]; exact h8) (g_up_eq _ _ ⟨rfl, rfl⟩) hl' (by rw [g_up_eq _ _ ⟨rfl, rfl⟩]; exact hv)
        rw [eE]
        exact ⟨A', N', q1, q2, q3, fun a j h => by rw [q4 a j h, g_up_ne _ _ h]⟩
      rw [if_neg (by rw [c]; decide), h7, h8, iN_sub hpq]
      unfold b_X12_next_145
      rw [h7, eS, iN_cl (by omega), t2, hN]
      obtain ⟨m, hm⟩ : ∃ m, q - p = m := ⟨_, rfl⟩
      have hm1 : q + 1 - p = m + 1 := by omega
      have hpm : p + m = q := by omega
      by_cases c7 : m < 7
      · rw [if_pos (by rw [show (7 : Int32) = iN 7 from rfl, iN_lt (by omega) (by omega)]; omega), if_pos gi]
        refine go _ ?_
        rw [(sb_64 (b q) (by omega)).1, show (27 : Int64) = Int64.ofNat 27 from rfl, show (96 : Int64) = Int64.ofNat 96 from rfl, ← Int64.ofNat_mul, ← Int64.ofNat_add, ← Int64.ofNat_sub _ _ (by omega), hm, hm1, valW, if_pos c7, hpm, Nat.add_sub_assoc (by omega)]
      · rw [if_neg (by rw [show (7 : Int32) = iN 7 from rfl, iN_lt (by omega) (by omega)]; omega)]
        refine go _ ?_
        rw [hm1, valW, if_neg c7]
    · rw [if_pos (by rw [Bool.eq_false_iff.mpr c]; rfl), endR, if_neg (fun q => c q.2)]
      exact ⟨A, N, rfl, h7, hN, fun _ _ _ => rfl⟩
theorem l_next168 {σ : gS} {b : Nat → Nat} {n p : Nat} : ∀ k q f A N, q + k = n → p ≤ q → k < f → textM A b n → A 40 48 = iN p → A 40 47 = iN q → N 40 53 = Int64.ofNat (if q - p ≤ 4 then numF b p (q - p) else 0) → ∃ A' N', l_X12_next_168 f σ A N = some (A', N') ∧ A' 40 47 = iN (endR digB b n k q) ∧ A' 40 49 = iN (if 4 < endR digB b n k q - p then 4 else 2) ∧ N' 40 53 = Int64.ofNat (if endR digB b n k q - p ≤ 4 then numF b p (endR digB b n k q - p) else 0) ∧ ∀ a j, ¬ (a = 40 ∧ (j = 47 ∨ j = 49)) → A' a j = A a j := by
  have stop : ∀ (q : Nat) (A : gM) (N : gN), p ≤ q → q ≤ 400 → A 40 48 = iN p → A 40 47 = iN q → N 40 53 = Int64.ofNat (if q - p ≤ 4 then numF b p (q - p) else 0) → ∃ A' N', (if (4 : Int32) < A 40 47 - A 40 48 then b_X12_next_251 4 σ A N else b_X12_next_251 2 σ A N) = some (A', N') ∧ A' 40 47 = iN q ∧ A' 40 49 = iN (if 4 < q - p then 4 else 2) ∧ N' 40 53 = Int64.ofNat (if q - p ≤ 4 then numF b p (q - p) else 0) ∧ ∀ a j, ¬ (a = 40 ∧ (j = 47 ∨ j = 49)) → A' a j = A a j := fun q A N h1 h2 h8 h7 hN => by
    refine ⟨g_up A 40 49 (iN (if 4 < q - p then 4 else 2)), N, ?_, by rw [g_up_ne _ _ (by omega)]; exact h7, g_up_eq _ _ ⟨rfl, rfl⟩, hN, fun a j h => g_up_ne _ _ (by omega)⟩
    unfold b_X12_next_251
    rw [h8, h7, iN_sub h1]
    by_cases c : 4 < q - p
    · rw [if_pos (show (4 : Int32) < iN (q - p) by rw [show (4 : Int32) = iN 4 from rfl, iN_lt (by omega) (by omega)]; exact c), if_pos c]; rfl
    · rw [if_neg (show ¬ (4 : Int32) < iN (q - p) by rw [show (4 : Int32) = iN 4 from rfl, iN_lt (by omega) (by omega)]; exact c), if_neg c]; rfl
  intro k
  induction k with
  | zero =>
    intro q f A N hp hpq hf ht h8 h7 hN
    obtain ⟨f, rfl⟩ : ∃ m, f = m + 1 := ⟨f - 1, by omega⟩
    have h1 := ht.1
    rw [l_X12_next_168, digit_m ht h7 (by omega), oB, decide_eq_false (show ¬ q < n by omega), if_pos (show bI (false && digB (b q)) = 0 from rfl), endR]
    exact stop q A N hpq (by omega) h8 h7 hN
  | succ k ih =>
    intro q f A N hp hpq hf ht h8 h7 hN
    obtain ⟨f, rfl⟩ : ∃ m, f = m + 1 := ⟨f - 1, by omega⟩
    have h1 := ht.1
    obtain ⟨t1, t2⟩ := ht.2.2 q (by omega)
    have gi : g_in (iN q) 400 = true := by rw [iN_in (by omega)]; omega
    rw [l_X12_next_168, digit_m ht h7 (by omega), oB, decide_eq_true (show q < n by omega), Bool.true_and]
    by_cases c : digB (b q) = true
    · have eE : endR digB b n (k + 1) q = endR digB b n k (q + 1) := by rw [endR, if_pos ⟨by omega, c⟩]
      have cc := of_decide_eq_true c
      have go : ∀ v : Int64, v = Int64.ofNat (if q + 1 - p ≤ 4 then numF b p (q + 1 - p) else 0) → ∃ A' N', l_X12_next_168 f σ (g_up A 40 47 (iN (q + 1))) (g_up N 40 53 v) = some (A', N') ∧ A' 40 47 = iN (endR digB b n (k + 1) q) ∧ A' 40 49 = iN (if 4 < endR digB b n (k + 1) q - p then 4 else 2) ∧ N' 40 53 = Int64.ofNat (if endR digB b n (k + 1) q - p ≤ 4 then numF b p (endR digB b n (k + 1) q - p) else 0) ∧ ∀ a j, ¬ (a = 40 ∧ (j = 47 ∨ j = 49)) → A' a j = A a j := fun v hv => by
        obtain ⟨A', N', q1, q2, q3, q4, q5⟩ := ih (q + 1) f (g_up A 40 47 (iN (q + 1))) (g_up N 40 53 v) (by omega) (by omega) (by omega) (ht.keep (fun a j h => g_up_ne _ _ (by omega))) (by rw [g_up_ne _ _ (by omega)]; exact h8) (g_up_eq _ _ ⟨rfl, rfl⟩) (by rw [g_up_eq _ _ ⟨rfl, rfl⟩]; exact hv)
        rw [eE]
        exact ⟨A', N', q1, q2, q3, q4, fun a j h => by rw [q5 a j h, g_up_ne _ _ (by omega)]⟩
      rw [if_neg (by rw [c]; decide)]
      unfold b_X12_next_216
      rw [h7, h8, iN_sub hpq, eS, iN_cl (by omega), t2, hN]
      obtain ⟨m, hm⟩ : ∃ m, q - p = m := ⟨_, rfl⟩
      have hm1 : q + 1 - p = m + 1 := by omega
      have hpm : p + m = q := by omega
      by_cases c7 : m < 4
      · rw [if_pos (show iN (q - p) < (4 : Int32) by rw [show (4 : Int32) = iN 4 from rfl, iN_lt (by omega) (by omega)]; omega), if_pos gi]
        refine go _ ?_
        rw [(sb_64 (b q) (by omega)).1, show (10 : Int64) = Int64.ofNat 10 from rfl, show (48 : Int64) = Int64.ofNat 48 from rfl, ← Int64.ofNat_mul, ← Int64.ofNat_add, ← Int64.ofNat_sub _ _ (by omega), hm, hm1, if_pos (by omega), if_pos (by omega), numF, hpm, Nat.add_sub_assoc (by omega), Nat.mul_comm]
      · rw [if_neg (show ¬ iN (q - p) < (4 : Int32) by rw [show (4 : Int32) = iN 4 from rfl, iN_lt (by omega) (by omega)]; omega)]
        refine go _ ?_
        rw [hm1, if_neg (by omega)]
    · have eE : endR digB b n (k + 1) q = q := by rw [endR, if_neg (fun q => c q.2)]
      rw [if_pos (by rw [Bool.eq_false_iff.mpr c]; rfl), eE]
      exact stop q A N hpq (by omega) h8 h7 hN
/-- the model's token: its kind and value -/
def mTk (b : Nat → Nat) (n s : Nat) (k : Int32) (v : Int64) : Prop := (k = 0 ∧ tokF b n s = 12) ∨ (k = 1 ∧ (tokF b n s ≤ 10 ∨ tokF b n s = 13) ∧ ∀ e, e < 11 → (v = Int64.ofNat (wdV e) ↔ tokF b n s = e)) ∨ (k = 2 ∧ tokF b n s = 11 ∧ v = Int64.ofNat (nmbF b n s)) ∨ (k = 3 ∧ signB (tokF b n s) = true ∧ v = Int64.ofNat (tokF b n s)) ∨ (k = 4 ∧ tokF b n s = 13)
theorem next_m {σ : gS} {b : Nat → Nat} {n s : Nat} {A : gM} {N : gN} (hs : s ≤ n) (ht : textM A b n) (h7 : A 40 47 = iN s) : ∃ A' N', f_X12_next σ A N = some (A', N') ∧ A' 40 47 = iN (bhdF b n s) ∧ A' 40 48 = iN (plcF b n s) ∧ mTk b n s (A' 40 49) (N' 40 53) ∧ ∀ a j, ¬ (a = 40 ∧ 47 ≤ j ∧ j ≤ 49) → A' a j = A a j := by
  have h1 := ht.1
  have hp := plcF_le (b := b) hs
  have q := l_next0 (σ := σ) (N := N) (n - s) s g_FU A (by omega) (by unfold g_FU; omega) ht h7
  unfold f_X12_next
  rw [q, show endR blankB b n (n - s) s = plcF b n s from rfl]
  let B : gM := g_up (g_up A 40 47 (iN (plcF b n s))) 40 48 (iN (plcF b n s))
  have fB : ∀ a j, ¬ (a = 40 ∧ 47 ≤ j ∧ j ≤ 49) → B a j = A a j := fun a j h => by show g_up (g_up A 40 47 (iN (plcF b n s))) 40 48 (iN (plcF b n s)) a j = _; rw [g_up_ne _ _ (by omega), g_up_ne _ _ (by omega)]
  have b7 : B 40 47 = iN (plcF b n s) := by show g_up (g_up A 40 47 (iN (plcF b n s))) 40 48 (iN (plcF b n s)) 40 47 = _; rw [g_up_ne _ _ (by omega), g_up_eq _ _ ⟨rfl, rfl⟩]
  have b8 : B 40 48 = iN (plcF b n s) := g_up_eq _ _ ⟨rfl, rfl⟩
  have tB : textM B b n := ht.keep (fun a j h => fB a j (by omega))
  unfold b_X12_next_52 b_X12_next_349
  rw [g_up_eq (j := 47) A _ ⟨rfl, rfl⟩]
  rw [show g_up (g_up A 40 47 (iN (plcF b n s))) 40 48 (iN (plcF b n s)) = B from rfl, b7, tB.2.1]
  by_cases c : n ≤ plcF b n s
  · have et : tokF b n s = 12 := by unfold tokF; rw [if_pos c]
    have eb : bhdF b n s = plcF b n s := by unfold bhdF; rw [if_pos c]
    rw [if_pos (by rw [iN_inj (by omega) (by omega)]; omega), eb]
    exact ⟨_, _, rfl, by rw [g_up_ne _ _ (by omega)]; exact b7, by rw [g_up_ne _ _ (by omega)]; exact b8, Or.inl ⟨g_up_eq _ _ ⟨rfl, rfl⟩, et⟩, fun a j h => by rw [g_up_ne _ _ (by omega), fB _ _ h]⟩
  · obtain ⟨t1, t2⟩ := tB.2.2 (plcF b n s) (by omega)
    have gi : g_in (iN (plcF b n s)) 400 = true := by rw [iN_in (by omega)]; omega
    rw [if_neg (by rw [iN_inj (by omega) (by omega)]; omega), small_m tB b7 hp.2, oB, decide_eq_true (show plcF b n s < n by omega), Bool.true_and]
    by_cases cl : letB (b (plcF b n s)) = true
    · rw [if_neg (by rw [cl]; decide)]
      obtain ⟨A', N', q1, q2, q3, q4⟩ := l_next96 (σ := σ) (p := plcF b n s) (n - plcF b n s) (plcF b n s) g_FU (g_up B 40 49 1) (g_up N 40 53 (Int64.ofNat 0)) (by omega) (Nat.le_refl _) (by unfold g_FU; omega) (tB.keep (fun a j h => g_up_ne _ _ (by omega))) (by rw [g_up_ne _ _ (by omega)]; exact b8) (by rw [g_up_ne _ _ (by omega)]; exact b7) (fun j hj => by omega) (by rw [g_up_eq _ _ ⟨rfl, rfl⟩, Nat.sub_self]; rfl)
      have eb : bhdF b n s = endR letB b n (n - plcF b n s) (plcF b n s) := by unfold bhdF; rw [if_neg c, if_pos cl]
      have et : tokF b n s = wordT b (plcF b n s) (bhdF b n s) 11 0 := by unfold tokF; rw [if_neg c, if_pos cl]
      refine ⟨A', N', q1, by rw [eb]; exact q2, by rw [q4 _ _ (by omega), g_up_ne _ _ (by omega)]; exact b8, Or.inr (Or.inl ⟨by rw [q4 _ _ (by omega), g_up_eq _ _ ⟨rfl, rfl⟩], ?_, fun e he => ?_⟩), fun a j h => by rw [q4 _ _ (by omega), g_up_ne _ _ (by omega), fB _ _ h]⟩
      · have := wordT_c b (plcF b n s) (bhdF b n s) 11 0
        omega
      · rw [q3, ← eb, et]
        exact wordT_iff he (fun j hj => endR_all (n - plcF b n s) (plcF b n s) _ (by omega) (by rw [← eb]; omega))
    · rw [if_pos (by rw [Bool.eq_false_iff.mpr cl]; rfl), digit_m tB b7 hp.2, oB, decide_eq_true (show plcF b n s < n by omega), Bool.true_and]
      by_cases cd : digB (b (plcF b n s)) = true
      · rw [if_neg (by rw [cd]; decide)]
        obtain ⟨A', N', q1, q2, q3, q4, q5⟩ := l_next168 (σ := σ) (p := plcF b n s) (n - plcF b n s) (plcF b n s) g_FU B (g_up N 40 53 (Int64.ofNat 0)) (by omega) (Nat.le_refl _) (by unfold g_FU; omega) tB b8 b7 (by rw [g_up_eq _ _ ⟨rfl, rfl⟩, Nat.sub_self]; rfl)
        have eb : bhdF b n s = endR digB b n (n - plcF b n s) (plcF b n s) := by unfold bhdF; rw [if_neg c, if_neg cl, if_pos cd]
        have et : tokF b n s = if 4 < bhdF b n s - plcF b n s then 13 else 11 := by unfold tokF; rw [if_neg c, if_neg cl, if_pos cd]
        refine ⟨A', N', q1, by rw [eb]; exact q2, by rw [q5 _ _ (by omega)]; exact b8, ?_, fun a j h => by rw [q5 _ _ (by omega), fB _ _ h]⟩
        rw [q3, q4]
        rw [← eb]
        by_cases c4 : 4 < bhdF b n s - plcF b n s
        · rw [if_pos c4] at et ⊢
          exact Or.inr (Or.inr (Or.inr (Or.inr ⟨rfl, et⟩)))
        · rw [if_neg c4] at et ⊢
          rw [if_pos (by omega)]
          refine Or.inr (Or.inr (Or.inl ⟨rfl, et, ?_⟩))
          unfold nmbF
          congr 2
          unfold minN
          split <;> omega
      · rw [if_pos (by rw [Bool.eq_false_iff.mpr cd]; rfl), if_pos gi, iN_cl (by omega), t2]
        rw [g_up_eq (j := 53) _ _ ⟨rfl, rfl⟩]
        obtain ⟨g1, g2, g3, g4, g5, g6, g7⟩ := sb_sgn (b (plcF b n s)) t1
        have go : ∀ (x : Int32) (N' : gN), ∃ A', b_X12_next_354 x σ B N' = some (A', N') ∧ A' 40 47 = iN (plcF b n s + 1) ∧ A' 40 48 = iN (plcF b n s) ∧ A' 40 49 = x ∧ ∀ a j, ¬ (a = 40 ∧ 47 ≤ j ∧ j ≤ 49) → A' a j = A a j := fun x N' => by
          refine ⟨g_up (g_up B 40 49 x) 40 47 (iN (plcF b n s + 1)), ?_, g_up_eq _ _ ⟨rfl, rfl⟩, ?_, ?_, fun a j h => ?_⟩
          · unfold b_X12_next_354
            rw [g_up_ne _ _ (by omega), b7, eS]
          · rw [g_up_ne _ _ (by omega), g_up_ne _ _ (by omega)]; exact b8
          · rw [g_up_ne _ _ (by omega), g_up_eq _ _ ⟨rfl, rfl⟩]
          · rw [g_up_ne _ _ (by omega), g_up_ne _ _ (by omega), fB _ _ h]
        have sg : ∀ N' : gN, N' 40 53 = (sb (b (plcF b n s))).toInt64 → signB (b (plcF b n s)) = true → ∃ A' N'', b_X12_next_354 3 σ B N' = some (A', N'') ∧ A' 40 47 = iN (plcF b n s + 1) ∧ A' 40 48 = iN (plcF b n s) ∧ mTk b n s (A' 40 49) (N'' 40 53) ∧ ∀ a j, ¬ (a = 40 ∧ 47 ≤ j ∧ j ≤ 49) → A' a j = A a j := fun N' hN hs => by
          obtain ⟨A', q1, q2, q3, q4, q5⟩ := go 3 N'
          have et : tokF b n s = b (plcF b n s) := by unfold tokF; rw [if_neg c, if_neg cl, if_neg cd, if_pos hs]
          have hs' := of_decide_eq_true hs
          refine ⟨A', N', q1, q2, q3, Or.inr (Or.inr (Or.inr (Or.inl ⟨q4, by rw [et]; exact hs, by rw [et, hN]; exact (sb_64 _ (by omega)).1⟩))), q5⟩
        have et : tokF b n s = if signB (b (plcF b n s)) = true then b (plcF b n s) else 13 := by unfold tokF; rw [if_neg c, if_neg cl, if_neg cd]
        have eb : bhdF b n s = plcF b n s + 1 := by unfold bhdF; rw [if_neg c, if_neg cl, if_neg cd]
        have fin : (∃ A' N'', b_X12_next_354 4 σ B (g_up (g_up N 40 53 (Int64.ofNat 0)) 40 53 (sb (b (plcF b n s))).toInt64) = some (A', N'') ∧ A' 40 47 = iN (plcF b n s + 1) ∧ A' 40 48 = iN (plcF b n s) ∧ A' 40 49 = 4 ∧ ∀ a j, ¬ (a = 40 ∧ 47 ≤ j ∧ j ≤ 49) → A' a j = A a j) := by
          obtain ⟨A', q1, q2, q3, q4, q5⟩ := go 4 (g_up (g_up N 40 53 (Int64.ofNat 0)) 40 53 (sb (b (plcF b n s))).toInt64)
          exact ⟨A', _, q1, q2, q3, q4, q5⟩
        rw [eb]
        have sg' := sg (g_up (g_up N 40 53 (Int64.ofNat 0)) 40 53 (sb (b (plcF b n s))).toInt64) (g_up_eq _ _ ⟨rfl, rfl⟩)
        by_cases e1 : b (plcF b n s) = 59
        · rw [if_pos ((cmp0 _ _).mpr (g1.mpr e1))]; exact sg' (decide_eq_true (by omega))
        rw [if_neg (fun q => e1 (g1.mp ((cmp0 _ _).mp q)))]
        by_cases e2 : b (plcF b n s) = 40
        · rw [if_pos ((cmp0 _ _).mpr (g2.mpr e2))]; exact sg' (decide_eq_true (by omega))
        rw [if_neg (fun q => e2 (g2.mp ((cmp0 _ _).mp q)))]
        by_cases e3 : b (plcF b n s) = 41
        · rw [if_pos ((cmp0 _ _).mpr (g3.mpr e3))]; exact sg' (decide_eq_true (by omega))
        rw [if_neg (fun q => e3 (g3.mp ((cmp0 _ _).mp q)))]
        by_cases e4 : b (plcF b n s) = 60
        · rw [if_pos ((cmp0 _ _).mpr (g4.mpr e4))]; exact sg' (decide_eq_true (by omega))
        rw [if_neg (fun q => e4 (g4.mp ((cmp0 _ _).mp q)))]
        by_cases e5 : b (plcF b n s) = 61
        · rw [if_pos ((cmp0 _ _).mpr (g5.mpr e5))]; exact sg' (decide_eq_true (by omega))
        rw [if_neg (fun q => e5 (g5.mp ((cmp0 _ _).mp q)))]
        by_cases e6 : b (plcF b n s) = 43
        · rw [if_pos ((cmp0 _ _).mpr (g6.mpr e6))]; exact sg' (decide_eq_true (by omega))
        rw [if_neg (fun q => e6 (g6.mp ((cmp0 _ _).mp q)))]
        by_cases e7 : b (plcF b n s) = 45
        · rw [if_pos ((cmp0 _ _).mpr (g7.mpr e7))]; exact sg' (decide_eq_true (by omega))
        rw [if_neg (fun q => e7 (g7.mp ((cmp0 _ _).mp q)))]
        obtain ⟨A', N'', q1, q2, q3, q4, q5⟩ := fin
        exact ⟨A', N'', q1, q2, q3, Or.inr (Or.inr (Or.inr (Or.inr ⟨q4, by rw [et, if_neg (fun q => by have := of_decide_eq_true q; omega)]⟩))), q5⟩
/-- the model at the token s, d brackets open -/
def atM (b : Nat → Nat) (n : Nat) (A : gM) (N : gN) (s d : Nat) : Prop := textM A b n ∧ A 40 47 = iN (bhdF b n s) ∧ A 40 48 = iN (plcF b n s) ∧ mTk b n s (A 40 49) (N 40 53) ∧ A 40 50 = iN d ∧ A 40 51 = iN 0
theorem isSign_m {σ : gS} {b : Nat → Nat} {n s c : Nat} {A : gM} {N : gN} (hc : signB c = true) (h : mTk b n s (A 40 49) (N 40 53)) : f_X12_isSign (iN c) σ A N = some (bI (decide (tokF b n s = c))) := by
  have hc' := of_decide_eq_true hc
  unfold f_X12_isSign b_X12_isSign_0
  rcases h with ⟨k, t⟩ | ⟨k, t, _⟩ | ⟨k, t, _⟩ | ⟨k, t, v⟩ | ⟨k, t⟩
  · rw [k, if_neg (by decide), decide_eq_false (by omega)]; rfl
  · rw [k, if_neg (by decide), decide_eq_false (by omega)]; rfl
  · rw [k, if_neg (by decide), decide_eq_false (by omega)]; rfl
  · have t' := of_decide_eq_true t
    rw [k, if_pos rfl, v, (sb_64 c (by omega)).2]
    by_cases e : tokF b n s = c
    · rw [if_pos ((cmp0 _ _).mpr (by rw [e])), decide_eq_true e]; rfl
    · rw [if_neg (fun q => e ((i64_inj (by omega) (by omega)).mp ((cmp0 _ _).mp q))), decide_eq_false e]; rfl
  · rw [k, if_neg (by decide), decide_eq_false (by omega)]; rfl
theorem isWord_m {σ : gS} {b : Nat → Nat} {n s e : Nat} {A : gM} {N : gN} (he : e < 11) (h : mTk b n s (A 40 49) (N 40 53)) : f_X12_isWord (Int64.ofNat (wdV e)) σ A N = some (bI (decide (tokF b n s = e))) := by
  unfold f_X12_isWord b_X12_isWord_0
  rcases h with ⟨k, t⟩ | ⟨k, t, v⟩ | ⟨k, t, _⟩ | ⟨k, t, v⟩ | ⟨k, t⟩
  · rw [k, if_neg (by decide), decide_eq_false (by omega)]; rfl
  · rw [k, if_pos rfl]
    by_cases q : tokF b n s = e
    · rw [if_pos ((cmp0 _ _).mpr ((v e he).mpr q)), decide_eq_true q]; rfl
    · rw [if_neg (fun x => q ((v e he).mp ((cmp0 _ _).mp x))), decide_eq_false q]; rfl
  · rw [k, if_neg (by decide), decide_eq_false (by omega)]; rfl
  · have t' := of_decide_eq_true t
    rw [k, if_neg (by decide), decide_eq_false (by omega)]; rfl
  · rw [k, if_neg (by decide), decide_eq_false (by omega)]; rfl
