/-! read: the class's advance, whole. -/
theorem sign_c {x : Nat} (hx : x < 256) : f_X7_isSign (iN x) = some (bI (signB x)) := by
  have : ∀ x, x < 256 → f_X7_isSign (iN x) = some (bI (signB x)) := by decide +kernel
  exact this x hx
theorem adv47 {σ : gS} {b : Nat → Nat} {n s : Nat} {A : gM} (ht : tapeC A b n) (h8 : A 7 8 = iN (plcF b n s)) (hp : plcF b n s ≤ n) : ∃ M', b_X7_advance_47 σ A = some M' ∧ M' 7 7 = iN (tokF b n s) ∧ M' 7 8 = iN (plcF b n s) ∧ M' 7 9 = iN (bhdF b n s) ∧ (plcF b n s < n → letB (b (plcF b n s)) = false → digB (b (plcF b n s)) = true → M' 7 10 = iN (nmbF b n s)) ∧ ∀ a j, ¬ (a = 7 ∧ 7 ≤ j ∧ j ≤ 10) → M' a j = A a j := by
  have h1 := ht.1
  let B : gM := g_up A 7 9 (iN (plcF b n s))
  have fB : ∀ a j, ¬ (a = 7 ∧ j = 9) → B a j = A a j := fun a j h => g_up_ne _ _ h
  have b9 : B 7 9 = iN (plcF b n s) := g_up_eq _ _ ⟨rfl, rfl⟩
  have b8 : B 7 8 = iN (plcF b n s) := by rw [fB _ _ (by omega)]; exact h8
  have tB : tapeC B b n := ht.keep (fun a j h => fB a j (by omega))
  unfold b_X7_advance_47
  rw [h8]
  show ∃ M', (if B 7 8 < B 7 4 then if g_in (B 7 8) 400 = true then (f_X7_isLetter (B 11 (B 7 8).toNatClampNeg)).bind fun q84 => if q84 = 0 then if g_in (B 7 8) 400 = true then (f_X7_isDigit (B 11 (B 7 8).toNatClampNeg)).bind fun q106 => if q106 = 0 then if g_in (B 7 8) 400 = true then (f_X7_isSign (B 11 (B 7 8).toNatClampNeg)).bind fun q129 => if q129 = 0 then b_X7_advance_149 13 σ B else if g_in (B 7 8) 400 = true then b_X7_advance_149 (B 11 (B 7 8).toNatClampNeg) σ B else none else none else (f_X7_takeNumber σ B).bind fun q113 => some q113 else none else (f_X7_takeWord σ B).bind fun q91 => some q91 else none else some (g_up B 7 7 12)) = some M' ∧ _
  rw [b8, tB.2.1]
  unfold tokF bhdF nmbF
  by_cases c : n ≤ plcF b n s
  · rw [if_neg (by rw [iN_lt (by omega) (by omega)]; omega), if_pos c, if_pos c]
    exact ⟨_, rfl, g_up_eq _ _ ⟨rfl, rfl⟩, by rw [g_up_ne _ _ (by omega)]; exact b8, by rw [g_up_ne _ _ (by omega)]; exact b9, fun q => by omega, fun a j h => by rw [g_up_ne _ _ (by omega), fB _ _ (by omega)]⟩
  · obtain ⟨t1, t2⟩ := tB.2.2 (plcF b n s) (by omega)
    have gi : g_in (iN (plcF b n s)) 400 = true := by rw [iN_in (by omega)]; omega
    rw [if_pos (by rw [iN_lt (by omega) (by omega)]; omega), if_neg c, if_neg c, if_pos gi, iN_cl (by omega), t2, let_c t1, oB]
    by_cases cl : letB (b (plcF b n s)) = true
    · rw [if_neg (show ¬ bI (letB (b (plcF b n s))) = 0 by rw [cl]; decide), if_pos cl, if_pos cl]
      have q := l_word (σ := σ) (n - plcF b n s) (plcF b n s) g_FU B (by omega) (Nat.le_refl _) (by unfold g_FU; omega) tB b8 b9
      refine ⟨_, by rw [show f_X7_takeWord σ B = _ from q]; rfl, g_up_eq _ _ ⟨rfl, rfl⟩, ?_, ?_, fun _ q => ?_, fun a j h => ?_⟩
      · rw [g_up_ne _ _ (by omega), g_up_ne _ _ (by omega)]; exact b8
      · rw [g_up_ne _ _ (by omega), g_up_eq _ _ ⟨rfl, rfl⟩]
      · rw [cl] at q; cases q
      · rw [g_up_ne _ _ (by omega), g_up_ne _ _ (by omega), fB _ _ (by omega)]
    · have cl' : letB (b (plcF b n s)) = false := Bool.eq_false_iff.mpr cl
      rw [if_pos (show bI (letB (b (plcF b n s))) = 0 by rw [cl']; rfl), if_neg cl, if_neg cl, if_pos gi, dig_c t1, oB]
      by_cases cd : digB (b (plcF b n s)) = true
      · rw [if_neg (show ¬ bI (digB (b (plcF b n s))) = 0 by rw [cd]; decide), if_pos cd, if_pos cd]
        obtain ⟨M', q1, q2, q3, q4, q5⟩ := l_num (σ := σ) (p := plcF b n s) (n - plcF b n s) (plcF b n s) g_FU (g_up B 7 10 (iN 0)) (by omega) (Nat.le_refl _) (by unfold g_FU; omega) (tB.keep (fun a j h => g_up_ne _ _ (by omega))) (by rw [g_up_ne _ _ (by omega)]; exact b8) (by rw [g_up_ne _ _ (by omega)]; exact b9) (fun j hj => by omega) (by rw [g_up_eq _ _ ⟨rfl, rfl⟩, Nat.sub_self]; rfl)
        refine ⟨M', by rw [show f_X7_takeNumber σ B = _ from q1]; rfl, q2, ?_, q3, fun _ _ _ => ?_, fun a j h => ?_⟩
        · rw [q5 _ _ (by omega), g_up_ne _ _ (by omega)]; exact b8
        · rw [q4]; unfold bhdF; rw [if_neg c, if_neg cl, if_pos cd]
        · rw [q5 _ _ (by omega), g_up_ne _ _ (by omega), fB _ _ (by omega)]
      · have cd' : digB (b (plcF b n s)) = false := Bool.eq_false_iff.mpr cd
        rw [if_pos (show bI (digB (b (plcF b n s))) = 0 by rw [cd']; rfl), if_neg cd, if_neg cd, if_pos gi, sign_c t1, oB]
        have go : ∀ x : Int32, ∃ M', b_X7_advance_149 x σ B = some M' ∧ M' 7 7 = x ∧ M' 7 8 = iN (plcF b n s) ∧ M' 7 9 = iN (plcF b n s + 1) ∧ ∀ a j, ¬ (a = 7 ∧ 7 ≤ j ∧ j ≤ 10) → M' a j = A a j := fun x => by
          refine ⟨g_up (g_up B 7 7 x) 7 9 (iN (plcF b n s + 1)), ?_, ?_, ?_, ?_, fun a j h => ?_⟩
          · unfold b_X7_advance_149
            rw [g_up_ne _ _ (by omega), b9, eS]
          · rw [g_up_ne _ _ (by omega), g_up_eq _ _ ⟨rfl, rfl⟩]
          · rw [g_up_ne _ _ (by omega), g_up_ne _ _ (by omega)]; exact b8
          · rw [g_up_eq _ _ ⟨rfl, rfl⟩]
          · rw [g_up_ne _ _ (by omega), g_up_ne _ _ (by omega), fB _ _ (by omega)]
        by_cases cs : signB (b (plcF b n s)) = true
        · rw [if_neg (show ¬ bI (signB (b (plcF b n s))) = 0 by rw [cs]; decide), if_pos cs, if_pos gi]
          obtain ⟨M', q1, q2, q3, q4, q5⟩ := go (iN (b (plcF b n s)))
          exact ⟨M', q1, q2, q3, q4, (fun _ _ q => by rw [cd'] at q; cases q), q5⟩
        · rw [if_pos (show bI (signB (b (plcF b n s))) = 0 by rw [Bool.eq_false_iff.mpr cs]; rfl), if_neg cs]
          obtain ⟨M', q1, q2, q3, q4, q5⟩ := go (iN 13)
          exact ⟨M', q1, q2, q3, q4, (fun _ _ q => by rw [cd'] at q; cases q), q5⟩
theorem plcF_le {b : Nat → Nat} {n s : Nat} (h : s ≤ n) : s ≤ plcF b n s ∧ plcF b n s ≤ n := by
  have := endR_ge blankB b n (n - s) s
  unfold plcF
  omega
theorem bhdF_le {b : Nat → Nat} {n s : Nat} (h : s ≤ n) : plcF b n s ≤ bhdF b n s ∧ bhdF b n s ≤ n ∧ (plcF b n s < n → plcF b n s < bhdF b n s) := by
  have hp := plcF_le (b := b) h
  unfold bhdF
  by_cases c : n ≤ plcF b n s
  · rw [if_pos c]; omega
  · rw [if_neg c]
    by_cases cl : letB (b (plcF b n s)) = true
    · rw [if_pos cl]
      have := endR_ge letB b n (n - plcF b n s - 1) (plcF b n s + 1)
      rw [show n - plcF b n s = (n - plcF b n s - 1) + 1 by omega, endR, if_pos ⟨by omega, cl⟩]
      omega
    · rw [if_neg cl]
      by_cases cd : digB (b (plcF b n s)) = true
      · rw [if_pos cd]
        have := endR_ge digB b n (n - plcF b n s - 1) (plcF b n s + 1)
        rw [show n - plcF b n s = (n - plcF b n s - 1) + 1 by omega, endR, if_pos ⟨by omega, cd⟩]
        omega
      · rw [if_neg cd]; omega
theorem wordT_c (b : Nat → Nat) (p q : Nat) : ∀ k e, wordT b p q k e = 13 ∨ (wordT b p q k e < e + k) := by
  intro k
  induction k with
  | zero => intro e; exact Or.inl rfl
  | succ k ih =>
    intro e
    unfold wordT
    by_cases c : isW b p q (wdN e)
    · rw [if_pos c]; omega
    · rw [if_neg c]
      have := ih (e + 1)
      omega
/-- what a token may be -/
theorem tokF_c (b : Nat → Nat) (n s : Nat) : (tokF b n s = 12 ∧ n ≤ plcF b n s) ∨ (plcF b n s < n ∧ (tokF b n s ≤ 10 ∨ tokF b n s = 13 ∨ (tokF b n s = 11 ∧ letB (b (plcF b n s)) = false ∧ digB (b (plcF b n s)) = true) ∨ (signB (tokF b n s) = true ∧ 40 ≤ tokF b n s ∧ tokF b n s ≤ 61))) := by
  unfold tokF
  by_cases c : n ≤ plcF b n s
  · rw [if_pos c]; exact Or.inl ⟨rfl, c⟩
  · rw [if_neg c]
    refine Or.inr ⟨by omega, ?_⟩
    by_cases cl : letB (b (plcF b n s)) = true
    · rw [if_pos cl]
      have := wordT_c b (plcF b n s) (bhdF b n s) 11 0
      omega
    · rw [if_neg cl]
      by_cases cd : digB (b (plcF b n s)) = true
      · rw [if_pos cd]
        by_cases c4 : 4 < bhdF b n s - plcF b n s
        · rw [if_pos c4]; omega
        · rw [if_neg c4]; exact Or.inr (Or.inr (Or.inl ⟨rfl, Bool.eq_false_iff.mpr cl, cd⟩))
      · rw [if_neg cd]
        by_cases cs : signB (b (plcF b n s)) = true
        · rw [if_pos cs]
          have := of_decide_eq_true cs
          exact Or.inr (Or.inr (Or.inr ⟨cs, by omega, by omega⟩))
        · rw [if_neg cs]; omega
/-- the class at the token s, c codes written -/
def atC (b : Nat → Nat) (n : Nat) (M : gM) (s c : Nat) : Prop := tapeC M b n ∧ M 7 7 = iN (tokF b n s) ∧ M 7 8 = iN (plcF b n s) ∧ M 7 9 = iN (bhdF b n s) ∧ (tokF b n s = 11 → M 7 10 = iN (nmbF b n s)) ∧ M 7 6 = iN c
theorem adv_c {σ : gS} {b : Nat → Nat} {n s : Nat} {M : gM} (hs : s ≤ n) (ht : tapeC M b n) (h9 : M 7 9 = iN s) : ∃ M', f_X7_advance σ M = some M' ∧ (∀ c, M 7 6 = iN c → atC b n M' s c) ∧ ∀ a j, ¬ (a = 7 ∧ 7 ≤ j ∧ j ≤ 10) → M' a j = M a j := by
  have h1 := ht.1
  have hp := plcF_le (b := b) hs
  have q := l_adv8 (σ := σ) (n - s) s g_FU (g_up M 7 8 (iN s)) (by omega) (by unfold g_FU; omega) (ht.keep (fun a j h => g_up_ne _ _ (by omega))) (g_up_eq _ _ ⟨rfl, rfl⟩)
  obtain ⟨M', q1, q2, q3, q4, q5, q6⟩ := adv47 (σ := σ) (b := b) (n := n) (s := s) (A := g_up (g_up M 7 8 (iN s)) 7 8 (iN (plcF b n s))) (ht.keep (fun a j h => by rw [g_up_ne _ _ (by omega), g_up_ne _ _ (by omega)])) (g_up_eq _ _ ⟨rfl, rfl⟩) hp.2
  have fr : ∀ a j, ¬ (a = 7 ∧ 7 ≤ j ∧ j ≤ 10) → M' a j = M a j := fun a j h => by rw [q6 a j h, g_up_ne _ _ (by omega), g_up_ne _ _ (by omega)]
  refine ⟨M', ?_, fun c hc => ⟨ht.keep (fun a j h => fr a j (by omega)), q2, q3, q4, fun e => ?_, by rw [fr _ _ (by omega)]; exact hc⟩, fr⟩
  · unfold f_X7_advance b_X7_advance_0
    rw [h9, q]
    exact q1
  · have e11 : signB 11 = false := by decide
    rcases tokF_c b n s with ⟨g, _⟩ | ⟨g1, g | g | ⟨g, g2, g3⟩ | ⟨g, g2, g3⟩⟩
    · omega
    · omega
    · omega
    · exact q5 g1 g2 g3
    · omega
