/-! read: the class's advance, whole. -/
theorem sign_c {x : Nat} (hx : x < 256) : f_X7_isSign (iN x) = some (bI (signB x)) := by
  have : ∀ x, x < 256 → f_X7_isSign (iN x) = some (bI (signB x)) := by decide +kernel
  exact this x hx
theorem adv47 {σ : gS} {b : Nat → Nat} {n s : Nat} {A : gM} (ht : tapeC A b n) (h8 : A 7 8 = iN (plcF b n s)) (hp : plcF b n s ≤ n) : ∃ M', b_X7_advance_47 σ A = some M' ∧ M' 7 7 = iN (tokF b n s) ∧ M' 7 8 = iN (plcF b n s) ∧ M' 7 9 = iN (bhdF b n s) ∧ (plcF b n s < n → letB (b (plcF b n s)) = false → digB (b (plcF b n s)) = true → M' 7 10 = iN (nmbF b n s)) ∧ ∀ a j, ¬ (a = 7 ∧ 7 ≤ j ∧ j ≤ 10) → M' a j = A a j := by
  have h1 := ht.1
  let B : gM := g_up A 7 9 (iN (plcF b n s))
  have fB : ∀ a j, ¬ (a = 7 ∧ j = 9) → B a j = A a j := fun a j h => g_up_ne _ _ h
  have b9 : B 7 9 = iN (plcF b n s) := g_up_eq _ _ ⟨rfl, rfl⟩
  have b8 : B 7 8 = iN (plcF b n s) := by rw [fB _ _ (by omega)]; exact h8
  have tB : tapeC B b n := ht.keep (fun a j h => fB a j (by omega))
  unfold b_X7_advance_47
  rw [h8]
  show ∃ M', (if B 7 8 < B 7 4 then if g_in (B 7 8) 400 = true then (f_X7_isLetter (B 11 (B 7 8).toNatClampNeg)).bind fun q84 => if q84 = 0 then if g_in (B 7 8) 400 = true then (f_X7_isDigit (B 11 (B 7 8).toNatClampNeg)).bind fun q106 => if q106 = 0 then if g_in (B 7 8) 400 = true then (f_X7_isSign (B 11 (B 7 8).toNatClampNeg)).bind fun q129 => if q129 = 0 then b_X7_advance_149 13 σ B else if g_in (B 7 8) 400 = true then b_X7_advance_149 (B 11 (B 7 8).toNatClampNeg) σ B else none else none else (f_X7_takeNumber σ B).bind fun q113 => some q113 else none else (f_X7_takeWord σ B).bind fun q91 => some q91 else none else some (g_up B 7 7 12)) = some M' ∧ _
  rw [b8, tB.2.1]
  unfold tokF bhdF nmbF
  by_cases c : n ≤ plcF b n s
  · rw [if_neg (by rw [iN_lt (by omega) (by omega)]; omega), if_pos c, if_pos c]
    exact ⟨_, rfl, g_up_eq _ _ ⟨rfl, rfl⟩, by rw [g_up_ne _ _ (by omega)]; exact b8, by rw [g_up_ne _ _ (by omega)]; exact b9, fun q => by omega, fun a j h => by rw [g_up_ne _ _ (by omega), fB _ _ (by omega)]⟩
  · obtain ⟨t1, t2⟩ := tB.2.2 (plcF b n s) (by omega)
    have gi : g_in (iN (plcF b n s)) 400 = true := by rw [iN_in (by omega)]; omega
    rw [if_pos (by rw [iN_lt (by omega) (by omega)]; omega), if_neg c, if_neg c, if_pos gi, iN_cl (by omega), t2, let_c t1, oB]
    by_cases cl : letB (b (plcF b n s)) = true
    · rw [if_neg (show ¬ bI (letB (b (plcF b n s))) = 0 by rw [cl]; decide), if_pos cl, if_pos cl]
      have q := l_word (σ := σ) (n - plcF b n s) (plcF b n s) g_FU B (by omega) (Nat.le_refl _) (by unfold g_FU; omega) tB b8 b9
      refine ⟨_, by rw [show f_X7_takeWord σ B = _ from q]; rfl, g_up_eq _ _ ⟨rfl, rfl⟩, ?_, ?_, fun _ q => ?_, fun a j h => ?_⟩
      · rw [g_up_ne _ _ (by omega), g_up_ne _ _ (by omega)]; exact b8
      · rw [g_up_ne _ _ (by omega), g_up_eq _ _ ⟨rfl, rfl⟩]
      · rw [cl] at q; cases q
      · rw [g_up_ne _ _ (by omega), g_up_ne _ _ (by omega), fB _ _ (by omega)]
    · have cl' : letB (b (plcF b n s)) = false := Bool.eq_false_iff.mpr cl
      rw [if_pos (show bI (letB (b (plcF b n s))) = 0 by rw [cl']; rfl), if_neg cl, if_neg cl, if_pos gi, dig_c t1, oB]
      by_cases cd : digB (b (plcF b n s)) = true
      · rw [if_neg (show ¬ bI (digB (b (plcF b n s))) = 0 by rw [cd]; decide), if_pos cd, if_pos cd]
        obtain ⟨M', q1, q2, q3, q4, q5⟩ := l_num (σ := σ) (p := plcF b n s) (n - plcF b n s) (plcF b n s) g_FU (g_up B 7 10 (iN 0)) (by omega) (Nat.le_refl _) (by unfold g_FU; omega) (tB.keep (fun a j h => g_up_ne _ _ (by omega))) (by rw [g_up_ne _ _ (by omega)]; exact b8) (by rw [g_up_ne _ _ (by omega)]; exact b9) (fun j hj => by omega) (by rw [g_up_eq _ _ ⟨rfl, rfl⟩, Nat.sub_self]; rfl)
        refine ⟨M', by rw [show f_X7_takeNumber σ B = _ from q1]; rfl, q2, ?_, q3, fun _ _ _ => ?_, fun a j h => ?_⟩
        · rw [q5 _ _ (by omega), g_up_ne _ _ (by omega)]; exact b8
        · rw [q4]; unfold bhdF; rw [if_neg c, if_neg cl, if_pos cd]
        · rw [q5 _ _ (by omega), g_up_ne _ _ (by omega), fB _ _ (by omega)]
      · sorry
