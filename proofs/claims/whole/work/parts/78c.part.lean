/-! read: one parser, both sides: a part. -/
theorem g_b0 : g_b 0 = true := by decide
theorem g_b1 : g_b 1 = true := by decide
theorem tok_lt (b : Nat → Nat) (n s : Nat) : tokF b n s < 100 := by
  rcases tokF_c b n s with ⟨g, _⟩ | ⟨g1, g | g | ⟨g, g2, g3⟩ | ⟨g, g2, g3⟩⟩ <;> omega
theorem ifB {α : Type} {p : Prop} [Decidable p] {i : Decidable (bI (decide p) = (0 : Int32))} (x y : α) : (@ite α (bI (decide p) = 0) i x y) = if p then y else x := by
  by_cases h : p
  · rw [if_pos h, if_neg (by rw [decide_eq_true h]; decide)]
  · rw [if_neg h, if_pos (by rw [decide_eq_false h]; rfl)]
theorem sg_m {σ : gS} {b : Nat → Nat} {n s d : Nat} {A : gM} {N : gN} (h : atM b n A N s d) : f_X12_isSign 40 σ A N = some (bI (decide (tokF b n s = 40))) ∧ f_X12_isSign 41 σ A N = some (bI (decide (tokF b n s = 41))) ∧ f_X12_isSign 43 σ A N = some (bI (decide (tokF b n s = 43))) ∧ f_X12_isSign 45 σ A N = some (bI (decide (tokF b n s = 45))) ∧ f_X12_isSign 59 σ A N = some (bI (decide (tokF b n s = 59))) ∧ f_X12_isSign 60 σ A N = some (bI (decide (tokF b n s = 60))) ∧ f_X12_isSign 61 σ A N = some (bI (decide (tokF b n s = 61))) :=
  ⟨isSign_m (c := 40) rfl h.2.2.2.1, isSign_m (c := 41) rfl h.2.2.2.1, isSign_m (c := 43) rfl h.2.2.2.1, isSign_m (c := 45) rfl h.2.2.2.1, isSign_m (c := 59) rfl h.2.2.2.1, isSign_m (c := 60) rfl h.2.2.2.1, isSign_m (c := 61) rfl h.2.2.2.1⟩
theorem wd_m {σ : gS} {b : Nat → Nat} {n s d : Nat} {A : gM} {N : gN} (h : atM b n A N s d) : f_X12_isWord 4514 σ A N = some (bI (decide (tokF b n s = 0))) ∧ f_X12_isWord 40187 σ A N = some (bI (decide (tokF b n s = 1))) ∧ f_X12_isWord 261071320 σ A N = some (bI (decide (tokF b n s = 2))) ∧ f_X12_isWord 131360 σ A N = some (bI (decide (tokF b n s = 3))) ∧ f_X12_isWord 458690 σ A N = some (bI (decide (tokF b n s = 4))) ∧ f_X12_isWord 1111 σ A N = some (bI (decide (tokF b n s = 5))) ∧ f_X12_isWord 240023 σ A N = some (bI (decide (tokF b n s = 6))) ∧ f_X12_isWord 161437 σ A N = some (bI (decide (tokF b n s = 7))) ∧ f_X12_isWord 427333 σ A N = some (bI (decide (tokF b n s = 8))) ∧ f_X12_isWord 232546955 σ A N = some (bI (decide (tokF b n s = 9))) ∧ f_X12_isWord 275320391 σ A N = some (bI (decide (tokF b n s = 10))) := by
  obtain ⟨w0, w1, w2, w3, w4, w5, w6, w7, w8, w9, w10⟩ := wdV_0
  rw [w0, w1, w2, w3, w4, w5, w6, w7, w8, w9, w10]
  have k := h.2.2.2.1
  exact ⟨isWord_m (by omega) k, isWord_m (by omega) k, isWord_m (by omega) k, isWord_m (by omega) k, isWord_m (by omega) k, isWord_m (by omega) k, isWord_m (by omega) k, isWord_m (by omega) k, isWord_m (by omega) k, isWord_m (by omega) k, isWord_m (by omega) k⟩
theorem tokI {b : Nat → Nat} {n s k : Nat} (hk : k < 2147483648) : (iN (tokF b n s) = iN k) = (tokF b n s = k) := iN_inj (by have := tok_lt b n s; omega) hk
theorem tokC {b : Nat → Nat} {n s c k : Nat} {M : gM} (h : atC b n M s c) (hk : k < 100) (h11 : k ≠ 11 := by omega) : (M 7 11 = iN k) = (tokF b n s = k) := by
  by_cases t : tokF b n s = 11
  · have hl := nmbF_lt t
    rw [h.2.2.2.2.1 t, t, iN_inj (by omega) (by omega)]
    exact propext ⟨fun e => by omega, fun e => absurd e.symm h11⟩
  · rw [h.2.1 t, tokI (by omega)]
theorem tok3 {b : Nat → Nat} {n s c : Nat} {M : gM} (h : atC b n M s c) (h3 : ¬ tokF b n s ≤ 3) : (3 : Int32) < M 7 11 := by
  have tl := tok_lt b n s
  by_cases t : tokF b n s = 11
  · have hl := nmbF_lt t
    rw [h.2.2.2.2.1 t, show (3 : Int32) = iN 3 from rfl, iN_lt (by omega) (by omega)]
    omega
  · rw [h.2.1 t, show (3 : Int32) = iN 3 from rfl, iN_lt (by omega) (by omega)]
    omega
theorem partM {σ : gS} {b : Nat → Nat} {n s d : Nat} {A : gM} {N : gN} {rec : gS → gM → gN → Option (Int32 × gM × gN)} (h : atM b n A N s d) (t40 : tokF b n s ≠ 40) : b_X12_part_0 rec σ A N = if tokF b n s = 11 then b_X12_part_203 rec (iN (nmbF b n s)) σ A N else if 6 ≤ tokF b n s ∧ tokF b n s ≤ 10 then b_X12_part_203 rec (facts A (tokF b n s - 6)) σ A N else (f_X12_wrong 1 σ A).bind fun q => some (0, q, N) := by
  obtain ⟨_, _, _, _, _, _, w6, w7, w8, w9, w10⟩ := wd_m (σ := σ) h
  unfold b_X12_part_0
  rw [h.2.2.2.2.2, if_neg (by decide), (sg_m h).1, oB, ifB, if_neg t40]
  by_cases t : tokF b n s = 11
  · rw [if_pos t, if_pos ((kind_m h.2.2.2.1).1.mpr t), num_v h.2.2.2.1 t]
  · rw [if_neg t, if_neg (fun q => t ((kind_m h.2.2.2.1).1.mp q)), w6, oB, ifB]
    by_cases t6 : tokF b n s = 6
    · rw [if_pos t6, if_pos (by omega), t6]; rfl
    rw [if_neg t6, w7, oB, ifB]
    by_cases t7 : tokF b n s = 7
    · rw [if_pos t7, if_pos (by omega), t7]; rfl
    rw [if_neg t7, w8, oB, ifB]
    by_cases t8 : tokF b n s = 8
    · rw [if_pos t8, if_pos (by omega), t8]; rfl
    rw [if_neg t8, w9, oB, ifB]
    by_cases t9 : tokF b n s = 9
    · rw [if_pos t9, if_pos (by omega), t9]; rfl
    rw [if_neg t9, w10, oB, ifB]
    by_cases t10 : tokF b n s = 10
    · rw [if_pos t10, if_pos (by omega), t10]; rfl
    rw [if_neg t10, if_neg (by omega)]
theorem sim_part {b : Nat → Nat} {n dep w Dc Dm : Nat} (hn : n ≤ 400) (hd : dep ≤ 5) (hw : 1 ≤ w) (hW : dep < 5 → ∀ s, s ≤ n → Sim b n w (dep + 1) s Dc Dm f_X7_readAll f_X12_whole) : ∀ s, s ≤ n → Sim b n w dep s (Dc + 1) (Dm + 1) f_X7_readPart f_X12_part := by
  intro s hs
  have hp := plcF_le (b := b) hs
  have hq := bhdF_le (b := b) hs
  have cU : ∀ D σ M, f_X7_readPart (D + 1) (iN dep) σ M = b_X7_readPart_0 (f_X7_readAll D) (iN dep) σ M := fun _ _ _ => rfl
  have mU : ∀ E σ A N, f_X12_part (E + 1) σ A N = b_X12_part_0 (f_X12_whole E) σ A N := fun _ _ _ _ => rfl
  by_cases t40 : tokF b n s = 40
  · have st := step_s hs (show tokF b n s ≠ 12 by omega)
    by_cases d5 : dep = 5
    · refine ⟨.inl (3, plcF b n s), ⟨by omega, by omega, hp.2⟩, fun c σ M D hD hc h => ?_, fun σ A N E hE h => ?_⟩
      · obtain ⟨D, rfl⟩ : ∃ m, D = m + 1 := ⟨D - 1, by omega⟩
        obtain ⟨M', q1, q2, q3⟩ := refuse_c (σ := σ) h 3
        refine ⟨M', ?_, q2, fun a j h1 h2 => q3 a j (by omega)⟩
        rw [cU, d5]
        unfold b_X7_readPart_0 b_X7_readPart_113
        rw [h.2.1 (by omega), t40, if_pos (show iN 40 = (40 : Int32) from rfl), if_neg (by decide), show f_X7_refuse 3 σ M = _ from q1]
        simp only [oB, g_b0, if_true]
      · obtain ⟨E, rfl⟩ : ∃ m, E = m + 1 := ⟨E - 1, by omega⟩
        obtain ⟨A', q1, q2, q3, q4⟩ := wrong_m (σ := σ) h 3
        refine ⟨0, A', N, ?_, q2, q3, q4⟩
        rw [mU]
        unfold b_X12_part_0
        rw [h.2.2.2.2.2, if_neg (by decide), (sg_m h).1, oB, ifB, if_pos t40, h.2.2.2.2.1, d5, if_pos (show iN 5 = (5 : Int32) from rfl), q1, oB]
    · obtain ⟨res1, o1, c1, m1⟩ := hW (by omega) (bhdF b n s) hq.2.1
      have mD : ∀ {A : gM} {N : gN}, atM b n A N s dep → atM b n (g_up A 40 50 (iN (dep + 1))) N s (dep + 1) := fun {A} {N} h => ⟨h.1.keep (fun a j h => g_up_ne _ _ (by omega)), by rw [g_up_ne _ _ (by omega)]; exact h.2.1, by rw [g_up_ne _ _ (by omega)]; exact h.2.2.1, by rw [g_up_ne _ _ (by omega)]; exact h.2.2.2.1, g_up_eq _ _ ⟨rfl, rfl⟩, by rw [g_up_ne _ _ (by omega)]; exact h.2.2.2.2.2⟩
      have hd5 : iN dep < (5 : Int32) := by rw [show (5 : Int32) = iN 5 from rfl, iN_lt (by omega) (by omega)]; omega
      have nd5 : ¬ iN dep = (5 : Int32) := by rw [show (5 : Int32) = iN 5 from rfl, iN_inj (by omega) (by omega)]; omega
      cases res1 with
      | inl f =>
        obtain ⟨o1, o2, o3⟩ := o1
        refine ⟨.inl f, ⟨o1, o2, o3⟩, fun c σ M D hD hc h => ?_, fun σ A N E hE h => ?_⟩
        · obtain ⟨D, rfl⟩ : ∃ m, D = m + 1 := ⟨D - 1, by omega⟩
          obtain ⟨M1, q1, q2, q3⟩ := advC (σ := σ) hs h
          obtain ⟨M2, r1, r2, r3⟩ := c1 c σ M1 D (by omega) (by omega) q2
          refine ⟨M2, ?_, r2, fun a j h1 h2 => by rw [r3 a j h1 h2, q3 a j (by omega)]⟩
          rw [cU]
          unfold b_X7_readPart_0 b_X7_readPart_113
          rw [h.2.1 (by omega), t40, if_pos (show iN 40 = (40 : Int32) from rfl), if_pos hd5, q1, oB, eS, r1]
          simp only [oB, if_true, g_b0]
        · obtain ⟨E, rfl⟩ : ∃ m, E = m + 1 := ⟨E - 1, by omega⟩
          obtain ⟨v, A', N', q1, q2, q3, q4⟩ := binM_l (α := Int32 × gM × gN) (rec := f_X12_whole E) hs (mD h) (fun A N h => m1 σ A N E (by omega) h)
          refine ⟨0, g_up A' 40 50 (A' 40 50 - 1), N', ?_, by rw [g_up_ne _ _ (by omega)]; exact q2, by rw [g_up_ne _ _ (by omega)]; exact q3, fun a j h => by rw [g_up_ne _ _ (by omega), q4 a j h, g_up_ne _ _ (by omega)]⟩
          rw [mU]
          unfold b_X12_part_0
          rw [h.2.2.2.2.2, if_neg (by decide), (sg_m h).1, oB, ifB, if_pos t40, h.2.2.2.2.1, if_neg nd5, eS, q1]
          rw [if_pos (show (0 : Int32) < g_up A' 40 50 (A' 40 50 - 1) 40 51 by rw [g_up_ne _ _ (by omega), q2, show (0 : Int32) = iN 0 from rfl, iN_lt (by omega) (by omega)]; omega)]
      | inr r =>
        obtain ⟨o1, o2, o3, o4⟩ := o1
        have hq2 := bhdF_le (b := b) o2
        have hp2 := plcF_le (b := b) o2
        have mB : ∀ {A : gM} {N : gN} {s' d' : Nat}, atM b n A N s' d' → atM b n (g_up A 40 50 (A 40 50 - 1)) N s' (d' - 1) ∨ d' = 0 := fun {A} {N} {s'} {d'} h => by
          by_cases c0 : d' = 0
          · exact Or.inr c0
          · exact Or.inl ⟨h.1.keep (fun a j h => g_up_ne _ _ (by omega)), by rw [g_up_ne _ _ (by omega)]; exact h.2.1, by rw [g_up_ne _ _ (by omega)]; exact h.2.2.1, by rw [g_up_ne _ _ (by omega)]; exact h.2.2.2.1, by rw [g_up_eq _ _ ⟨rfl, rfl⟩, h.2.2.2.2.1]; exact iN_sub (b := 1) (by omega), by rw [g_up_ne _ _ (by omega)]; exact h.2.2.2.2.2⟩
        by_cases t2 : tokF b n r.2 = 41
        · have st2 := step_s o2 (show tokF b n r.2 ≠ 12 by omega)
          refine ⟨.inr (r.1, bhdF b n r.2), ⟨by simp only; omega, st2.2.1, by simp only; omega, o4⟩, fun c σ M D hD hc h => ?_, fun σ A N E hE h => ?_⟩
          · obtain ⟨D, rfl⟩ : ∃ m, D = m + 1 := ⟨D - 1, by omega⟩
            obtain ⟨M1, q1, q2, q3⟩ := advC (σ := σ) hs h
            obtain ⟨M2, r1, r2, r3, r4⟩ := c1 c σ M1 D (by omega) (by omega) q2
            obtain ⟨M3, u1, u2, u3⟩ := advC (σ := σ) o2 r2
            refine ⟨M3, ?_, u2, fun j hj => by rw [u3 _ _ (by omega)]; exact r3 j hj, fun a j h1 h2 => by rw [u3 _ _ (by omega), r4 a j h1 h2, q3 a j (by omega)]⟩
            rw [cU]
            unfold b_X7_readPart_0 b_X7_readPart_113
            rw [h.2.1 (by omega), t40, if_pos (show iN 40 = (40 : Int32) from rfl), if_pos hd5, q1, oB, eS, r1, oB, if_neg (show ¬ (1 : Int32) = 0 by decide), if_pos (show M2 7 11 = 41 from (tokC (k := 41) r2 (by omega)).mpr t2), u1]
            simp only [oB, if_true, g_b1]
          · obtain ⟨E, rfl⟩ : ∃ m, E = m + 1 := ⟨E - 1, by omega⟩
            obtain ⟨v, A', N', q1, q2, q3, q4⟩ := binM_r (α := Int32 × gM × gN) (rec := f_X12_whole E) hs (mD h) (fun A N h => m1 σ A N E (by omega) h)
            rcases mB q3 with hB | hB
            · obtain ⟨A2, N2, u1, u2, u3⟩ := nextM (σ := σ) o2 hB
              rw [facts_keep (A := A) (fun j hj => g_up_ne _ _ (by omega))] at q2
              refine ⟨v, A2, N2, ?_, q2, u2, fun a j h => by rw [u3 a j (by omega), g_up_ne _ _ (by omega), q4 a j h, g_up_ne _ _ (by omega)]⟩
              rw [mU]
              unfold b_X12_part_0
              rw [h.2.2.2.2.2, if_neg (by decide), (sg_m h).1, oB, ifB, if_pos t40, h.2.2.2.2.1, if_neg nd5, eS, q1]
              rw [if_neg (show ¬ (0 : Int32) < g_up A' 40 50 (A' 40 50 - 1) 40 51 by rw [hB.2.2.2.2.2]; decide), (sg_m hB).2.1, oB, ifB, if_pos t2]
              unfold b_X12_part_203
              rw [u1, oB]
            · omega
        · refine ⟨.inl (1, plcF b n r.2), ⟨by omega, by simp only; omega, hp2.2⟩, fun c σ M D hD hc h => ?_, fun σ A N E hE h => ?_⟩
          · obtain ⟨D, rfl⟩ : ∃ m, D = m + 1 := ⟨D - 1, by omega⟩
            obtain ⟨M1, q1, q2, q3⟩ := advC (σ := σ) hs h
            obtain ⟨M2, r1, r2, r3, r4⟩ := c1 c σ M1 D (by omega) (by omega) q2
            obtain ⟨M3, u1, u2, u3⟩ := refuse_c (σ := σ) r2 1
            refine ⟨M3, ?_, u2, fun a j h1 h2 => by rw [u3 _ _ (by omega), r4 a j (by omega) (by omega), q3 a j (by omega)]⟩
            rw [cU]
            unfold b_X7_readPart_0 b_X7_readPart_113
            rw [h.2.1 (by omega), t40, if_pos (show iN 40 = (40 : Int32) from rfl), if_pos hd5, q1, oB, eS, r1, oB, if_neg (show ¬ (1 : Int32) = 0 by decide), if_neg (show ¬ M2 7 11 = 41 from fun q => t2 ((tokC (k := 41) r2 (by omega)).mp q)), show f_X7_refuse 1 σ M2 = _ from u1]
            simp only [oB, if_true, g_b0]
          · obtain ⟨E, rfl⟩ : ∃ m, E = m + 1 := ⟨E - 1, by omega⟩
            obtain ⟨v, A', N', q1, q2, q3, q4⟩ := binM_r (α := Int32 × gM × gN) (rec := f_X12_whole E) hs (mD h) (fun A N h => m1 σ A N E (by omega) h)
            rcases mB q3 with hB | hB
            · obtain ⟨A2, u1, u2, u3, u4⟩ := wrong_m (σ := σ) hB 1
              refine ⟨0, A2, N', ?_, u2, u3, fun a j h => by rw [u4 a j (by omega), g_up_ne _ _ (by omega), q4 a j (by omega), g_up_ne _ _ (by omega)]⟩
              rw [mU]
              unfold b_X12_part_0
              rw [h.2.2.2.2.2, if_neg (by decide), (sg_m h).1, oB, ifB, if_pos t40, h.2.2.2.2.1, if_neg nd5, eS, q1]
              rw [if_neg (show ¬ (0 : Int32) < g_up A' 40 50 (A' 40 50 - 1) 40 51 by rw [hB.2.2.2.2.2]; decide), (sg_m hB).2.1, oB, ifB, if_neg t2, u1, oB]
            · omega
  · by_cases t11 : tokF b n s = 11
    · have st := step_s hs (show tokF b n s ≠ 12 by omega)
      have hlt := nmbF_lt t11
      refine ⟨.inr ([iN (nmbF b n s)], bhdF b n s), ⟨st.1, st.2.1, by simp only [List.length_singleton]; omega, okJ_mono (okJ_atom (fun h => iN_nneg (show nmbF b n s < 2147483648 by omega) (Int32.lt_trans h (by decide)))) hw⟩, fun c σ M D hD hc h => ?_, fun σ A N E hE h => ?_⟩
      · obtain ⟨D, rfl⟩ : ∃ m, D = m + 1 := ⟨D - 1, by omega⟩
        obtain ⟨M1, w1, w2, w3, w4⟩ := write_c (σ := σ) (iN (nmbF b n s)) (by omega) h
        obtain ⟨M2, q1, q2, q3⟩ := advC (σ := σ) hs w2
        refine ⟨M2, ?_, q2, fun j hj => ?_, fun a j h1 h2 => by rw [q3 a j (by omega), w4 a j (by omega) (by omega)]⟩
        · rw [cU]
          unfold b_X7_readPart_0 b_X7_readPart_113
          rw [h.2.2.2.2.1 t11, if_neg (show ¬ iN (1000 + nmbF b n s) = (40 : Int32) by rw [show (40 : Int32) = iN 40 from rfl, iN_inj (by omega) (by omega)]; omega), if_neg (show ¬ iN (1000 + nmbF b n s) < (1000 : Int32) by rw [show (1000 : Int32) = iN 1000 from rfl, iN_lt (by omega) (by omega)]; omega), show iN (1000 + nmbF b n s) - (1000 : Int32) = iN (nmbF b n s) from by rw [show (1000 : Int32) = iN 1000 from rfl, iN_sub (by omega), Nat.add_sub_cancel_left], w1, oB, q1, oB]
        · obtain rfl : j = 0 := by simp only [List.length_singleton] at hj; omega
          rw [q3 _ _ (by omega)]; exact w3
      · obtain ⟨E, rfl⟩ : ∃ m, E = m + 1 := ⟨E - 1, by omega⟩
        obtain ⟨A', N', q1, q2, q3⟩ := nextM (σ := σ) hs h
        refine ⟨iN (nmbF b n s), A', N', ?_, push_num (by omega), q2, fun a j h => q3 a j (by omega)⟩
        rw [mU, partM h t40, if_pos t11]
        unfold b_X12_part_203
        rw [q1, oB]
    · by_cases t6 : 6 ≤ tokF b n s ∧ tokF b n s ≤ 10
      · have st := step_s hs (show tokF b n s ≠ 12 by omega)
        obtain ⟨i, hi⟩ : ∃ i, tokF b n s = 6 + i := ⟨tokF b n s - 6, by omega⟩
        have fc := fact_code i (by omega)
        refine ⟨.inr ([5 - iN (6 + i)], bhdF b n s), ⟨st.1, st.2.1, by simp only [List.length_singleton]; omega, okJ_mono (okJ_atom fc.1) hw⟩, fun c σ M D hD hc h => ?_, fun σ A N E hE h => ?_⟩
        · obtain ⟨D, rfl⟩ : ∃ m, D = m + 1 := ⟨D - 1, by omega⟩
          obtain ⟨M1, w1, w2, w3, w4⟩ := write_c (σ := σ) (5 - iN (6 + i)) (by omega) h
          obtain ⟨M2, q1, q2, q3⟩ := advC (σ := σ) hs w2
          refine ⟨M2, ?_, q2, fun j hj => ?_, fun a j h1 h2 => by rw [q3 a j (by omega), w4 a j (by omega) (by omega)]⟩
          · rw [cU]
            unfold b_X7_readPart_0 b_X7_readPart_113
            rw [h.2.1 (by omega), hi, if_neg (by rw [show (40 : Int32) = iN 40 from rfl, iN_inj (by omega) (by omega)]; omega), if_pos (by rw [show (1000 : Int32) = iN 1000 from rfl, iN_lt (by omega) (by omega)]; omega), if_neg (by rw [show (6 : Int32) = iN 6 from rfl, iN_lt (by omega) (by omega)]; omega), if_neg (by rw [show (10 : Int32) = iN 10 from rfl, iN_lt (by omega) (by omega)]; omega), w1, oB, q1, oB]
          · obtain rfl : j = 0 := by simp only [List.length_singleton] at hj; omega
            rw [q3 _ _ (by omega)]; exact w3
        · obtain ⟨E, rfl⟩ : ∃ m, E = m + 1 := ⟨E - 1, by omega⟩
          obtain ⟨A', N', q1, q2, q3⟩ := nextM (σ := σ) hs h
          refine ⟨facts A i, A', N', ?_, push_fact (by omega), q2, fun a j h => q3 a j (by omega)⟩
          rw [mU, partM h t40, if_neg t11, if_pos t6, show tokF b n s - 6 = i by omega]
          unfold b_X12_part_203
          rw [q1, oB]
      · refine ⟨.inl (1, plcF b n s), ⟨by omega, by simp only; omega, hp.2⟩, fun c σ M D hD hc h => ?_, fun σ A N E hE h => ?_⟩
        · obtain ⟨D, rfl⟩ : ∃ m, D = m + 1 := ⟨D - 1, by omega⟩
          obtain ⟨M', q1, q2, q3⟩ := refuse_c (σ := σ) h 1
          refine ⟨M', ?_, q2, fun a j h1 h2 => q3 a j (by omega)⟩
          have tl := tok_lt b n s
          have fin : b_X7_readPart_107 (f_X7_readAll D) σ M = some (0, M') := by
            unfold b_X7_readPart_107
            rw [show f_X7_refuse 1 σ M = _ from q1]
            simp only [oB, if_true, g_b0]
          rw [cU]
          unfold b_X7_readPart_0
          rw [h.2.1 t11, if_neg (by rw [show (40 : Int32) = iN 40 from rfl, iN_inj (by omega) (by omega)]; omega), if_pos (by rw [show (1000 : Int32) = iN 1000 from rfl, iN_lt (by omega) (by omega)]; omega)]
          by_cases c6 : tokF b n s < 6
          · rw [if_pos (by rw [show (6 : Int32) = iN 6 from rfl, iN_lt (by omega) (by omega)]; omega)]; exact fin
          · rw [if_neg (by rw [show (6 : Int32) = iN 6 from rfl, iN_lt (by omega) (by omega)]; omega), if_pos (by rw [show (10 : Int32) = iN 10 from rfl, iN_lt (by omega) (by omega)]; omega)]; exact fin
        · obtain ⟨E, rfl⟩ : ∃ m, E = m + 1 := ⟨E - 1, by omega⟩
          obtain ⟨A', q1, q2, q3, q4⟩ := wrong_m (σ := σ) h 1
          refine ⟨0, A', N, ?_, q2, q3, q4⟩
          rw [mU, partM h t40, if_neg t11, if_neg t6, q1, oB]
