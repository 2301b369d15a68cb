/-! The start keeps the invariant; the law answers 1. -/
def SF : gS := g_nS TT 39 16 1
theorem SF_hi {a : Nat} (h : 100 ≤ a) : SF.1 a = none := by
  unfold SF TT
  simp (disch := omega) only [nS1_ne, pS1, S0, S1, S2, S3, S4, S5, S6, S7, S8, T0, T1, T2, T3, T4, T5, T6, T7, T8, T9, T10, T11, T12, T13, T14, T15, T16, T17, T18, T19, T20, T21, T22, T23, T24, T25, T26, T27, T28, T29, T30, T31, T32, T33, T34, T35, T36, T37, T38, T39, T40, T41, T42, T43, T44, T45, sX0, sX1, sX3, sX4, sX5, sX7, sX9, g_u0]
theorem SF_lay : g_layL SF := g_layL.of (by decide +kernel)
theorem start_lay : Lay SF 0 0 (fun _ => 0) := by
  refine ⟨SF_lay, ⟨fun p h => by omega, fun p _ h => SF_hi (by omega)⟩, ⟨fun t h => by omega, fun t _ h j h1 h2 => SF_hi (by omega)⟩, ⟨fun t h => ⟨Nat.zero_le _, fun _ => rfl⟩, fun t r _ h => absurd h (Nat.not_lt_zero _), fun t r h _ h2 => SF_hi (by omega)⟩, ⟨fun t h => by omega, fun t _ h m hm => SF_hi (by omega)⟩, ⟨36, 0, by decide +kernel, by decide +kernel, by omega, Or.inl ⟨rfl, rfl⟩, fun m _ _ => SF_hi (by omega)⟩⟩
theorem start_inv {M : gM} (c1 : M 1 11 = iN 30) (c2 : M 1 14 = iM) (c3 : M 40 15 = iN 30) (c4 : M 40 37 = iM) (c5 : ∀ j, j < 60 → M 57 j = iM) (z : ∀ a k, ¬ (a = 1 ∧ k = 11) → ¬ (a = 1 ∧ k = 14) → ¬ (a = 7 ∧ k = 11) → ¬ (a = 12 ∧ k = 12) → ¬ (a = 40 ∧ k = 15) → ¬ (a = 40 ∧ k = 37) → ¬ (a = 57 ∧ k < 60) → M a k = iN 0) : Inv SF M := by
  refine ⟨0, 0, 0, fun _ => 0, fun _ => 0, start_lay, ?_, ?_, ?_, ?_, ?_, ?_, ?_, ?_⟩
  · refine ⟨by omega, ?_, ?_, fun p h => by omega, fun p h => by omega, fun p h => by omega, fun p h => by omega, fun p _ hp => ⟨?_, ?_, fun q hq => ?_, fun n hn => ?_, fun t ht => c5 _ (by omega)⟩, fun a b ha hb => ?_⟩
    · simp (disch := omega) only [z]
    · simp (disch := omega) only [z]
    · simp (disch := omega) only [z]
    · simp (disch := omega) only [z]
    · simp (disch := omega) only [z]
    · simp (disch := omega) only [z]
    · simp (disch := omega) only [z]
  · refine ⟨by omega, rfl, by omega, ?_, ?_, ?_, ?_, ?_, ?_, fun t h => by omega, fun t h => by omega, fun t ht => ⟨?_, fun p hp => Or.inl (c5 _ (by omega))⟩, fun t r _ h => absurd h (Nat.not_lt_zero _), fun t r _ h => absurd h (Nat.not_lt_zero _)⟩
    · simp (disch := omega) only [z]
    · simp (disch := omega) only [z]
    · simp (disch := omega) only [z]
    · simp (disch := omega) only [z]
    · simp (disch := omega) only [z]
    · simp (disch := omega) only [z]
    · simp (disch := omega) only [z]
  · refine ⟨⟨0, by omega, ?_, ?_⟩, ⟨30, by omega, c1, c3⟩, ⟨0, by omega, ?_, ?_⟩, ?_, c2.trans c4.symm⟩
    · simp (disch := omega) only [z]
    · simp (disch := omega) only [z]
    · simp (disch := omega) only [z]
    · simp (disch := omega) only [z]
    · simp (disch := omega) only [z]
  · refine ⟨0, by omega, ?_, ?_, fun k h => by omega⟩
    · simp (disch := omega) only [z]
    · simp (disch := omega) only [z]
  · intro n h; omega
  · refine ⟨0, by omega, ?_, ?_, fun k h => by omega⟩
    · simp (disch := omega) only [z]
    · simp (disch := omega) only [z]
  · refine ⟨⟨0, by omega, ?_, ?_⟩, fun s hs => ⟨0, 0, 0, ?_⟩, fun k hk => ⟨0, by omega, ?_, ?_⟩, Or.inl ?_, ?_, ⟨0, by omega, ?_, ?_, fun k h => by omega⟩, ?_, ?_, ?_, ?_⟩
    · simp (disch := omega) only [z]
    · simp (disch := omega) only [z]
    · simp (disch := omega) only [z]
      simp
    · simp (disch := omega) only [z]
    · simp (disch := omega) only [z]
    · simp (disch := omega) only [z]
    · simp (disch := omega) only [z]
    · simp (disch := omega) only [z]
    · simp (disch := omega) only [z]
    · simp (disch := omega) only [z]
    · simp (disch := omega) only [z]
    · simp (disch := omega) only [z]
    · simp (disch := omega) only [z]
  · refine ⟨fun t h => by omega, fun t _ ht => ⟨?_, ?_⟩⟩
    · simp (disch := omega) only [z]
    · simp (disch := omega) only [z]
theorem law_true {L : Nat} {xs : Nat → Int32} (hL : L ≤ 3584) : ∃ r, b_L_law_0 L xs g_u0.1 g_u0.2.1 g_u0.2.2 = some r ∧ r.1 = 1 := by
  obtain ⟨M1, N1, a1, a2, a3, a4⟩ := i_X11 (g_z g_u0.2.1 1 0) (g_z g_u0.2.2 1 0) (fun a k => by
    by_cases e : a = 1
    · rw [g_z_eq _ _ _ e]; rfl
    · rw [g_z_ne _ _ _ e]; rfl)
  obtain ⟨N2, b1⟩ := i_X12a (g_z M1 40 0) (g_z N1 40 0)
  obtain ⟨M2, d1, d2, d3⟩ := l_listM (N := N2) 60 0 g_FU (by omega) (by unfold g_FU; omega) (mk12 (g_z M1 40 0))
  have hb : f_X12_init (g_nS S8 40 12 0) (g_z M1 40 0) (g_z N1 40 0) = some (TT, M2, N2) := b1.trans d1
  have hI : Inv SF (g_z M2 39 0) := by
    have f1 : ∀ a k, ¬ (a = 40 ∧ k = 15) → ¬ (a = 40 ∧ k = 37) → ¬ (a = 57 ∧ k < 60) → (g_z M2 39 0) a k = M1 a k ∨ (g_z M2 39 0) a k = iN 0 := fun a k h1 h2 h3 => by
      refine z0 ?_
      rw [d3 a k (by omega)]
      rcases mk12_z (M := g_z M1 40 0) (a := a) (k := k) h1 h2 with h | h
      · rw [h]; exact z0 (Or.inl rfl)
      · exact Or.inr h
    have r1 : ∀ k, (g_z M2 39 0) 1 k = M1 1 k := fun k => by
      rw [g_z_ne _ _ _ (by omega), d3 _ _ (by omega)]
      unfold mk12
      simp (disch := omega) only [li_0, li_1, li_2, li_3, li_4, li_5, li_6, li_7, li_8, li_9, li_10, li_11, li_12, li_13, li_14, li_15, li_16, li_18, li_19, li_20, li_24, li_28, li_29, li_30, li_31, li_32, li_36, li_40, li_41, li_42, li_43, li_45, li_48, li_49, li_50, li_56, li_57, li_59, li_60, li_61, li_62, li_63, li_64, li_97, li_99, li_100, li_120, li_121, li_122, li_255, li_270, li_300, li_400, li_500, li_540, li_1000, li_1024, li_1440, li_9999, li_11264, li_32768, li_268435456, li_1073741824, li_m, li_o, iN_add, iN_mul, iN_lt, iN_in, iN_cl, iN_inj, iM_ne, iM_ne', iN_or, iN_xor, iN_bd, sh31n, iN_shl2, iN_shr2, iN_bit2, Nat.one_mul, oB, iff_t, iff_f, if_true, if_false, g_up_ne, g_up_eq, g_z_ne, g_z_eq]
    refine start_inv ?_ ?_ ?_ ?_ (fun j hj => ?_) (fun a k h1 h2 h3 h4 h5 h6 h7 => ?_)
    · rw [r1]; exact a2
    · rw [r1]; exact a3
    · rw [g_z_ne _ _ _ (by omega), d3 _ _ (by omega)]; exact mk12_15 _
    · rw [g_z_ne _ _ _ (by omega), d3 _ _ (by omega)]; exact mk12_37 _
    · rw [g_z_ne _ _ _ (by omega)]; exact d2 j (by omega) hj
    · rcases f1 a k h5 h6 h7 with h | h
      · rw [h]; exact a4 a k h1 h2 h3 h4
      · exact h
  obtain ⟨r, e1, e2⟩ := law_loop (L := L) (xs := xs) hL 512 0 513 (by omega) (by omega) SF (g_z M2 39 0) (g_z N2 39 0) hI
  refine ⟨r, ?_, e2⟩
  unfold b_L_law_0
  rw [if_pos (show g_fr g_u0.1 1 = true by decide +kernel), show f_X11_init (g_nS g_u0.1 1 11 0) (g_z g_u0.2.1 1 0) (g_z g_u0.2.2 1 0) = some (S8, M1, N1) from a1, oB, if_pos (show g_fr S8 40 = true by decide +kernel), hb, oB, if_pos (show g_fr TT 39 = true by decide +kernel), if_pos (show g_layLB (g_nS TT 39 16 1) = true by decide +kernel)]
  unfold b_L_law_20
  exact e1
