/-! Makers: town, room. -/
theorem fr_iff {σ : gS} {a : Nat} : (g_fr σ a = true) = (a ≠ 0 ∧ a < 1000000000 ∧ σ.1 a = none) := by
  unfold g_fr g_EXT
  apply propext
  simp [and_assoc]
theorem is_iff {σ : gS} {a kd : Nat} : (g_is σ a kd = true) = ∃ n, σ.1 a = some (kd, n) := by
  unfold g_is
  apply propext
  cases h : σ.1 a with
  | none => simp
  | some q =>
    obtain ⟨k, n⟩ := q
    simp
theorem ex_k {kd m : Nat} : (∃ n, (some (kd, m) : Option (Nat × Nat)) = some (kd, n)) = True := by
  apply propext; exact ⟨fun _ => trivial, fun _ => ⟨m, rfl⟩⟩
/-- the cells of a new town -/
def mkS1 (σ : gS) (t : Nat) : gS := g_nS σ (110 + t) 10 0
def mkS2 (σ : gS) (t : Nat) : gS := g_pS (g_nS (g_pS (g_nS (mkS1 σ t) (120 + t) 18 10) (110 + t) 3 (120 + t)) (130 + t) 14 10) (110 + t) 4 (130 + t)
def mkS3 (σ : gS) (t : Nat) : gS := g_pS (g_nS (g_pS (g_nS (g_pS (g_nS (g_pS (g_nS (g_pS (g_nS (g_nS (mkS2 σ t) (140 + t) 2 0) (150 + t) 14 12) (140 + t) 0 (150 + t)) (160 + t) 14 36) (140 + t) 1 (160 + t)) (170 + t) 14 5) (140 + t) 2 (170 + t)) (180 + t) 14 20) (140 + t) 3 (180 + t)) (190 + t) 14 0) (140 + t) 4 (190 + t)
def mkS4 (σ : gS) (t : Nat) : gS := g_pS (mkS3 σ t) (110 + t) 5 (140 + t)
def mkS (σ : gS) (t : Nat) : gS := g_pS (mkS4 σ t) 4 t (110 + t)
theorem lay_town {σ : gS} {P T : Nat} {R : Nat → Nat} (h : Lay σ P T R) (h6 : T < 6) (h10 : P ≤ 10) : Lay (mkS σ T) P (T + 1) R := by
  obtain ⟨h1, h2, h3, h4, h5, h7⟩ := h
  refine ⟨?_, h2.keep h10 (fun a _ _ => ?_) (fun k => ?_), ⟨fun t ht => ?_, fun t g1 g2 j g3 g4 => ?_⟩, ⟨fun t ht => ⟨(h4.1 t ht).1, fun hh => (h4.1 t ht).2 (by omega)⟩, fun t r ht hr => ?_, fun t r ht hr hr2 => ?_⟩, ⟨fun t ht => ?_, fun t g1 g2 m g3 => ?_⟩, h7.keep (fun a _ => ?_) ?_⟩
  · unfold mkS mkS4 mkS3 mkS2 mkS1
    repeat (first | exact h1 | apply layL_pS _ (by omega) | apply layL_nS _ (by omega))
  · unfold mkS mkS4 mkS3 mkS2 mkS1
    simp (disch := omega) only [pS1, nS1_ne]
  · unfold mkS mkS4 mkS3 mkS2 mkS1
    simp (disch := omega) only [pS2_ne, nS2_ne]
  · by_cases he : t = T
    · subst he
      unfold lyTt lyCt mkS mkS4 mkS3 mkS2 mkS1
      simp (disch := omega) only [pS1, nS1_ne, nS1_eq, pS2_ne, pS2_eq, nS2_ne, and_self]
    · have := h3.1 t (by omega)
      unfold lyTt lyCt mkS mkS4 mkS3 mkS2 mkS1 at *
      simp (disch := omega) only [pS1, nS1_ne, nS1_eq, pS2_ne, pS2_eq, nS2_ne]
      exact this
  · have := h3.2 t (by omega) g2 j g3 g4
    unfold mkS mkS4 mkS3 mkS2 mkS1
    simp (disch := omega) only [pS1, nS1_ne]
    exact this
  · have := h4.2.1 t r ht hr
    have h9 := h4.1 t ht
    unfold mkS mkS4 mkS3 mkS2 mkS1
    simp (disch := omega) only [pS1, nS1_ne, nS1_eq, pS2_ne, pS2_eq, nS2_ne]
    exact this
  · have := h4.2.2 t r ht hr hr2
    unfold mkS mkS4 mkS3 mkS2 mkS1
    simp (disch := omega) only [pS1, nS1_ne]
    exact this
  · by_cases he : t = T
    · subst he
      refine ⟨190 + t, 0, ?_, ?_, by omega, Or.inl ⟨rfl, rfl⟩, fun m g1 g2 => ?_⟩
      · unfold mkS mkS4 mkS3 mkS2 mkS1
        simp (disch := omega) only [pS2_ne, pS2_eq, nS2_ne]
      · unfold mkS mkS4 mkS3 mkS2 mkS1
        simp (disch := omega) only [pS1, nS1_ne, nS1_eq]
      · have := h5.2 t (by omega) h6 m g2
        unfold mkS mkS4 mkS3 mkS2 mkS1
        simp (disch := omega) only [pS1, nS1_ne]
        exact this
    · obtain ⟨a, n, g1, g2, g3, g4, g5⟩ := h5.1 t (by omega)
      refine ⟨a, n, ?_, ?_, g3, g4, fun m g6 g7 => ?_⟩
      · unfold mkS mkS4 mkS3 mkS2 mkS1
        simp (disch := omega) only [pS2_ne, nS2_ne]
        exact g1
      · unfold mkS mkS4 mkS3 mkS2 mkS1
        simp (disch := omega) only [pS1, nS1_ne]
        exact g2
      · have := g5 m g6 g7
        unfold mkS mkS4 mkS3 mkS2 mkS1
        simp (disch := omega) only [pS1, nS1_ne]
        exact this
  · have := h5.2 t (by omega) g2 m g3
    unfold mkS mkS4 mkS3 mkS2 mkS1
    simp (disch := omega) only [pS1, nS1_ne]
    exact this
  · unfold mkS mkS4 mkS3 mkS2 mkS1
    simp (disch := omega) only [pS1, nS1_ne]
  · unfold mkS mkS4 mkS3 mkS2 mkS1
    simp (disch := omega) only [pS2_ne, nS2_ne]
theorem l_listInit {σ : gS} {N : gN} {t : Nat} (i1 : σ.1 (110 + t) = some (10, 0)) (i2 : σ.2 (110 + t) 4 = 130 + t) (i3 : σ.1 (130 + t) = some (14, 10)) : ∀ k i n, i + k = 10 → k < n → ∀ M : gM, ∃ M', l_X10_init_55 n (110 + t) (iN i) σ M N = some (σ, M', N) ∧ (∀ j, i ≤ j → j < 10 → M' (130 + t) j = iM) ∧ ∀ a j, ¬ (a = 130 + t ∧ i ≤ j ∧ j < 10) → M' a j = M a j := by
  refine up_ind (fun n M => ?_) (fun i n hi ih M => ?_)
  · rw [l_X10_init_55]
    simp (disch := omega) only [li_0, li_1, li_2, li_3, li_4, li_5, li_6, li_7, li_8, li_9, li_10, li_11, li_12, li_13, li_14, li_15, li_16, li_18, li_19, li_20, li_24, li_28, li_29, li_30, li_31, li_32, li_36, li_40, li_41, li_42, li_43, li_45, li_48, li_49, li_50, li_56, li_57, li_59, li_60, li_61, li_62, li_63, li_64, li_97, li_99, li_100, li_120, li_121, li_122, li_255, li_270, li_300, li_400, li_500, li_540, li_1000, li_1024, li_1440, li_9999, li_11264, li_32768, li_268435456, li_1073741824, li_m, li_o, iN_add, iN_mul, iN_lt, iN_in, iN_cl, iN_inj, iM_ne, iM_ne', iN_or, iN_xor, iN_bd, sh31n, iN_shl2, iN_shr2, iN_bit2, Nat.one_mul, oB, iff_t, iff_f, if_true, if_false, g_up_ne, g_up_eq, g_z_ne, g_z_eq]
    exact ⟨M, rfl, fun j h1 h2 => by omega, fun a j _ => rfl⟩
  · rw [l_X10_init_55]
    unfold b_X10_init_70
    simp (disch := omega) only [li_0, li_1, li_2, li_3, li_4, li_5, li_6, li_7, li_8, li_9, li_10, li_11, li_12, li_13, li_14, li_15, li_16, li_18, li_19, li_20, li_24, li_28, li_29, li_30, li_31, li_32, li_36, li_40, li_41, li_42, li_43, li_45, li_48, li_49, li_50, li_56, li_57, li_59, li_60, li_61, li_62, li_63, li_64, li_97, li_99, li_100, li_120, li_121, li_122, li_255, li_270, li_300, li_400, li_500, li_540, li_1000, li_1024, li_1440, li_9999, li_11264, li_32768, li_268435456, li_1073741824, li_m, li_o, iN_add, iN_mul, iN_lt, iN_in, iN_cl, iN_inj, iM_ne, iM_ne', iN_or, iN_xor, iN_bd, sh31n, iN_shl2, iN_shr2, iN_bit2, Nat.one_mul, oB, iff_t, iff_f, if_true, if_false, g_up_ne, g_up_eq, g_z_ne, g_z_eq, is_of i1, i2, is_of i3, ln_of i3]
    obtain ⟨M', h1, h2, h3⟩ := ih (g_up M (130 + t) i iM)
    refine ⟨M', h1, fun j h4 h5 => ?_, fun a j h4 => ?_⟩
    · by_cases hj : j = i
      · rw [h3 _ _ (by omega)]; simp (disch := omega) only [li_0, li_1, li_2, li_3, li_4, li_5, li_6, li_7, li_8, li_9, li_10, li_11, li_12, li_13, li_14, li_15, li_16, li_18, li_19, li_20, li_24, li_28, li_29, li_30, li_31, li_32, li_36, li_40, li_41, li_42, li_43, li_45, li_48, li_49, li_50, li_56, li_57, li_59, li_60, li_61, li_62, li_63, li_64, li_97, li_99, li_100, li_120, li_121, li_122, li_255, li_270, li_300, li_400, li_500, li_540, li_1000, li_1024, li_1440, li_9999, li_11264, li_32768, li_268435456, li_1073741824, li_m, li_o, iN_add, iN_mul, iN_lt, iN_in, iN_cl, iN_inj, iM_ne, iM_ne', iN_or, iN_xor, iN_bd, sh31n, iN_shl2, iN_shr2, iN_bit2, Nat.one_mul, oB, iff_t, iff_f, if_true, if_false, g_up_ne, g_up_eq, g_z_ne, g_z_eq]
      · exact h2 j (by omega) h5
    · rw [h3 _ _ (by omega)]; simp (disch := omega) only [li_0, li_1, li_2, li_3, li_4, li_5, li_6, li_7, li_8, li_9, li_10, li_11, li_12, li_13, li_14, li_15, li_16, li_18, li_19, li_20, li_24, li_28, li_29, li_30, li_31, li_32, li_36, li_40, li_41, li_42, li_43, li_45, li_48, li_49, li_50, li_56, li_57, li_59, li_60, li_61, li_62, li_63, li_64, li_97, li_99, li_100, li_120, li_121, li_122, li_255, li_270, li_300, li_400, li_500, li_540, li_1000, li_1024, li_1440, li_9999, li_11264, li_32768, li_268435456, li_1073741824, li_m, li_o, iN_add, iN_mul, iN_lt, iN_in, iN_cl, iN_inj, iM_ne, iM_ne', iN_or, iN_xor, iN_bd, sh31n, iN_shl2, iN_shr2, iN_bit2, Nat.one_mul, oB, iff_t, iff_f, if_true, if_false, g_up_ne, g_up_eq, g_z_ne, g_z_eq]
theorem c_contract {σ : gS} {M : gM} {N : gN} {t : Nat} (f1 : σ.1 (150 + t) = none) (f2 : σ.1 (160 + t) = none) (f3 : σ.1 (170 + t) = none) (f4 : σ.1 (180 + t) = none) (f5 : σ.1 (190 + t) = none) (f6 : σ.1 (140 + t) = some (2, 0)) (ht : t < 6) : ∃ M' N', f_X2_init (140 + t) σ M N = some (g_pS (g_nS (g_pS (g_nS (g_pS (g_nS (g_pS (g_nS (g_pS (g_nS σ (150 + t) 14 12) (140 + t) 0 (150 + t)) (160 + t) 14 36) (140 + t) 1 (160 + t)) (170 + t) 14 5) (140 + t) 2 (170 + t)) (180 + t) 14 20) (140 + t) 3 (180 + t)) (190 + t) 14 0) (140 + t) 4 (190 + t), M', N') ∧ M' (140 + t) 5 = iN 0 ∧ ∀ a j, ¬ (140 ≤ a ∧ a < 200 ∧ a % 10 = t) → M' a j = M a j := by
  unfold f_X2_init b_X2_init_0 b_X2_init_12 b_X2_init_20 b_X2_init_27 b_X2_init_35 b_X2_init_42
  have e1 : 140 + t + 10 = 150 + t := by omega
  have e2 : 140 + t + 20 = 160 + t := by omega
  have e3 : 140 + t + 30 = 170 + t := by omega
  have e4 : 140 + t + 40 = 180 + t := by omega
  have e5 : 140 + t + 50 = 190 + t := by omega
  rw [e1, e2, e3, e4, e5]
  simp (disch := omega) only [li_0, li_1, li_2, li_3, li_4, li_5, li_6, li_7, li_8, li_9, li_10, li_11, li_12, li_13, li_14, li_15, li_16, li_18, li_19, li_20, li_24, li_28, li_29, li_30, li_31, li_32, li_36, li_40, li_41, li_42, li_43, li_45, li_48, li_49, li_50, li_56, li_57, li_59, li_60, li_61, li_62, li_63, li_64, li_97, li_99, li_100, li_120, li_121, li_122, li_255, li_270, li_300, li_400, li_500, li_540, li_1000, li_1024, li_1440, li_9999, li_11264, li_32768, li_268435456, li_1073741824, li_m, li_o, iN_add, iN_mul, iN_lt, iN_in, iN_cl, iN_inj, iM_ne, iM_ne', iN_or, iN_xor, iN_bd, sh31n, iN_shl2, iN_shr2, iN_bit2, Nat.one_mul, oB, iff_t, iff_f, if_true, if_false, g_up_ne, g_up_eq, g_z_ne, g_z_eq, fr_iff, is_iff, pS1, nS1_ne, nS1_eq, f1, f2, f3, f4, f5, f6, ex_k, and_true]
  refine ⟨_, _, rfl, ?_, fun a j h1 => ?_⟩
  · simp (disch := omega) only [li_0, li_1, li_2, li_3, li_4, li_5, li_6, li_7, li_8, li_9, li_10, li_11, li_12, li_13, li_14, li_15, li_16, li_18, li_19, li_20, li_24, li_28, li_29, li_30, li_31, li_32, li_36, li_40, li_41, li_42, li_43, li_45, li_48, li_49, li_50, li_56, li_57, li_59, li_60, li_61, li_62, li_63, li_64, li_97, li_99, li_100, li_120, li_121, li_122, li_255, li_270, li_300, li_400, li_500, li_540, li_1000, li_1024, li_1440, li_9999, li_11264, li_32768, li_268435456, li_1073741824, li_m, li_o, iN_add, iN_mul, iN_lt, iN_in, iN_cl, iN_inj, iM_ne, iM_ne', iN_or, iN_xor, iN_bd, sh31n, iN_shl2, iN_shr2, iN_bit2, Nat.one_mul, oB, iff_t, iff_f, if_true, if_false, g_up_ne, g_up_eq, g_z_ne, g_z_eq]
  · simp (disch := omega) only [li_0, li_1, li_2, li_3, li_4, li_5, li_6, li_7, li_8, li_9, li_10, li_11, li_12, li_13, li_14, li_15, li_16, li_18, li_19, li_20, li_24, li_28, li_29, li_30, li_31, li_32, li_36, li_40, li_41, li_42, li_43, li_45, li_48, li_49, li_50, li_56, li_57, li_59, li_60, li_61, li_62, li_63, li_64, li_97, li_99, li_100, li_120, li_121, li_122, li_255, li_270, li_300, li_400, li_500, li_540, li_1000, li_1024, li_1440, li_9999, li_11264, li_32768, li_268435456, li_1073741824, li_m, li_o, iN_add, iN_mul, iN_lt, iN_in, iN_cl, iN_inj, iM_ne, iM_ne', iN_or, iN_xor, iN_bd, sh31n, iN_shl2, iN_shr2, iN_bit2, Nat.one_mul, oB, iff_t, iff_f, if_true, if_false, g_up_ne, g_up_eq, g_z_ne, g_z_eq]
theorem c_town {σ : gS} {M : gM} {N : gN} {T k K : Nat} (hT : T < 6) (h1 : M 1 8 = iN T) (h2 : M 1 9 = iN K) (h3 : M 33 0 = iN 0) (hl : g_layL σ) (hfr : ∀ j, 11 ≤ j → j ≤ 19 → σ.1 (10 * j + T) = none) (hk : 1 ≤ k) (hk5 : k ≤ 5) (hK : K ≤ 100) :
    ∃ M1 N1, f_X11_town (iN k) σ M N = some (iN T, mkS σ T, M1, N1) ∧ M1 1 8 = iN (T + 1) ∧ M1 1 9 = iN (K + k) ∧ M1 (110 + T) 0 = iN T ∧ M1 (110 + T) 1 = iN k ∧ M1 (110 + T) 2 = iN K ∧ M1 (110 + T) 6 = iN 0 ∧ M1 (140 + T) 5 = iN 0 ∧ (∀ p, p < 10 → M1 (130 + T) p = iM) ∧ ∀ a j, ¬ (a = 1 ∧ (j = 8 ∨ j = 9)) → ¬ (110 ≤ a ∧ a < 200 ∧ a % 10 = T) → M1 a j = M a j := by
  have f1 := hfr 11 (by omega) (by omega)
  have f2 := hfr 12 (by omega) (by omega)
  have f3 := hfr 13 (by omega) (by omega)
  have f4 := hfr 14 (by omega) (by omega)
  have f5 := hfr 15 (by omega) (by omega)
  have f6 := hfr 16 (by omega) (by omega)
  have f7 := hfr 17 (by omega) (by omega)
  have f8 := hfr 18 (by omega) (by omega)
  have f9 := hfr 19 (by omega) (by omega)
  simp only [Nat.reduceMul] at f1 f2 f3 f4 f5 f6 f7 f8 f9
  have l1 : g_layL (mkS1 σ T) := layL_nS hl (by omega)
  have l4 : g_layL (mkS4 σ T) := by
    unfold mkS4 mkS3 mkS2
    repeat (first | exact l1 | apply layL_pS _ (by omega) | apply layL_nS _ (by omega))
  have l5 : g_layL (mkS σ T) := layL_pS l4 (by omega)
  obtain ⟨Mc, Nc, c1, c2, c3⟩ := c_contract (σ := g_nS (mkS2 σ T) (140 + T) 2 0) (t := T) (M := g_z (g_z (g_z (g_z M (110 + T) (iN 0)) (120 + T) (iN 0)) (130 + T) (iN 0)) (140 + T) (iN 0)) (N := g_z (g_z (g_z (g_z N (110 + T) 0) (120 + T) 0) (130 + T) 0) (140 + T) 0)
    (by unfold mkS2 mkS1; simp (disch := omega) only [pS1, nS1_ne]; exact f5) (by unfold mkS2 mkS1; simp (disch := omega) only [pS1, nS1_ne]; exact f6) (by unfold mkS2 mkS1; simp (disch := omega) only [pS1, nS1_ne]; exact f7) (by unfold mkS2 mkS1; simp (disch := omega) only [pS1, nS1_ne]; exact f8) (by unfold mkS2 mkS1; simp (disch := omega) only [pS1, nS1_ne]; exact f9) (nS1_eq rfl) hT
  obtain ⟨Ml, m1, m2, m3⟩ := l_listInit (σ := mkS4 σ T) (t := T) (N := Nc) (by unfold mkS4 mkS3 mkS2 mkS1; simp (disch := omega) only [pS1, nS1_ne, nS1_eq]) (by unfold mkS4 mkS3 mkS2 mkS1; simp (disch := omega) only [pS2_ne, pS2_eq, nS2_ne]) (by unfold mkS4 mkS3 mkS2 mkS1; simp (disch := omega) only [pS1, nS1_ne, nS1_eq]) 10 0 g_FU (by omega) (by unfold g_FU; omega) (g_up (g_up (g_up (g_up Mc (110 + T) 6 (iN 0)) (110 + T) 0 (iN T)) (110 + T) 1 (iN k)) (110 + T) 2 (iN K))
  refine ⟨(g_up (g_up Ml 1 9 (iN (K + k))) 1 8 (iN (T + 1))), Nc, ?_, ?_, ?_, ?_, ?_, ?_, ?_, ?_, fun p hp => ?_, fun a j g1 g2 => ?_⟩
  · have e1 : 110 + T + 10 = 120 + T := by omega
    have e2 : 110 + T + 20 = 130 + T := by omega
    have e3 : 110 + T + 30 = 140 + T := by omega
    have c1 : f_X2_init (140 + T) (g_nS (mkS2 σ T) (140 + T) 2 0) (g_z (g_z (g_z (g_z M (110 + T) (iN 0)) (120 + T) (iN 0)) (130 + T) (iN 0)) (140 + T) (iN 0)) (g_z (g_z (g_z (g_z N (110 + T) 0) (120 + T) 0) (130 + T) 0) (140 + T) 0) = some (mkS3 σ T, Mc, Nc) := c1
    have n1 : (mkS3 σ T).1 (110 + T) = some (10, 0) := by unfold mkS3 mkS2 mkS1; simp (disch := omega) only [pS1, nS1_ne, nS1_eq]
    have n2 : (mkS3 σ T).1 (140 + T) = some (2, 0) := by unfold mkS3 mkS2 mkS1; simp (disch := omega) only [pS1, nS1_ne, nS1_eq]
    have n3 : (mkS4 σ T).1 (110 + T) = some (10, 0) := n1
    have n4 : (mkS4 σ T).1 (130 + T) = some (14, 10) := by unfold mkS4 mkS3 mkS2 mkS1; simp (disch := omega) only [pS1, nS1_ne, nS1_eq]
    have n5 : (mkS4 σ T).2 (110 + T) 4 = 130 + T := by unfold mkS4 mkS3 mkS2 mkS1; simp (disch := omega) only [pS2_ne, pS2_eq, nS2_ne]
    have k1 : Ml 1 8 = iN T := by rw [m3 _ _ (by omega)]; simp (disch := omega) only [li_0, li_1, li_2, li_3, li_4, li_5, li_6, li_7, li_8, li_9, li_10, li_11, li_12, li_13, li_14, li_15, li_16, li_18, li_19, li_20, li_24, li_28, li_29, li_30, li_31, li_32, li_36, li_40, li_41, li_42, li_43, li_45, li_48, li_49, li_50, li_56, li_57, li_59, li_60, li_61, li_62, li_63, li_64, li_97, li_99, li_100, li_120, li_121, li_122, li_255, li_270, li_300, li_400, li_500, li_540, li_1000, li_1024, li_1440, li_9999, li_11264, li_32768, li_268435456, li_1073741824, li_m, li_o, iN_add, iN_mul, iN_lt, iN_in, iN_cl, iN_inj, iM_ne, iM_ne', iN_or, iN_xor, iN_bd, sh31n, iN_shl2, iN_shr2, iN_bit2, Nat.one_mul, oB, iff_t, iff_f, if_true, if_false, g_up_ne, g_up_eq, g_z_ne, g_z_eq, c3, h1]
    have k2 : Ml 1 9 = iN K := by rw [m3 _ _ (by omega)]; simp (disch := omega) only [li_0, li_1, li_2, li_3, li_4, li_5, li_6, li_7, li_8, li_9, li_10, li_11, li_12, li_13, li_14, li_15, li_16, li_18, li_19, li_20, li_24, li_28, li_29, li_30, li_31, li_32, li_36, li_40, li_41, li_42, li_43, li_45, li_48, li_49, li_50, li_56, li_57, li_59, li_60, li_61, li_62, li_63, li_64, li_97, li_99, li_100, li_120, li_121, li_122, li_255, li_270, li_300, li_400, li_500, li_540, li_1000, li_1024, li_1440, li_9999, li_11264, li_32768, li_268435456, li_1073741824, li_m, li_o, iN_add, iN_mul, iN_lt, iN_in, iN_cl, iN_inj, iM_ne, iM_ne', iN_or, iN_xor, iN_bd, sh31n, iN_shl2, iN_shr2, iN_bit2, Nat.one_mul, oB, iff_t, iff_f, if_true, if_false, g_up_ne, g_up_eq, g_z_ne, g_z_eq, c3, h2]
    have i0 : (mkS1 σ T).1 (110 + T) = some (10, 0) := nS1_eq rfl
    have i1 : (mkS1 σ T).1 (120 + T) = none := by unfold mkS1; rw [nS1_ne (by omega)]; exact f2
    have i2 : (mkS1 σ T).1 (130 + T) = none := by unfold mkS1; rw [nS1_ne (by omega)]; exact f3
    have i3 : (mkS1 σ T).1 (140 + T) = none := by unfold mkS1; rw [nS1_ne (by omega)]; exact f4
    have init : f_X10_init (110 + T) (iN T) (iN k) (iN K) (mkS1 σ T) (g_z M (110 + T) (iN 0)) (g_z N (110 + T) 0) = some (mkS4 σ T, Ml, Nc) := by
      unfold f_X10_init b_X10_init_0
      rw [e1]
      simp (disch := omega) only [li_0, li_1, li_2, li_3, li_4, li_5, li_6, li_7, li_8, li_9, li_10, li_11, li_12, li_13, li_14, li_15, li_16, li_18, li_19, li_20, li_24, li_28, li_29, li_30, li_31, li_32, li_36, li_40, li_41, li_42, li_43, li_45, li_48, li_49, li_50, li_56, li_57, li_59, li_60, li_61, li_62, li_63, li_64, li_97, li_99, li_100, li_120, li_121, li_122, li_255, li_270, li_300, li_400, li_500, li_540, li_1000, li_1024, li_1440, li_9999, li_11264, li_32768, li_268435456, li_1073741824, li_m, li_o, iN_add, iN_mul, iN_lt, iN_in, iN_cl, iN_inj, iM_ne, iM_ne', iN_or, iN_xor, iN_bd, sh31n, iN_shl2, iN_shr2, iN_bit2, Nat.one_mul, oB, iff_t, iff_f, if_true, if_false, g_up_ne, g_up_eq, g_z_ne, g_z_eq, is_of i0, is_of (show (g_nS (mkS1 σ T) (120 + T) 18 10).1 (110 + T) = some (10, 0) by rw [nS1_ne (by omega)]; exact i0), fr_of (σ := mkS1 σ T) (a := 120 + T) (by omega) (by omega) i1]
      unfold b_X10_init_13
      rw [e2]
      simp (disch := omega) only [li_0, li_1, li_2, li_3, li_4, li_5, li_6, li_7, li_8, li_9, li_10, li_11, li_12, li_13, li_14, li_15, li_16, li_18, li_19, li_20, li_24, li_28, li_29, li_30, li_31, li_32, li_36, li_40, li_41, li_42, li_43, li_45, li_48, li_49, li_50, li_56, li_57, li_59, li_60, li_61, li_62, li_63, li_64, li_97, li_99, li_100, li_120, li_121, li_122, li_255, li_270, li_300, li_400, li_500, li_540, li_1000, li_1024, li_1440, li_9999, li_11264, li_32768, li_268435456, li_1073741824, li_m, li_o, iN_add, iN_mul, iN_lt, iN_in, iN_cl, iN_inj, iM_ne, iM_ne', iN_or, iN_xor, iN_bd, sh31n, iN_shl2, iN_shr2, iN_bit2, Nat.one_mul, oB, iff_t, iff_f, if_true, if_false, g_up_ne, g_up_eq, g_z_ne, g_z_eq, is_of (show (g_nS (g_pS (g_nS (mkS1 σ T) (120 + T) 18 10) (110 + T) 3 (120 + T)) (130 + T) 14 10).1 (110 + T) = some (10, 0) by rw [nS1_ne (by omega), pS1, nS1_ne (by omega)]; exact i0), fr_of (σ := g_pS (g_nS (mkS1 σ T) (120 + T) 18 10) (110 + T) 3 (120 + T)) (a := 130 + T) (by omega) (by omega) (by rw [pS1, nS1_ne (by omega)]; exact i2)]
      rw [show g_pS (g_nS (g_pS (g_nS (mkS1 σ T) (120 + T) 18 10) (110 + T) 3 (120 + T)) (130 + T) 14 10) (110 + T) 4 (130 + T) = mkS2 σ T from rfl]
      unfold b_X10_init_21
      rw [e3]
      simp (disch := omega) only [li_0, li_1, li_2, li_3, li_4, li_5, li_6, li_7, li_8, li_9, li_10, li_11, li_12, li_13, li_14, li_15, li_16, li_18, li_19, li_20, li_24, li_28, li_29, li_30, li_31, li_32, li_36, li_40, li_41, li_42, li_43, li_45, li_48, li_49, li_50, li_56, li_57, li_59, li_60, li_61, li_62, li_63, li_64, li_97, li_99, li_100, li_120, li_121, li_122, li_255, li_270, li_300, li_400, li_500, li_540, li_1000, li_1024, li_1440, li_9999, li_11264, li_32768, li_268435456, li_1073741824, li_m, li_o, iN_add, iN_mul, iN_lt, iN_in, iN_cl, iN_inj, iM_ne, iM_ne', iN_or, iN_xor, iN_bd, sh31n, iN_shl2, iN_shr2, iN_bit2, Nat.one_mul, oB, iff_t, iff_f, if_true, if_false, g_up_ne, g_up_eq, g_z_ne, g_z_eq, fr_of (σ := mkS2 σ T) (a := 140 + T) (by omega) (by omega) (by unfold mkS2; rw [pS1, nS1_ne (by omega), pS1, nS1_ne (by omega)]; exact i3)]
      rw [c1]
      simp (disch := omega) only [li_0, li_1, li_2, li_3, li_4, li_5, li_6, li_7, li_8, li_9, li_10, li_11, li_12, li_13, li_14, li_15, li_16, li_18, li_19, li_20, li_24, li_28, li_29, li_30, li_31, li_32, li_36, li_40, li_41, li_42, li_43, li_45, li_48, li_49, li_50, li_56, li_57, li_59, li_60, li_61, li_62, li_63, li_64, li_97, li_99, li_100, li_120, li_121, li_122, li_255, li_270, li_300, li_400, li_500, li_540, li_1000, li_1024, li_1440, li_9999, li_11264, li_32768, li_268435456, li_1073741824, li_m, li_o, iN_add, iN_mul, iN_lt, iN_in, iN_cl, iN_inj, iM_ne, iM_ne', iN_or, iN_xor, iN_bd, sh31n, iN_shl2, iN_shr2, iN_bit2, Nat.one_mul, oB, iff_t, iff_f, if_true, if_false, g_up_ne, g_up_eq, g_z_ne, g_z_eq, is_of n1, is_of n2]
      rw [show g_pS (mkS3 σ T) (110 + T) 5 (140 + T) = mkS4 σ T from rfl]
      unfold b_X10_init_32 b_X10_init_37 b_X10_init_42 b_X10_init_47 b_X10_init_52
      simp (disch := omega) only [li_0, li_1, li_2, li_3, li_4, li_5, li_6, li_7, li_8, li_9, li_10, li_11, li_12, li_13, li_14, li_15, li_16, li_18, li_19, li_20, li_24, li_28, li_29, li_30, li_31, li_32, li_36, li_40, li_41, li_42, li_43, li_45, li_48, li_49, li_50, li_56, li_57, li_59, li_60, li_61, li_62, li_63, li_64, li_97, li_99, li_100, li_120, li_121, li_122, li_255, li_270, li_300, li_400, li_500, li_540, li_1000, li_1024, li_1440, li_9999, li_11264, li_32768, li_268435456, li_1073741824, li_m, li_o, iN_add, iN_mul, iN_lt, iN_in, iN_cl, iN_inj, iM_ne, iM_ne', iN_or, iN_xor, iN_bd, sh31n, iN_shl2, iN_shr2, iN_bit2, Nat.one_mul, oB, iff_t, iff_f, if_true, if_false, g_up_ne, g_up_eq, g_z_ne, g_z_eq, is_of n3]
      exact m1
    unfold f_X11_town b_X11_town_0 f_X11_isWithin b_X11_isWithin_0
    rw [h1, iN_cl (by omega), show g_nS σ (110 + T) 10 0 = mkS1 σ T from rfl]
    simp (disch := omega) only [li_0, li_1, li_2, li_3, li_4, li_5, li_6, li_7, li_8, li_9, li_10, li_11, li_12, li_13, li_14, li_15, li_16, li_18, li_19, li_20, li_24, li_28, li_29, li_30, li_31, li_32, li_36, li_40, li_41, li_42, li_43, li_45, li_48, li_49, li_50, li_56, li_57, li_59, li_60, li_61, li_62, li_63, li_64, li_97, li_99, li_100, li_120, li_121, li_122, li_255, li_270, li_300, li_400, li_500, li_540, li_1000, li_1024, li_1440, li_9999, li_11264, li_32768, li_268435456, li_1073741824, li_m, li_o, iN_add, iN_mul, iN_lt, iN_in, iN_cl, iN_inj, iM_ne, iM_ne', iN_or, iN_xor, iN_bd, sh31n, iN_shl2, iN_shr2, iN_bit2, Nat.one_mul, oB, iff_t, iff_f, if_true, if_false, g_up_ne, g_up_eq, g_z_ne, g_z_eq, h1, h2, h3, fr_of (σ := σ) (a := 110 + T) (by omega) (by omega) f1, layCB_of l1.1]
    rw [init]
    simp (disch := omega) only [li_0, li_1, li_2, li_3, li_4, li_5, li_6, li_7, li_8, li_9, li_10, li_11, li_12, li_13, li_14, li_15, li_16, li_18, li_19, li_20, li_24, li_28, li_29, li_30, li_31, li_32, li_36, li_40, li_41, li_42, li_43, li_45, li_48, li_49, li_50, li_56, li_57, li_59, li_60, li_61, li_62, li_63, li_64, li_97, li_99, li_100, li_120, li_121, li_122, li_255, li_270, li_300, li_400, li_500, li_540, li_1000, li_1024, li_1440, li_9999, li_11264, li_32768, li_268435456, li_1073741824, li_m, li_o, iN_add, iN_mul, iN_lt, iN_in, iN_cl, iN_inj, iM_ne, iM_ne', iN_or, iN_xor, iN_bd, sh31n, iN_shl2, iN_shr2, iN_bit2, Nat.one_mul, oB, iff_t, iff_f, if_true, if_false, g_up_ne, g_up_eq, g_z_ne, g_z_eq, layCB_of l4.1, is_of n3]
    rw [show g_pS (mkS4 σ T) 4 T (110 + T) = mkS σ T from rfl]
    simp (disch := omega) only [li_0, li_1, li_2, li_3, li_4, li_5, li_6, li_7, li_8, li_9, li_10, li_11, li_12, li_13, li_14, li_15, li_16, li_18, li_19, li_20, li_24, li_28, li_29, li_30, li_31, li_32, li_36, li_40, li_41, li_42, li_43, li_45, li_48, li_49, li_50, li_56, li_57, li_59, li_60, li_61, li_62, li_63, li_64, li_97, li_99, li_100, li_120, li_121, li_122, li_255, li_270, li_300, li_400, li_500, li_540, li_1000, li_1024, li_1440, li_9999, li_11264, li_32768, li_268435456, li_1073741824, li_m, li_o, iN_add, iN_mul, iN_lt, iN_in, iN_cl, iN_inj, iM_ne, iM_ne', iN_or, iN_xor, iN_bd, sh31n, iN_shl2, iN_shr2, iN_bit2, Nat.one_mul, oB, iff_t, iff_f, if_true, if_false, g_up_ne, g_up_eq, g_z_ne, g_z_eq, layCB_of l5.1, k1, k2]
    unfold b_X11_town_75
    simp (disch := omega) only [li_0, li_1, li_2, li_3, li_4, li_5, li_6, li_7, li_8, li_9, li_10, li_11, li_12, li_13, li_14, li_15, li_16, li_18, li_19, li_20, li_24, li_28, li_29, li_30, li_31, li_32, li_36, li_40, li_41, li_42, li_43, li_45, li_48, li_49, li_50, li_56, li_57, li_59, li_60, li_61, li_62, li_63, li_64, li_97, li_99, li_100, li_120, li_121, li_122, li_255, li_270, li_300, li_400, li_500, li_540, li_1000, li_1024, li_1440, li_9999, li_11264, li_32768, li_268435456, li_1073741824, li_m, li_o, iN_add, iN_mul, iN_lt, iN_in, iN_cl, iN_inj, iM_ne, iM_ne', iN_or, iN_xor, iN_bd, sh31n, iN_shl2, iN_shr2, iN_bit2, Nat.one_mul, oB, iff_t, iff_f, if_true, if_false, g_up_ne, g_up_eq, g_z_ne, g_z_eq, iN_sub, Nat.add_sub_cancel]
  · simp (disch := omega) only [li_0, li_1, li_2, li_3, li_4, li_5, li_6, li_7, li_8, li_9, li_10, li_11, li_12, li_13, li_14, li_15, li_16, li_18, li_19, li_20, li_24, li_28, li_29, li_30, li_31, li_32, li_36, li_40, li_41, li_42, li_43, li_45, li_48, li_49, li_50, li_56, li_57, li_59, li_60, li_61, li_62, li_63, li_64, li_97, li_99, li_100, li_120, li_121, li_122, li_255, li_270, li_300, li_400, li_500, li_540, li_1000, li_1024, li_1440, li_9999, li_11264, li_32768, li_268435456, li_1073741824, li_m, li_o, iN_add, iN_mul, iN_lt, iN_in, iN_cl, iN_inj, iM_ne, iM_ne', iN_or, iN_xor, iN_bd, sh31n, iN_shl2, iN_shr2, iN_bit2, Nat.one_mul, oB, iff_t, iff_f, if_true, if_false, g_up_ne, g_up_eq, g_z_ne, g_z_eq]
  · simp (disch := omega) only [li_0, li_1, li_2, li_3, li_4, li_5, li_6, li_7, li_8, li_9, li_10, li_11, li_12, li_13, li_14, li_15, li_16, li_18, li_19, li_20, li_24, li_28, li_29, li_30, li_31, li_32, li_36, li_40, li_41, li_42, li_43, li_45, li_48, li_49, li_50, li_56, li_57, li_59, li_60, li_61, li_62, li_63, li_64, li_97, li_99, li_100, li_120, li_121, li_122, li_255, li_270, li_300, li_400, li_500, li_540, li_1000, li_1024, li_1440, li_9999, li_11264, li_32768, li_268435456, li_1073741824, li_m, li_o, iN_add, iN_mul, iN_lt, iN_in, iN_cl, iN_inj, iM_ne, iM_ne', iN_or, iN_xor, iN_bd, sh31n, iN_shl2, iN_shr2, iN_bit2, Nat.one_mul, oB, iff_t, iff_f, if_true, if_false, g_up_ne, g_up_eq, g_z_ne, g_z_eq]
  · simp (disch := omega) only [li_0, li_1, li_2, li_3, li_4, li_5, li_6, li_7, li_8, li_9, li_10, li_11, li_12, li_13, li_14, li_15, li_16, li_18, li_19, li_20, li_24, li_28, li_29, li_30, li_31, li_32, li_36, li_40, li_41, li_42, li_43, li_45, li_48, li_49, li_50, li_56, li_57, li_59, li_60, li_61, li_62, li_63, li_64, li_97, li_99, li_100, li_120, li_121, li_122, li_255, li_270, li_300, li_400, li_500, li_540, li_1000, li_1024, li_1440, li_9999, li_11264, li_32768, li_268435456, li_1073741824, li_m, li_o, iN_add, iN_mul, iN_lt, iN_in, iN_cl, iN_inj, iM_ne, iM_ne', iN_or, iN_xor, iN_bd, sh31n, iN_shl2, iN_shr2, iN_bit2, Nat.one_mul, oB, iff_t, iff_f, if_true, if_false, g_up_ne, g_up_eq, g_z_ne, g_z_eq, m3]
  · simp (disch := omega) only [li_0, li_1, li_2, li_3, li_4, li_5, li_6, li_7, li_8, li_9, li_10, li_11, li_12, li_13, li_14, li_15, li_16, li_18, li_19, li_20, li_24, li_28, li_29, li_30, li_31, li_32, li_36, li_40, li_41, li_42, li_43, li_45, li_48, li_49, li_50, li_56, li_57, li_59, li_60, li_61, li_62, li_63, li_64, li_97, li_99, li_100, li_120, li_121, li_122, li_255, li_270, li_300, li_400, li_500, li_540, li_1000, li_1024, li_1440, li_9999, li_11264, li_32768, li_268435456, li_1073741824, li_m, li_o, iN_add, iN_mul, iN_lt, iN_in, iN_cl, iN_inj, iM_ne, iM_ne', iN_or, iN_xor, iN_bd, sh31n, iN_shl2, iN_shr2, iN_bit2, Nat.one_mul, oB, iff_t, iff_f, if_true, if_false, g_up_ne, g_up_eq, g_z_ne, g_z_eq, m3]
  · simp (disch := omega) only [li_0, li_1, li_2, li_3, li_4, li_5, li_6, li_7, li_8, li_9, li_10, li_11, li_12, li_13, li_14, li_15, li_16, li_18, li_19, li_20, li_24, li_28, li_29, li_30, li_31, li_32, li_36, li_40, li_41, li_42, li_43, li_45, li_48, li_49, li_50, li_56, li_57, li_59, li_60, li_61, li_62, li_63, li_64, li_97, li_99, li_100, li_120, li_121, li_122, li_255, li_270, li_300, li_400, li_500, li_540, li_1000, li_1024, li_1440, li_9999, li_11264, li_32768, li_268435456, li_1073741824, li_m, li_o, iN_add, iN_mul, iN_lt, iN_in, iN_cl, iN_inj, iM_ne, iM_ne', iN_or, iN_xor, iN_bd, sh31n, iN_shl2, iN_shr2, iN_bit2, Nat.one_mul, oB, iff_t, iff_f, if_true, if_false, g_up_ne, g_up_eq, g_z_ne, g_z_eq, m3]
  · simp (disch := omega) only [li_0, li_1, li_2, li_3, li_4, li_5, li_6, li_7, li_8, li_9, li_10, li_11, li_12, li_13, li_14, li_15, li_16, li_18, li_19, li_20, li_24, li_28, li_29, li_30, li_31, li_32, li_36, li_40, li_41, li_42, li_43, li_45, li_48, li_49, li_50, li_56, li_57, li_59, li_60, li_61, li_62, li_63, li_64, li_97, li_99, li_100, li_120, li_121, li_122, li_255, li_270, li_300, li_400, li_500, li_540, li_1000, li_1024, li_1440, li_9999, li_11264, li_32768, li_268435456, li_1073741824, li_m, li_o, iN_add, iN_mul, iN_lt, iN_in, iN_cl, iN_inj, iM_ne, iM_ne', iN_or, iN_xor, iN_bd, sh31n, iN_shl2, iN_shr2, iN_bit2, Nat.one_mul, oB, iff_t, iff_f, if_true, if_false, g_up_ne, g_up_eq, g_z_ne, g_z_eq, m3]
  · simp (disch := omega) only [li_0, li_1, li_2, li_3, li_4, li_5, li_6, li_7, li_8, li_9, li_10, li_11, li_12, li_13, li_14, li_15, li_16, li_18, li_19, li_20, li_24, li_28, li_29, li_30, li_31, li_32, li_36, li_40, li_41, li_42, li_43, li_45, li_48, li_49, li_50, li_56, li_57, li_59, li_60, li_61, li_62, li_63, li_64, li_97, li_99, li_100, li_120, li_121, li_122, li_255, li_270, li_300, li_400, li_500, li_540, li_1000, li_1024, li_1440, li_9999, li_11264, li_32768, li_268435456, li_1073741824, li_m, li_o, iN_add, iN_mul, iN_lt, iN_in, iN_cl, iN_inj, iM_ne, iM_ne', iN_or, iN_xor, iN_bd, sh31n, iN_shl2, iN_shr2, iN_bit2, Nat.one_mul, oB, iff_t, iff_f, if_true, if_false, g_up_ne, g_up_eq, g_z_ne, g_z_eq, m3, c2]
  · rw [g_up_ne _ _ (by omega), g_up_ne _ _ (by omega)]; exact m2 p (by omega) hp
  · simp (disch := omega) only [li_0, li_1, li_2, li_3, li_4, li_5, li_6, li_7, li_8, li_9, li_10, li_11, li_12, li_13, li_14, li_15, li_16, li_18, li_19, li_20, li_24, li_28, li_29, li_30, li_31, li_32, li_36, li_40, li_41, li_42, li_43, li_45, li_48, li_49, li_50, li_56, li_57, li_59, li_60, li_61, li_62, li_63, li_64, li_97, li_99, li_100, li_120, li_121, li_122, li_255, li_270, li_300, li_400, li_500, li_540, li_1000, li_1024, li_1440, li_9999, li_11264, li_32768, li_268435456, li_1073741824, li_m, li_o, iN_add, iN_mul, iN_lt, iN_in, iN_cl, iN_inj, iM_ne, iM_ne', iN_or, iN_xor, iN_bd, sh31n, iN_shl2, iN_shr2, iN_bit2, Nat.one_mul, oB, iff_t, iff_f, if_true, if_false, g_up_ne, g_up_eq, g_z_ne, g_z_eq, m3, c3]
