/-! worth: both sides. -/
theorem l_worth {σ : gS} {t cd len kind : Nat} (hc : cnL σ t cd len) (hk3 : kind ≤ 3) {fa : Nat → Int32} : ∀ (rs : List gRule) (i a n : Nat) (M : gM), rs.length < n → M (140 + t) 5 = iN (i + rs.length) → i + rs.length ≤ 12 → a + lenR rs ≤ len → (∀ r ∈ rs, okRule r) → hasR (M (150 + t)) (M (160 + t)) (M cd) i a rs → (∀ j, j < 5 → M (170 + t) j = fa j) →
    ∃ M', l_X2_worthOf_2 n (140 + t) (iN kind) (iN i) σ M = some (worthI fa kind rs, M') ∧ ∀ b j, b ≠ 180 + t → M' b j = M b j := by
  have hc0 := hc
  obtain ⟨⟨c0, c1, c2, c3, c4, c5, c6, c7, c8⟩, d1, d2, d3, d4, d5⟩ := hc
  intro rs
  induction rs with
  | nil =>
    intro i a n M hn h5 hi ha hok hr hfa
    obtain ⟨n, rfl⟩ : ∃ m, n = m + 1 := ⟨n - 1, by simp at hn; omega⟩
    simp only [List.length_nil, Nat.add_zero] at h5 hi
    refine ⟨M, ?_, fun b j _ => rfl⟩
    rw [l_X2_worthOf_2, if_pos (by rw [is_of c0]; trivial), h5, if_neg (by rw [iN_lt (by omega) (by omega)]; omega)]
    rfl
  | cons r rs ih =>
    intro i a n M hn h5 hi ha hok hr hfa
    obtain ⟨n, rfl⟩ : ∃ m, n = m + 1 := ⟨n - 1, by simp at hn; omega⟩
    simp only [List.length_cons, lenR] at hn h5 hi ha
    obtain ⟨r1, r2, r3, r4, r5, r6, r7⟩ := hr
    obtain ⟨o1, o2, o3⟩ := hok r List.mem_cons_self
    have e1 : iN i + 1 = iN (i + 1) := by rw [show (1 : Int32) = iN 1 from rfl, iN_add]
    have m0 : iN i * (3 : Int32) = iN (3 * i) := by rw [show (3 : Int32) = iN 3 from rfl, iN_mul, Nat.mul_comm]
    have m1 : iN (3 * i) + (1 : Int32) = iN (3 * i + 1) := by rw [show (1 : Int32) = iN 1 from rfl, iN_add]
    have m2 : iN (3 * i) + (2 : Int32) = iN (3 * i + 2) := by rw [show (2 : Int32) = iN 2 from rfl, iN_add]
    have next : ∀ M2 : gM, (∀ b j, b ≠ 180 + t → M2 b j = M b j) → ∃ M', l_X2_worthOf_2 n (140 + t) (iN kind) (iN (i + 1)) σ M2 = some (worthI fa kind rs, M') ∧ ∀ b j, b ≠ 180 + t → M' b j = M b j := fun M2 h2 => by
      have row : ∀ b, b ≠ 180 + t → M2 b = M b := fun b hb => funext fun j => h2 b j hb
      obtain ⟨M', q1, q2⟩ := ih (i + 1) (a + r.2.1.length + r.2.2.length) n M2 (by omega) (by rw [h2 _ _ (by omega), h5]; congr 1; omega) (by omega) (by omega) (fun x hx => hok x (List.mem_cons_of_mem _ hx)) (by rw [row _ (by omega), row _ (by omega), row _ (by omega)]; exact r7) (fun j hj => by rw [h2 _ _ (by omega)]; exact hfa j hj)
      exact ⟨M', q1, fun b j hb => by rw [q2 b j hb, h2 b j hb]⟩
    have hit : ∀ M2 : gM, (∀ b j, b ≠ 180 + t → M2 b j = M b j) → ∃ M', b_X2_worthOf_83 (140 + t) (iN a) (iN (a + r.2.1.length)) σ M2 = some (clampI (valI fa r.2.1), M') ∧ ∀ b j, b ≠ 180 + t → M' b j = M b j := fun M2 h2 => by
      obtain ⟨M', q1, q2⟩ := value_c hc0 (fa := fa) (cs := r.2.1) (a := a) (M := M2) (by omega) o2 (fun j hj => by rw [h2 _ _ (by omega)]; exact r5 j hj) (fun j hj => by rw [h2 _ _ (by omega)]; exact hfa j hj)
      refine ⟨M', ?_, fun b j hb => by rw [q2 b j hb, h2 b j hb]⟩
      unfold b_X2_worthOf_83
      rw [if_pos (by rw [is_of c0]; trivial), q1, oB, clamp_c]
    rw [l_X2_worthOf_2, if_pos (by rw [is_of c0]; trivial), h5, if_pos (by rw [iN_lt (by omega) (by omega)]; omega), c2, if_pos (by rw [is_of c6]; trivial), ln_of c6, m0, m1, m2, if_pos (by rw [iN_in (by omega)]; omega), if_pos (by rw [iN_in (by omega)]; omega), if_pos (by rw [iN_in (by omega)]; omega), c1, if_pos (by rw [is_of c5]; trivial), ln_of c5, if_pos (by rw [iN_in (by omega)]; omega), iN_cl (by omega), iN_cl (by omega), iN_cl (by omega), iN_cl (by omega), r1, r2, r3, r4]
    unfold b_X2_worthOf_58 b_X2_worthOf_100 worthI
    rw [e1]
    by_cases k1 : r.1 = kind
    · rw [if_pos (show iN r.1 = iN kind by rw [k1]), if_neg (show ¬ (1 : Int32) = 0 by decide)]
      by_cases k2 : r.2.2 = []
      · rw [if_pos (show iN (a + r.2.1.length) = iN (a + r.2.1.length + r.2.2.length) by rw [k2]; rfl), if_pos ⟨k1, Or.inl k2⟩]
        exact hit M (fun _ _ _ => rfl)
      · have hl2 : 0 < r.2.2.length := by
          cases h : r.2.2 with
          | nil => exact absurd h k2
          | cons _ _ => simp
        rw [if_neg (show ¬ iN (a + r.2.1.length) = iN (a + r.2.1.length + r.2.2.length) by rw [iN_inj (by omega) (by omega)]; omega), if_pos (by rw [is_of c0]; trivial)]
        obtain ⟨M2, q1, q2⟩ := value_c hc0 (fa := fa) (cs := r.2.2) (a := a + r.2.1.length) (M := M) (by omega) (o3.resolve_left k2) (fun j hj => r6 j hj) hfa
        rw [q1, oB]
        by_cases k3 : valI fa r.2.2 = 0
        · rw [if_pos k3, if_neg (fun h => by rcases h.2 with q | q; exact k2 q; exact q k3)]
          exact next M2 q2
        · rw [if_neg k3, if_pos ⟨k1, Or.inr k3⟩]
          exact hit M2 q2
    · rw [if_neg (show ¬ iN r.1 = iN kind by rw [iN_inj (by omega) (by omega)]; exact k1), if_pos rfl, if_neg (fun h => k1 h.1)]
      exact next M (fun _ _ _ => rfl)
theorem worth_c {σ : gS} {T t kind : Nat} {M : gM} {rs : List gRule} {fa : Nat → Int32} (hT : lyT σ T) (hD : lyD σ T) (h6 : T ≤ 6) (ht : t < T) (hk : kind ≤ 3) (h1 : rs.length ≤ 12) (h2 : ∀ r ∈ rs, okRule r) (h3 : lenR rs ≤ g_ln σ (σ.2 (140 + t) 4)) (h4 : M (140 + t) 5 = iN rs.length) (h5 : hasR (M (150 + t)) (M (160 + t)) (M (σ.2 (140 + t) 4)) 0 0 rs) (hfa : ∀ j, j < 5 → M (170 + t) j = fa j) : ∃ M', f_X2_worthOf (140 + t) (iN kind) σ M = some (worthI fa kind rs, M') ∧ ∀ b j, b ≠ 180 + t → M' b j = M b j := by
  obtain ⟨a, n, g1, g2, g3, g4, g5⟩ := hD.1 t ht
  rw [g1] at h5 h3
  rw [ln_of g2] at h3
  exact l_worth (cd := a) (len := n) ⟨(hT.1 t ht).2, g1, g2, g3, by omega, by omega⟩ hk rs 0 0 g_FU M (by unfold g_FU; omega) (by rw [Nat.zero_add]; exact h4) (by omega) (by omega) h2 h5 hfa
/-- the facts as they are now -/
def nowF (M : gM) (t : Nat) (R : Nat → Nat) (i : Nat) : Int32 := if i = 0 then (M 40 15 + M 51 t) - M 40 14 else if i = 1 then iN (cf (heldF M t) (R t)) else if i = 2 then iN (cf (usedF M t) (R t)) else if i = 3 then iN (cf (pplF M t) 10) else M 40 16
theorem learn_c {σ : gS} {M : gM} {P T C t : Nat} {R F : Nat → Nat} (hL : Lay σ P T R) (hT : vT M T C R F) (hD : vD M) (ht : t < T) : ∃ M', f_X11_learnFacts (110 + t) σ M = some M' ∧ (∀ j, j < 5 → M' (170 + t) j = nowF M t R j) ∧ ∀ b j, b ≠ 170 + t → M' b j = M b j := by
  have hT6 := hT.1
  have hR := (hL.2.2.2.1.1 t (by omega)).1
  obtain ⟨⟨c1, c2, c3, c4, c5, c6, c7⟩, ⟨k0, k1, k2, k3, k4, k5, k6, k7, k8⟩⟩ := hL.2.2.1.1 t ht
  have v3 := (hT.2.2.2.2.2.2.2.2.2.1 t ht).2.2.1
  obtain ⟨⟨d, _, d1, d2⟩, ⟨f, _, d3, d4⟩, ⟨s, _, d5, d6⟩, _⟩ := hD
  refine ⟨(g_up (g_up (g_up (g_up (g_up M (170 + t) 0 ((M 40 15 + M 51 t) - M 40 14)) (170 + t) 1 (iN (cf (heldF M t) (R t)))) (170 + t) 2 (iN (cf (usedF M t) (R t)))) (170 + t) 3 (iN (cf (pplF M t) 10))) (170 + t) 4 (M 40 16)), ?_, fun j hj => ?_, fun b j hb => ?_⟩
  · unfold f_X11_learnFacts b_X11_learnFacts_0
    rw [if_pos (by rw [is_of c2]; trivial), used_c hL hT ht, oB, used_bc hT (by omega) hR, oB, held_c hL hT ht, oB, ppl_c hL hT ht, oB, c5, if_pos (by rw [is_of k0]; trivial), d3, v3, d1, d5, d2, d4, d6]
    unfold f_X2_learn b_X2_learn_0 b_X2_learn_21
    simp (disch := omega) only [li_0, li_1, li_2, li_3, li_4, li_5, li_6, li_7, li_8, li_9, li_10, li_11, li_12, li_13, li_14, li_15, li_16, li_18, li_19, li_20, li_24, li_28, li_29, li_30, li_31, li_32, li_36, li_40, li_41, li_42, li_43, li_45, li_48, li_49, li_50, li_56, li_57, li_59, li_60, li_61, li_62, li_63, li_64, li_97, li_99, li_100, li_120, li_121, li_122, li_255, li_270, li_300, li_400, li_500, li_540, li_1000, li_1024, li_1440, li_9999, li_11264, li_32768, li_268435456, li_1073741824, li_m, li_o, iN_add, iN_mul, iN_lt, iN_in, iN_cl, iN_inj, iM_ne, iM_ne', iN_or, iN_xor, iN_bd, sh31n, iN_shl2, iN_shr2, iN_bit2, Nat.one_mul, oB, iff_t, iff_f, if_true, if_false, g_up_ne, g_up_eq, g_z_ne, g_z_eq, is_of k0, k3, is_of k7, ln_of k7]
  · unfold nowF
    by_cases j0 : j = 0
    · subst j0; simp (disch := omega) only [li_0, li_1, li_2, li_3, li_4, li_5, li_6, li_7, li_8, li_9, li_10, li_11, li_12, li_13, li_14, li_15, li_16, li_18, li_19, li_20, li_24, li_28, li_29, li_30, li_31, li_32, li_36, li_40, li_41, li_42, li_43, li_45, li_48, li_49, li_50, li_56, li_57, li_59, li_60, li_61, li_62, li_63, li_64, li_97, li_99, li_100, li_120, li_121, li_122, li_255, li_270, li_300, li_400, li_500, li_540, li_1000, li_1024, li_1440, li_9999, li_11264, li_32768, li_268435456, li_1073741824, li_m, li_o, iN_add, iN_mul, iN_lt, iN_in, iN_cl, iN_inj, iM_ne, iM_ne', iN_or, iN_xor, iN_bd, sh31n, iN_shl2, iN_shr2, iN_bit2, Nat.one_mul, oB, iff_t, iff_f, if_true, if_false, g_up_ne, g_up_eq, g_z_ne, g_z_eq]
    by_cases j1 : j = 1
    · subst j1; simp (disch := omega) only [li_0, li_1, li_2, li_3, li_4, li_5, li_6, li_7, li_8, li_9, li_10, li_11, li_12, li_13, li_14, li_15, li_16, li_18, li_19, li_20, li_24, li_28, li_29, li_30, li_31, li_32, li_36, li_40, li_41, li_42, li_43, li_45, li_48, li_49, li_50, li_56, li_57, li_59, li_60, li_61, li_62, li_63, li_64, li_97, li_99, li_100, li_120, li_121, li_122, li_255, li_270, li_300, li_400, li_500, li_540, li_1000, li_1024, li_1440, li_9999, li_11264, li_32768, li_268435456, li_1073741824, li_m, li_o, iN_add, iN_mul, iN_lt, iN_in, iN_cl, iN_inj, iM_ne, iM_ne', iN_or, iN_xor, iN_bd, sh31n, iN_shl2, iN_shr2, iN_bit2, Nat.one_mul, oB, iff_t, iff_f, if_true, if_false, g_up_ne, g_up_eq, g_z_ne, g_z_eq]
    by_cases j2 : j = 2
    · subst j2; simp (disch := omega) only [li_0, li_1, li_2, li_3, li_4, li_5, li_6, li_7, li_8, li_9, li_10, li_11, li_12, li_13, li_14, li_15, li_16, li_18, li_19, li_20, li_24, li_28, li_29, li_30, li_31, li_32, li_36, li_40, li_41, li_42, li_43, li_45, li_48, li_49, li_50, li_56, li_57, li_59, li_60, li_61, li_62, li_63, li_64, li_97, li_99, li_100, li_120, li_121, li_122, li_255, li_270, li_300, li_400, li_500, li_540, li_1000, li_1024, li_1440, li_9999, li_11264, li_32768, li_268435456, li_1073741824, li_m, li_o, iN_add, iN_mul, iN_lt, iN_in, iN_cl, iN_inj, iM_ne, iM_ne', iN_or, iN_xor, iN_bd, sh31n, iN_shl2, iN_shr2, iN_bit2, Nat.one_mul, oB, iff_t, iff_f, if_true, if_false, g_up_ne, g_up_eq, g_z_ne, g_z_eq]
    by_cases j3 : j = 3
    · subst j3; simp (disch := omega) only [li_0, li_1, li_2, li_3, li_4, li_5, li_6, li_7, li_8, li_9, li_10, li_11, li_12, li_13, li_14, li_15, li_16, li_18, li_19, li_20, li_24, li_28, li_29, li_30, li_31, li_32, li_36, li_40, li_41, li_42, li_43, li_45, li_48, li_49, li_50, li_56, li_57, li_59, li_60, li_61, li_62, li_63, li_64, li_97, li_99, li_100, li_120, li_121, li_122, li_255, li_270, li_300, li_400, li_500, li_540, li_1000, li_1024, li_1440, li_9999, li_11264, li_32768, li_268435456, li_1073741824, li_m, li_o, iN_add, iN_mul, iN_lt, iN_in, iN_cl, iN_inj, iM_ne, iM_ne', iN_or, iN_xor, iN_bd, sh31n, iN_shl2, iN_shr2, iN_bit2, Nat.one_mul, oB, iff_t, iff_f, if_true, if_false, g_up_ne, g_up_eq, g_z_ne, g_z_eq]
    · obtain rfl : j = 4 := by omega
      simp (disch := omega) only [li_0, li_1, li_2, li_3, li_4, li_5, li_6, li_7, li_8, li_9, li_10, li_11, li_12, li_13, li_14, li_15, li_16, li_18, li_19, li_20, li_24, li_28, li_29, li_30, li_31, li_32, li_36, li_40, li_41, li_42, li_43, li_45, li_48, li_49, li_50, li_56, li_57, li_59, li_60, li_61, li_62, li_63, li_64, li_97, li_99, li_100, li_120, li_121, li_122, li_255, li_270, li_300, li_400, li_500, li_540, li_1000, li_1024, li_1440, li_9999, li_11264, li_32768, li_268435456, li_1073741824, li_m, li_o, iN_add, iN_mul, iN_lt, iN_in, iN_cl, iN_inj, iM_ne, iM_ne', iN_or, iN_xor, iN_bd, sh31n, iN_shl2, iN_shr2, iN_bit2, Nat.one_mul, oB, iff_t, iff_f, if_true, if_false, g_up_ne, g_up_eq, g_z_ne, g_z_eq]
  · simp (disch := omega) only [li_0, li_1, li_2, li_3, li_4, li_5, li_6, li_7, li_8, li_9, li_10, li_11, li_12, li_13, li_14, li_15, li_16, li_18, li_19, li_20, li_24, li_28, li_29, li_30, li_31, li_32, li_36, li_40, li_41, li_42, li_43, li_45, li_48, li_49, li_50, li_56, li_57, li_59, li_60, li_61, li_62, li_63, li_64, li_97, li_99, li_100, li_120, li_121, li_122, li_255, li_270, li_300, li_400, li_500, li_540, li_1000, li_1024, li_1440, li_9999, li_11264, li_32768, li_268435456, li_1073741824, li_m, li_o, iN_add, iN_mul, iN_lt, iN_in, iN_cl, iN_inj, iM_ne, iM_ne', iN_or, iN_xor, iN_bd, sh31n, iN_shl2, iN_shr2, iN_bit2, Nat.one_mul, oB, iff_t, iff_f, if_true, if_false, g_up_ne, g_up_eq, g_z_ne, g_z_eq]
theorem worthNow_c {σ : gS} {M : gM} {P T C t kind : Nat} {R F : Nat → Nat} {rs : List gRule} (hL : Lay σ P T R) (hT : vT M T C R F) (hD : vD M) (ht : t < T) (hk : kind ≤ 3) (h1 : rs.length ≤ 12) (h2 : ∀ r ∈ rs, okRule r) (h3 : lenR rs ≤ g_ln σ (σ.2 (140 + t) 4)) (h4 : M (140 + t) 5 = iN rs.length) (h5 : hasR (M (150 + t)) (M (160 + t)) (M (σ.2 (140 + t) 4)) 0 0 rs) : ∃ M', f_X11_worthNow (110 + t) (iN kind) σ M = some (worthI (nowF M t R) kind rs, M') ∧ ∀ b j, b ≠ 170 + t → b ≠ 180 + t → M' b j = M b j := by
  have hT6 := hT.1
  obtain ⟨⟨c1, c2, c3, c4, c5, c6, c7⟩, ⟨k0, k1, k2, k3, k4, k5, k6, k7, k8⟩⟩ := hL.2.2.1.1 t ht
  obtain ⟨M1, a1, a2, a3⟩ := learn_c hL hT hD ht
  have hd := hL.2.2.2.2.1.at ht
  have row : ∀ b, b ≠ 170 + t → M1 b = M b := fun b hb => funext fun j => a3 b j hb
  obtain ⟨M2, b1, b2⟩ := worth_c (fa := nowF M t R) (M := M1) hL.2.2.1 hL.2.2.2.2.1 hT6 ht hk h1 h2 h3 (by rw [a3 _ _ (by omega)]; exact h4) (by rw [row _ (by omega), row _ (by omega), row _ (by omega)]; exact h5) a2
  refine ⟨M2, ?_, fun b j g1 g2 => by rw [b2 b j g2, a3 b j g1]⟩
  unfold f_X11_worthNow b_X11_worthNow_0
  rw [a1, oB, if_pos (by rw [is_of c2]; trivial), c5, if_pos (by rw [is_of k0]; trivial), b1]
  rfl
