/-! night: the call. -/
theorem nowF_eq {M M' : gM} (h : mEq M M') (t : Nat) (R : Nat → Nat) : nowF M' t R = nowF M t R := by
  funext i
  unfold nowF
  rw [h 40 15 (by omega) (by omega), h 51 t (by omega) (by omega), h 40 14 (by omega) (by omega), h 40 16 (by omega) (by omega), heldF_eq (fun j => h 56 j (by omega) (by omega)), usedF_eq (fun j => h 57 j (by omega) (by omega)), pplF_eq (fun j => h 57 j (by omega) (by omega))]
theorem usedS_eq {M M' : gM} (h : ∀ j, M' 57 j = M 57 j) (t i : Nat) : usedS M' t i = usedS M t i := by
  unfold usedS
  rw [show M' 57 = M 57 from funext h]
theorem iv_night {σ : gS} {M M' : gM} {P T C t : Nat} {R F : Nat → Nat} (h : Iv σ M P T C R F) (ht : t < T) (hC : C < F T) (c1 : M' 33 0 = iN (C + 1)) (c2 : M' 40 13 = iN (C + 1)) (c3 : M' 34 C = M' 63 C) (c4 : ∀ p, p < 10 → M' 35 (10 * C + p) = M' 62 (10 * C + p)) (c5 : ∀ p, p < P → M' (100 + p) 10 = M' 64 p) (c6 : ∀ p, P ≤ p → p < 10 → M' 64 p = M 64 p)
    (fr : ∀ a j, ¬ (100 ≤ a ∧ a < 110 ∧ j = 10) → a ≠ 170 + t → a ≠ 180 + t → ¬ (a = 35 ∧ 10 * C ≤ j ∧ j < 10 * C + 10) → ¬ (a = 34 ∧ j = C) → ¬ (a = 33 ∧ j = 0) → a ≠ 64 → ¬ (a = 62 ∧ 10 * C ≤ j ∧ j < 10 * C + 10) → ¬ (a = 63 ∧ j = C) → a ≠ 85 → a ≠ 74 → ¬ (a = 40 ∧ 46 ≤ j ∧ j ≤ 59) → ¬ (a = 40 ∧ j = 13) → M' a j = M a j) : Iv σ M' P T (C + 1) R F := by
  obtain ⟨hL, hP, hT, hD, hN, hB, hK, hCo, hX⟩ := h
  have hT6 := hT.1
  have hP10 := hP.1
  have hRle : ∀ t, t < 6 → R t ≤ 10 := fun t ht => (hL.2.2.2.1.1 t ht).1
  refine ⟨hL, ?_, ?_, ?_, ?_, ?_, ?_, ?_, ?_⟩
  · obtain ⟨_, p1, p2, g3, g4, g5, g6, g7, g8⟩ := hP
    refine ⟨hP10, ?_, ?_, fun q hq => ?_, fun q hq => ?_, fun q hq => ?_, fun q hq => ?_, fun q hq hq2 => ?_, fun a b ha hb => ?_⟩
    · simp (disch := omega) only [fr]; exact p1
    · simp (disch := omega) only [fr]; exact p2
    · obtain ⟨w0, w1, w2, w3, w4, w5, w6, w7, w8⟩ := g3 q hq
      refine ⟨?_, ?_, ?_, ?_, ?_, ?_, ?_, ?_, c5 q hq⟩
      · simp (disch := omega) only [fr]; exact w0
      · simp (disch := omega) only [fr]; exact w1
      · simp (disch := omega) only [fr]; exact w2
      · simp (disch := omega) only [fr]; exact w3
      · simp (disch := omega) only [fr]; exact w4
      · simp (disch := omega) only [fr]; exact w5
      · simp (disch := omega) only [fr]; exact w6
      · simp (disch := omega) only [fr]; exact w7
    · have := g4 q hq
      unfold vP2 at *
      simp (disch := omega) only [fr]
      exact this
    · have := g5 q hq
      unfold vP3 at *
      simp (disch := omega) only [fr]
      exact this
    · have := g6 q hq
      unfold vP4 at *
      simp (disch := omega) only [fr]
      exact this
    · obtain ⟨v1, v2, v3, v4, v5⟩ := g7 q hq hq2
      refine ⟨?_, ?_, ?_, ?_, ?_⟩
      · simp (disch := omega) only [fr]; exact v1
      · rw [c6 q hq hq2]; exact v2
      · simp (disch := omega) only [fr]; exact v3
      · simp (disch := omega) only [fr]; exact v4
      · simp (disch := omega) only [fr]; exact v5
    · simp (disch := omega) only [fr]; exact g8 a b ha hb
  · obtain ⟨_, hF0, hC2, t1, t2, t3, t4, k1, k2, g7, g8, g9, g10, g11⟩ := hT
    refine ⟨hT6, hF0, by omega, ?_, ?_, ?_, ?_, c1, c2, fun u hu => ?_, fun u hu => ?_, fun u hu => ?_, fun u q hu hq => ?_, fun u q hu hq => ?_⟩
    · simp (disch := omega) only [fr]; exact t1
    · simp (disch := omega) only [fr]; exact t2
    · simp (disch := omega) only [fr]; exact t3
    · simp (disch := omega) only [fr]; exact t4
    · have := g7 u hu
      unfold vT1 at *
      simp (disch := omega) only [fr]
      exact this
    · have := g8 u hu
      unfold vT2 at *
      simp (disch := omega) only [fr]
      exact this
    · have := g9 u hu
      unfold vT3 at *
      simp (disch := omega) only [fr]
      exact this
    · have := g10 u q hu hq
      have h9 := hRle u hu
      unfold vR1 at *
      simp (disch := omega) only [fr]
      exact this
    · have := g11 u q hu hq
      unfold vR2 at *
      simp (disch := omega) only [fr]
      exact this
  · exact hD.keep (fun a j h => fr a j (by omega) (by omega) (by omega) (by omega) (by omega) (by omega) (by omega) (by omega) (by omega) (by omega) (by omega) (by omega) (by omega))
  · exact hN.keep (fun a j h => fr a j (by omega) (by omega) (by omega) (by omega) (by omega) (by omega) (by omega) (by omega) (by omega) (by omega) (by omega) (by omega) (by omega))
  · intro n hn
    by_cases e : n = C
    · subst e; exact ⟨c3, c4⟩
    · obtain ⟨w1, w2⟩ := hB n (by omega)
      refine ⟨?_, fun p hp => ?_⟩
      · simp (disch := omega) only [fr]; exact w1
      · have := w2 p hp
        rw [fr _ _ (by omega) (by omega) (by omega) (by omega) (by omega) (by omega) (by omega) (by omega) (by omega) (by omega) (by omega) (by omega) (by omega), fr _ _ (by omega) (by omega) (by omega) (by omega) (by omega) (by omega) (by omega) (by omega) (by omega) (by omega) (by omega) (by omega) (by omega)]
        exact this
  · exact hK.keep (fun a j h => fr a j (by omega) (by omega) (by omega) (by omega) (by omega) (by omega) (by omega) (by omega) (by omega) (by omega) (by omega) (by omega) (by omega))
  · exact hCo.keep (fun a j h => fr a j (by omega) (by omega) (by omega) (by omega) (by omega) (by omega) (by omega) (by omega) (by omega) (by omega) (by omega) (by omega) (by omega))
  · exact hX.keep hL.2.2.2.2.1 hT.1 (fun a j h => fr a j (by omega) (by omega) (by omega) (by omega) (by omega) (by omega) (by omega) (by omega) (by omega) (by omega) (by omega) (by omega) (by omega))
theorem call_night {σ : gS} {M : gM} (h : Inv σ M) (N : gN) : ∃ r M1 M2 N2, f_X11_night σ M = some (r, M1) ∧ f_X12_night σ M1 N = some (r, M2, N2) ∧ Inv σ M2 := by
  obtain ⟨P, T, C, R, F, hIv⟩ := h
  have hIv0 := hIv
  obtain ⟨hL, hP, hT, hD, hN, hB, hK, hCo, hX⟩ := hIv
  have hT6 := hT.1
  have hP10 := hP.1
  have hFT := hT.F T (Nat.le_refl _)
  have hCF := hT.2.2.1
  have c1 := hT.2.2.2.2.2.2.2.1
  have c2 := hT.2.2.2.2.2.2.2.2.1
  have t4 := hT.2.2.2.2.2.2.1
  refine lockN (Q := fun M => Inv σ M) (fm := fun Mm => f_X12_night σ Mm N) (fun Mm hg => ?_)
  have hme := mEq.of hg
  have hv := mT.of hL hT hme
  have same : Inv σ (mg M Mm) := by rw [hg]; exact ⟨P, T, C, R, F, hIv0⟩
  show ∃ r Mc' Mm' N', f_X11_night σ M = some (r, Mc') ∧ f_X12_night σ Mm N = some (r, Mm', N') ∧ _
  have fail : f_X11_night σ M = some (iM, M) → f_X12_night σ Mm N = some (iM, Mm, N) → ∃ r Mc' Mm' N', f_X11_night σ M = some (r, Mc') ∧ f_X12_night σ Mm N = some (r, Mm', N') ∧ (∀ a k, 40 ≤ a → a < 100 → Mc' a k = M a k) ∧ (∀ a k, a < 40 ∨ 100 ≤ a → Mm' a k = Mm a k) ∧ Inv σ (mg Mc' Mm') := fun h1 h2 => ⟨iM, M, Mm, N, h1, h2, fun _ _ _ _ => rfl, fun _ _ _ => rfl, same⟩
  have m13 : Mm 40 13 = iN C := hv.2.2.2.2.2.1
  have m12 : Mm 40 12 = iN (F T) := hv.2.2.2.2.1
  obtain ⟨⟨d, hd, d1, d2⟩, ⟨f, hf, d3, d4⟩, hD3⟩ := hD
  have hDD : vD M := ⟨⟨d, hd, d1, d2⟩, ⟨f, hf, d3, d4⟩, hD3⟩
  have m14 : Mm 40 14 = iN d := by rw [hme _ _ (by omega) (by omega)]; exact d2
  have m15 : Mm 40 15 = iN f := by rw [hme _ _ (by omega) (by omega)]; exact d4
  rcases night_town hT with hend | ⟨t, ht, hF1, hF2⟩
  · have htn := l_townNC hL hT (t0 := T) (Or.inl ⟨rfl, by omega⟩) T 0 g_FU (by omega) (by unfold g_FU; omega)
    rw [if_neg (by omega)] at htn
    refine fail ?_ ?_
    · unfold f_X11_night b_X11_night_0 f_X11_townOfNight b_X11_townOfNight_0
      rw [c1]
      rw [show l_X11_townOfNight_2 g_FU (iN C) 0 σ M = some 0 from htn]; rfl
    · unfold f_X12_night b_X12_night_0
      rw [m13, m12, if_pos (by rw [hend])]; rfl
  · have hC30 : C < 30 := by have := hT.F (t + 1) (by omega); omega
    have hCT : C < F T := by have := F_mono hT T (t + 1) (by omega) (Nat.le_refl _); omega
    have htn := l_townNC hL hT (t0 := t) (Or.inr ⟨ht, hF1, hF2⟩) t 0 g_FU (by omega) (by unfold g_FU; omega)
    rw [if_pos ht] at htn
    have htm := l_townNM (σ := σ) hv ht hF2 (fun i hi => by have := F_mono hT t (i + 1) (by omega) (by omega); omega) t 0 g_FU (by omega) (by unfold g_FU; omega)
    have cgo : f_X11_night σ M = if iN d < iN f + iN C then some (-1, M) else (f_X5_isRight (110 + t) σ M).bind fun q40 => if q40 = 0 then some (-1, M) else (f_X11_worthNow (110 + t) 2 σ M).bind fun q51 => l_X11_night_57 g_FU (110 + t) q51.1 0 σ q51.2 := by
      unfold f_X11_night b_X11_night_0 f_X11_townOfNight b_X11_townOfNight_0
      rw [c1, show l_X11_townOfNight_2 g_FU (iN C) 0 σ M = some (110 + t) from htn, oB, if_neg (by omega), d1, d3]
    have mgo : f_X12_night σ Mm N = if iN d < iN f + iN C then some (-1, Mm, N) else (f_X12_right (iN t) σ Mm).bind fun q40 => if q40 = 0 then some (-1, Mm, N) else (f_X12_now (iN t) 2 σ Mm N).bind fun q56 => (f_X12_billOf (iN t) σ q56.2.1 q56.2.2).bind fun q67 => l_X12_night_74 g_FU (iN t) (iN C) q56.1 0 σ (g_up q67.2.1 63 C q67.1) q67.2.2 := by
      unfold f_X12_night b_X12_night_0 f_X12_townAt b_X12_townAt_0
      rw [m13, m12, m14, m15, if_neg (show ¬ iN C = iN (F T) by rw [iN_inj (by omega) (by omega)]; omega), show l_X12_townAt_2 g_FU (iN C) 0 σ Mm = some (iN t) from htm, oB, iN_cl (by omega)]
      simp only [if_pos (show g_in (iN C) 30 = true by rw [iN_in (by omega)]; omega)]
    rw [iN_add] at cgo mgo
    by_cases k1 : iN d < iN (f + C)
    · exact fail (by rw [cgo, if_pos k1]; rfl) (by rw [mgo, if_pos k1]; rfl)
    · rw [if_neg k1, isRight_c hL hP hT ht, oB] at cgo
      rw [if_neg k1, right_m hL hP hT ht hme, oB] at mgo
      cases hr : bP (rightP M P t) with
      | false =>
        rw [hr, if_pos (show bI false = 0 from rfl)] at cgo mgo
        exact fail cgo mgo
      | true =>
        rw [hr, if_neg (show ¬ bI true = 0 by decide)] at cgo mgo
        have hright : rightP M P t := by
          apply Classical.byContradiction
          intro hn; rw [bP_f hn] at hr; cases hr
        have hRle := (hL.2.2.2.1.1 t (by omega)).1
        have hcap : ∀ r, r < R t → cnt (inR (M 57) t (iN r)) 10 ≤ 2 := fun r hr => by
          obtain ⟨b, hb, hb1, hb2⟩ := (hT.2.2.2.2.2.2.2.2.2.2.2.2.2 t r (by omega) hr).2.2.1
          have := (((right_iff hL hP hT ht).mp hright).2 r hr b hb2 hb).2.1
          rw [cnt_more hP10 (fun q h1 _ => inR_hi hP (by omega) (fun e => by rw [iM_ne (by omega)] at e; exact e) h1)]
          omega
        obtain ⟨rs, x1, x2, x3, x4, x5, x6, x7⟩ := hX.1 t ht
        obtain ⟨rf, hrf, erf⟩ := worthI_le (nowF M t R) 2 rs
        obtain ⟨fr, hfr, efr⟩ := worthI_le (nowF M t R) 3 rs
        -- the class up to the charges
        obtain ⟨A0, a1, a2⟩ := worthNow_c hL hT hDD ht (show 2 ≤ 3 by omega) x1 x2 x3 x4 x6
        rw [erf] at a1
        -- the model up to the charges
        obtain ⟨B1, N1, b1, b2⟩ := now_m (Mm := Mm) (N := N) hL hP hT ht (show 2 ≤ 3 by omega) (fun a k h1 h2 _ _ _ _ => hme a k h1 h2) x7
        rw [erf] at b1
        obtain ⟨B2, N2, e1, e2⟩ := now_m (Mm := B1) (N := N1) hL hP hT ht (show 3 ≤ 3 by omega) (fun a k h1 h2 h3 h4 _ _ => by rw [b2 a k h3 h4]; exact hme a k h1 h2) x7
        rw [efr] at e1
        have eqB2 : ∀ a k, 40 ≤ a → a < 100 → a ≠ 74 → ¬ (a = 40 ∧ 46 ≤ k ∧ k ≤ 59) → B2 a k = M a k := fun a k h1 h2 h3 h4 => by rw [e2 a k h3 h4, b2 a k h3 h4, hme a k h1 h2]
        have hvM := mT.of hL hT (Mm := M) (fun _ _ _ _ => rfl)
        have hvB2 : mT B2 T C R F := hvM.keep (fun a j hh => eqB2 a j (by omega) (by omega) (by omega) (by omega))
        obtain ⟨B3, g1, g2, g3⟩ := l_freeM (σ := σ) (P := P) (T := T) (C := C) (R := R) (F := F) (N := N2) (x2 := iN fr) (x3 := iN 0) (L := M 57) hP10 (show t < 6 by omega) (R t) 0 g_FU (by omega) (by unfold g_FU; omega) B2 hvB2 (by rw [eqB2 _ _ (by omega) (by omega) (by omega) (by omega)]; exact hP.2.2.1) (fun p h1 h2 => by rw [eqB2 _ _ (by omega) (by omega) (by omega) (by omega)]; exact none_P hP (by omega) p h1 h2)
        have eqB3 : ∀ a k, 40 ≤ a → a < 100 → a ≠ 74 → a ≠ 85 → ¬ (a = 40 ∧ 46 ≤ k ∧ k ≤ 59) → B3 a k = M a k := fun a k h1 h2 h3 h4 h5 => by rw [g3 a k (by omega), eqB2 a k h1 h2 h3 h5]
        obtain ⟨B4, w1, w2⟩ := l_billM (σ := σ) (T := T) (C := C) (F := F) (N := N2) (pr := fun r => M 55 (10 * t + r)) (show t < 6 by omega) hfr fr 0 g_FU (by omega) (by unfold g_FU; omega) B3 (usedS M t 10) (hvB2.keep (fun a j hh => g3 a j (by omega))) (fun r => eqB3 _ _ (by omega) (by omega) (by omega) (by omega) (by omega)) (fun r hr => by
          rw [g2 r (by omega) hr, usedF_eq (M := M) (fun j => eqB2 57 j (by omega) (by omega) (by omega) (by omega)), usedS_bit, used_iff, decide_eq_true (by omega), Bool.true_and]) (usedS_hi hT (by omega) hRle)
        rw [Nat.sub_zero] at w1
        let bl := billI (fun r => M 55 (10 * t + r)) (R t) fr (usedS M t 10)
        obtain ⟨B5, l1, l2, l3⟩ := l_layM (σ := σ) (N := N2) (C := C) (t := t) (x3 := iN rf) (by omega) hC30 10 0 g_FU (by omega) (by unfold g_FU; omega) (g_up B4 63 C bl)
        have eqB5 : ∀ a k, 40 ≤ a → a < 100 → a ≠ 74 → a ≠ 85 → ¬ (a = 40 ∧ 46 ≤ k ∧ k ≤ 59) → ¬ (a = 62 ∧ 10 * C ≤ k ∧ k < 10 * C + 10) → ¬ (a = 63 ∧ k = C) → B5 a k = M a k := fun a k h1 h2 h3 h4 h5 h6 h7 => by
          rw [l3 a k (by omega), g_up_ne _ _ (by omega), w2 a k h4, eqB3 a k h1 h2 h3 h4 h5]
        have clsB5 : ∀ a k, a < 40 ∨ 100 ≤ a → B5 a k = Mm a k := fun a k hh => by
          rw [l3 a k (by omega), g_up_ne _ _ (by omega), w2 a k (by omega), g3 a k (by omega), e2 a k (by omega) (by omega), b2 a k (by omega) (by omega)]
        have hTA0 : vT A0 T C R F := hT.keep (fun a j hh => a2 a j (by omega) (by omega)) (fun t ht => (hL.2.2.2.1.1 t ht).1)
        have r57 : A0 57 = M 57 := funext fun j => a2 57 j (by omega) (by omega)
        obtain ⟨A1, B6, k2, k3, k4⟩ := l_rooms (σ := σ) (A0 := A0) (B0 := B5) (N := N2) (rf := rf) hL hTA0 (hvM.keep (fun a j hh => eqB5 a j (by omega) (by omega) (by omega) (by omega) (by omega) (by omega) (by omega))) ht hP10 hC30 (by rw [a2 _ _ (by omega) (by omega)]; exact hP.2.1) (by rw [eqB5 _ _ (by omega) (by omega) (by omega) (by omega) (by omega) (by omega) (by omega)]; exact hP.2.2.1) (fun j => by rw [r57]; exact eqB5 57 j (by omega) (by omega) (by omega) (by omega) (by omega) (by omega) (by omega)) (fun j => by rw [a2 _ _ (by omega) (by omega)]; exact eqB5 55 j (by omega) (by omega) (by omega) (by omega) (by omega) (by omega) (by omega)) (fun p h1 h2 => by rw [r57]; exact none_P hP (by omega) p h1 h2) (fun p hp => by
          obtain ⟨_, b, q1, q2, q3⟩ := hP.2.2.2.2.2.1 p hp
          exact ⟨b, q1, by rw [a2 _ _ (by omega) (by omega)]; exact q2, by rw [eqB5 _ _ (by omega) (by omega) (by omega) (by omega) (by omega) (by omega) (by omega)]; exact q3 C hC30⟩) (fun r hr => by rw [r57]; exact hcap r hr) (R t) 0 g_FU (by omega) (by unfold g_FU; omega) g_FU (by unfold g_FU; omega) A0 B5 ⟨fun p hp => by
          rw [a2 _ _ (by omega) (by omega), eqB5 _ _ (by omega) (by omega) (by omega) (by omega) (by omega) (by omega) (by omega)]
          exact (hP.2.2.2.1 p hp).2.2.2.2.2.2.2.2, fun _ _ _ => rfl, fun _ _ _ => rfl⟩
        -- the class behind the charges
        have eqA1 : ∀ a j, ¬ (100 ≤ a ∧ a < 110 ∧ j = 10) → a ≠ 170 + t → a ≠ 180 + t → A1 a j = M a j := fun a j h1 h2 h3 => by rw [k4.2.1 a j h1, a2 a j h2 h3]
        have hTA1 : vT A1 T C R F := hT.keep (fun a j hh => eqA1 a j (by omega) (by omega) (by omega)) (fun t ht => (hL.2.2.2.1.1 t ht).1)
        have hDA1 : vD A1 := hDD.keep (fun a j hh => eqA1 a j (by omega) (by omega) (by omega))
        have hd := hL.2.2.2.2.1.at ht
        have rowA1 : ∀ b, ¬ (100 ≤ b ∧ b < 110) → b ≠ 170 + t → b ≠ 180 + t → A1 b = M b := fun b h1 h2 h3 => funext fun j => eqA1 b j (by omega) h2 h3
        obtain ⟨A2, y1, y2⟩ := worthNow_c (M := A1) hL hTA1 hDA1 ht (show 3 ≤ 3 by omega) x1 x2 x3 (by rw [eqA1 _ _ (by omega) (by omega) (by omega)]; exact x4) (by rw [rowA1 _ (by omega) (by omega) (by omega), rowA1 _ (by omega) (by omega) (by omega), rowA1 _ (by omega) (by omega) (by omega)]; exact x6)
        have hnow : nowF A1 t R = nowF M t R := nowF_eq (fun a k h1 h2 => eqA1 a k (by omega) (by omega) (by omega)) t R
        rw [hnow, efr] at y1
        have eqA2 : ∀ a j, ¬ (100 ≤ a ∧ a < 110 ∧ j = 10) → a ≠ 170 + t → a ≠ 180 + t → A2 a j = M a j := fun a j h1 h2 h3 => by rw [y2 a j h2 h3, eqA1 a j h1 h2 h3]
        have hTA2 : vT A2 T C R F := hT.keep (fun a j hh => eqA2 a j (by omega) (by omega) (by omega)) (fun t ht => (hL.2.2.2.1.1 t ht).1)
        have hbill := bill_c hL hTA2 ht hfr
        rw [show (fun r => A2 55 (10 * t + r)) = fun r => M 55 (10 * t + r) from funext fun r => eqA2 _ _ (by omega) (by omega) (by omega), usedS_eq (M := M) (fun j => eqA2 57 j (by omega) (by omega) (by omega))] at hbill
        obtain ⟨A3, z1, z2, z3, z4, z5⟩ := l_close (σ := σ) (C := C) (x2 := bl) hL.2.2.1 ht hT6 hC30 10 0 g_FU (by omega) (by unfold g_FU; omega) A2 (by rw [eqA2 _ _ (by omega) (by omega) (by omega)]; exact c1)
        have hclose : f_X0_close (110 + t) bl σ A2 = some (iN C, A3) := by
          unfold f_X0_close b_X0_close_0
          rw [eqA2 33 0 (by omega) (by omega) (by omega), c1, if_pos (by rw [show (30 : Int32) = iN 30 from rfl, iN_lt (by omega) (by omega)]; exact hC30)]
          exact z1
        refine ⟨iN C, A3, g_up B6 40 13 (iN (C + 1)), N2, ?_, ?_, fun a k h1 h2 => ?_, fun a k hh => ?_, P, T, C + 1, R, F, iv_night (t := t) hIv0 ht hCT ?_ ?_ ?_ (fun p hp => ?_) (fun p hp => ?_) (fun p h1 h2 => ?_) (fun a j h1 h2 h3 h4 h5 h6 h7 h8 h9 h10 h11 h12 h13 => ?_)⟩
        · rw [cgo, show f_X11_worthNow (110 + t) 2 σ M = some (iN rf, A0) from a1, oB]
          rw [show l_X11_night_57 g_FU (110 + t) (iN rf) 0 σ A0 = nCont t σ A1 from k2]
          unfold nCont
          rw [show f_X11_worthNow (110 + t) 3 σ A1 = some (iN fr, A2) from y1, oB, hbill, oB, hclose]
          rfl
        · rw [mgo, show f_X12_now (iN t) 2 σ Mm N = some (iN rf, B1, N1) from b1, oB]
          have hbm : f_X12_billOf (iN t) σ B1 N1 = some (bl, B4, N2) := by
            unfold f_X12_billOf b_X12_billOf_0
            rw [show f_X12_now (iN t) 3 σ B1 N1 = some (iN fr, B2, N2) from e1, oB]
            exact g1.trans w1
          rw [hbm, oB]
          exact l1.trans k3
        · rw [z5 a k (by omega) (by omega) (by omega), eqA2 a k (by omega) (by omega) (by omega)]
        · rw [g_up_ne _ _ (by omega), k4.2.2 a k (by omega), clsB5 a k hh]
        · rw [mg_c (by omega)]; exact z4
        · rw [mg_m (by omega), g_up_eq _ _ ⟨rfl, rfl⟩]
        · rw [mg_c (by omega), mg_m (by omega), z3, g_up_ne _ _ (by omega), k4.2.2 _ _ (by omega), l3 _ _ (by omega), g_up_eq _ _ ⟨rfl, rfl⟩]
        · rw [mg_c (by omega), mg_m (by omega), z2 p (by omega) hp, g_up_ne _ _ (by omega), k4.2.2 _ _ (by omega), l2 p (by omega) hp, g_up_ne _ _ (by omega), w2 _ _ (by omega), eqB3 _ _ (by omega) (by omega) (by omega) (by omega) (by omega), eqA2 _ _ (by omega) (by omega) (by omega)]
          exact (hT.2.2.2.2.2.2.2.2.2.1 t ht).2.2.2.2 p hp
        · rw [mg_c (by omega), mg_m (by omega), z5 _ _ (by omega) (by omega) (by omega), y2 _ _ (by omega) (by omega), g_up_ne _ _ (by omega)]
          exact k4.1 p hp
        · rw [mg_m (by omega), g_up_ne _ _ (by omega), k4.2.2 _ _ (by omega), eqB5 _ _ (by omega) (by omega) (by omega) (by omega) (by omega) (by omega) (by omega)]
        · unfold mg
          split
          · rename_i hh
            rw [g_up_ne _ _ (by omega), k4.2.2 a j (by omega), eqB5 a j hh.1 hh.2 h11 h10 h12 h8 h9]
          · rw [z5 a j (by omega) h5 h6, eqA2 a j h1 h2 h3]
