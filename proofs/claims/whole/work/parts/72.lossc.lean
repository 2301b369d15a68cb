/-! loss, gives: the calls. -/
theorem l_m12 {σ : gS} {t sm : Nat} {x2 x3 x4 : Int32} {N : gN} (hsm : sm ≤ 1000) : ∀ k i n M, i + k = 121 → k < n → ∃ M', l_X12_losses_12 n (iN t) x2 x3 x4 (iN sm) (iN i) σ M N = ((f_X12_heldIn (iN t) σ (g_up M' 40 62 0)).bind fun q83 => (f_X12_usedIn (iN t) σ (g_up M' 40 62 0)).bind fun q90 => l_X12_losses_98 g_FU (iN t) x2 x3 x4 q83 q90 1 σ (g_up M' 40 62 0) N) ∧ (∀ j, i ≤ j → j < 121 → M' 75 j = iN (L0F sm (j / 11) (j - j / 11 * 11))) ∧ ∀ a j, ¬ (a = 75 ∧ i ≤ j) → M' a j = M a j := by
  intro k
  induction k with
  | zero =>
    intro i n M hi hn
    obtain ⟨n, rfl⟩ : ∃ m, n = m + 1 := ⟨n - 1, by omega⟩
    refine ⟨M, ?_, fun j h1 h2 => by omega, fun a j _ => rfl⟩
    rw [l_X12_losses_12, if_neg (by rw [show (121 : Int32) = iN 121 from rfl, iN_lt (by omega) (by omega)]; omega)]
  | succ k ih =>
    intro i n M hi hn
    obtain ⟨n, rfl⟩ : ∃ m, n = m + 1 := ⟨n - 1, by omega⟩
    have gi : g_in (iN i) 121 = true := by rw [iN_in (by omega)]; omega
    obtain ⟨M', q1, q2, q3⟩ := ih (i + 1) n (g_up M 75 i (iN (L0F sm (i / 11) (i - i / 11 * 11)))) (by omega) (by omega)
    refine ⟨M', ?_, fun j h1 h2 => ?_, fun a j g => by rw [q3 a j (by omega), g_up_ne _ _ (by omega)]⟩
    · have n11 : ¬ (11 : Int32) = 0 := by decide
      have e1 : iN i / (11 : Int32) = iN (i / 11) := by rw [show (11 : Int32) = iN 11 from rfl, iN_div (by omega) (by omega)]
      have e2 : iN i - iN (i / 11) * (11 : Int32) = iN (i - i / 11 * 11) := by rw [show (11 : Int32) = iN 11 from rfl, iN_mul, iN_sub (by omega)]
      rw [l_X12_losses_12, if_pos (by rw [show (121 : Int32) = iN 121 from rfl, iN_lt (by omega) (by omega)]; omega), if_neg n11, if_neg n11, e1, e2]
      unfold b_X12_losses_69
      rw [if_pos gi, if_pos gi, eS, iN_cl (by omega)]
      by_cases c : i - i / 11 * 11 < i / 11
      · rw [if_pos (show iN (i - i / 11 * 11) < iN (i / 11) by rw [iN_lt (by omega) (by omega)]; exact c), if_neg n11, if_neg n11, iN_sub (by omega), show (100 : Int32) = iN 100 from rfl, iN_mul]
        unfold L0F at q1
        rw [if_pos (by omega)] at q1
        exact q1
      · rw [if_neg (show ¬ iN (i - i / 11 * 11) < iN (i / 11) by rw [iN_lt (by omega) (by omega)]; exact c), if_neg n11, if_neg n11, iN_sub (by omega), iN_mul]
        unfold L0F at q1
        by_cases c2 : i - i / 11 * 11 ≤ i / 11
        · rw [if_pos c2, show 100 * (i / 11 - (i - i / 11 * 11)) = sm * (i - i / 11 * 11 - i / 11) by rw [show i / 11 - (i - i / 11 * 11) = 0 by omega, show i - i / 11 * 11 - i / 11 = 0 by omega]; simp] at q1
          exact q1
        · rw [if_neg c2] at q1
          exact q1
    · by_cases c : j = i
      · subst c
        rw [q3 _ _ (by omega), g_up_eq _ _ ⟨rfl, rfl⟩]
      · exact q2 j (by omega) h2
theorem counts_m {σ : gS} {M M1 : gM} {P T C t : Nat} {R F : Nat → Nat} (hL : Lay σ P T R) (hP : vP M P) (hT : vT M T C R F) (ht : t < T) (h : ∀ a j, (a = 40 ∧ (j = 1 ∨ (11 ≤ j ∧ j ≤ 13))) ∨ (50 ≤ a ∧ a ≤ 57) → M1 a j = M a j) : f_X12_heldIn (iN t) σ M1 = some (iN (cf (heldF M t) (R t))) ∧ f_X12_usedIn (iN t) σ M1 = some (iN (cf (usedF M t) (R t))) ∧ f_X12_peopleIn (iN t) σ M1 = some (iN (cf (pplF M t) 10)) := by
  have hT6 := hT.1
  have hv : mT M1 T C R F := (mT.of hL hT (fun _ _ _ _ => rfl)).keep (fun a j q => h a j (by omega))
  have m40 : M1 40 1 = iN P := by rw [h _ _ (by omega)]; exact hP.2.2.1
  have e57 : ∀ j, M1 57 j = M 57 j := fun j => h _ _ (by omega)
  have hn : ∀ p, P ≤ p → p < 10 → M1 57 (10 * t + p) = iM := fun p h1 h2 => by rw [e57]; exact none_P hP (by omega) p h1 h2
  refine ⟨?_, ?_, ?_⟩
  · rw [held_m hv (by omega), heldF_eq (M := M) (fun j => h _ _ (by omega))]
  · rw [used_m hv m40 hP.1 hn (by omega), usedF_eq (M := M) e57]
  · rw [ppl_m m40 hP.1 hn (by omega), pplF_eq (M := M) e57]
theorem losses_m {σ : gS} {M Mm : gM} {N : gN} {P T C t d up dn sm : Nat} {R F : Nat → Nat} {rs : List gRule} (hL : Lay σ P T R) (hP : vP M P) (hT : vT M T C R F) (ht : t < T) (hm : ∀ a k, 40 ≤ a → a < 100 → Mm a k = M a k) (tell : tellsR M t rs) (hd : d ≤ 30) (hup : up ≤ 3) (hdn : dn ≤ 3) (hsm : sm ≤ 1000) : ∃ M' N', f_X12_losses (iN t) (iN d) (iN up) (iN dn) (iN sm) σ Mm N = some (M', N') ∧ M' 75 (11 * cf (heldF M t) (R t) + cf (usedF M t) (R t)) = iN (LsF (feeF (nowF M t R) rs) sm up dn d (cf (heldF M t) (R t)) (cf (usedF M t) (R t))) ∧ M' 40 62 = iN (GvF (feeF (nowF M t R) rs) sm up dn d (cf (heldF M t) (R t)) (cf (usedF M t) (R t))) ∧ ∀ a j, a ≠ 74 → a ≠ 75 → a ≠ 76 → ¬ (a = 40 ∧ 46 ≤ j ∧ j ≤ 62) → M' a j = Mm a j := by
  have hT6 := hT.1
  have hR := (hL.2.2.2.1.1 t (by omega)).1
  have hH := cf_le (heldF M t) (R t)
  have hU := cf_le (usedF M t) (R t)
  obtain ⟨M1, a1, a2, a3⟩ := l_m12 (σ := σ) (t := t) (sm := sm) (x2 := iN d) (x3 := iN up) (x4 := iN dn) (N := N) hsm 121 0 g_FU (g_up Mm 40 57 (iN (cf (pplF M t) 10))) (by omega) (by unfold g_FU; omega)
  let B : gM := g_up M1 40 62 0
  have fB : ∀ a j, ¬ (a = 40 ∧ (j = 57 ∨ j = 62)) → a ≠ 75 → B a j = Mm a j := fun a j g1 g2 => by
    show g_up M1 40 62 0 a j = _
    rw [g_up_ne _ _ (by omega), a3 a j (by omega), g_up_ne _ _ (by omega)]
  obtain ⟨k1, k2, _⟩ := counts_m (σ := σ) (M1 := B) hL hP hT ht (fun a j q => by rw [fB a j (by omega) (by omega)]; exact hm a j (by omega) (by omega))
  obtain ⟨_, _, k3⟩ := counts_m (σ := σ) (M1 := Mm) hL hP hT ht (fun a j q => hm a j (by omega) (by omega))
  have b57 : B 40 57 = iN (cf (pplF M t) 10) := by
    show g_up M1 40 62 0 40 57 = _
    rw [g_up_ne _ _ (by omega), a3 _ _ (by omega), g_up_eq _ _ ⟨rfl, rfl⟩]
  obtain ⟨M', N', q1, q2, q3, q4⟩ := l_m98 (σ := σ) (Mb := M) (fa := nowF M t R) (d := d) (sm := sm) (h0 := cf (heldF M t) (R t)) (u0 := cf (usedF M t) (R t)) tell hd hsm hup hdn (by omega) (by omega) d 0 g_FU B N (by omega) (by unfold g_FU; omega) (fun g v g1 g2 => by
      show g_up M1 40 62 0 75 (11 * g + v) = _
      rw [g_up_ne _ _ (by omega), a2 _ (by omega) (by omega), show (11 * g + v) / 11 = g by omega, show 11 * g + v - g * 11 = v by omega]
      rfl) ⟨fun j => by rw [fB _ _ (by omega) (by omega)]; exact hm _ _ (by omega) (by omega), fun j => by rw [fB _ _ (by omega) (by omega)]; exact hm _ _ (by omega) (by omega), by rw [b57]; rfl, fun i hi => by
      rw [fB _ _ (by omega) (by omega), hm _ _ (by omega) (by omega)]
      unfold nowF
      rw [if_neg (by omega), if_neg (by omega), if_neg (by omega), if_neg (by omega)]⟩ (g_up_eq _ _ ⟨rfl, rfl⟩)
  refine ⟨M', N', ?_, q2, q3, fun a j g1 g2 g3 g4 => by rw [q4 a j (by unfold lsK; omega) g2 g3, fB a j (by omega) g2]⟩
  unfold f_X12_losses b_X12_losses_0
  rw [k3, oB, show l_X12_losses_12 g_FU (iN t) (iN d) (iN up) (iN dn) (iN sm) 0 σ (g_up Mm 40 57 (iN (cf (pplF M t) 10))) N = _ from a1, show f_X12_heldIn (iN t) σ (g_up M1 40 62 0) = _ from k1, oB, show f_X12_usedIn (iN t) σ (g_up M1 40 62 0) = _ from k2, oB]
  exact q1
theorem gate_no {σ : gS} {M Mm : gM} {t : Nat} {x1 x2 x3 x4 x5 a b c d : Int32} (tc : f_X11_townAt x1 σ M = some (110 + t)) (tm : f_X12_isTown x1 σ Mm = some (iN 1)) (e2 : f_X12_in x2 0 30 = some a) (e3 : f_X12_in x3 0 3 = some b) (e4 : f_X12_in x4 0 3 = some c) (e5 : f_X12_in x5 0 1000 = some d) : ((a = 0 ∨ b = 0 ∨ c = 0 ∨ d = 0) → f_X11_foresee x1 x2 x3 x4 x5 σ M = some (0, M) ∧ f_X12_isLoss x1 x2 x3 x4 x5 σ Mm = some 0) ∧ (¬ (a = 0 ∨ b = 0 ∨ c = 0 ∨ d = 0) → f_X11_foresee x1 x2 x3 x4 x5 σ M = ((f_X11_learnFacts (110 + t) σ M).bind fun q60 => if g_is σ (110 + t) 10 then (f_X3_foresee (σ.2 (110 + t) 5) x2 x3 x4 x5 σ q60).bind fun q78 => some (1, q78) else none) ∧ f_X12_isLoss x1 x2 x3 x4 x5 σ Mm = some 1) := by
  unfold f_X11_foresee b_X11_foresee_0 f_X12_isLoss b_X12_isLoss_0
  simp only [tc, tm, w_in, e2, e3, e4, e5, oB]
  rw [if_neg (show ¬ 110 + t = 0 by omega), if_neg (show ¬ iN 1 = (0 : Int32) by decide)]
  by_cases h2 : a = 0
  · rw [if_pos h2, if_pos h2]; exact ⟨fun _ => ⟨rfl, rfl⟩, fun q => absurd (Or.inl h2) q⟩
  rw [if_neg h2, if_neg h2]
  by_cases h5 : d = 0
  · rw [if_pos h5]
    refine ⟨fun _ => ⟨rfl, ?_⟩, fun q => absurd (Or.inr (Or.inr (Or.inr h5))) q⟩
    by_cases h3 : b = 0
    · rw [if_pos h3]
    rw [if_neg h3]
    by_cases h4 : c = 0
    · rw [if_pos h4]
    rw [if_neg h4, if_pos h5]
  rw [if_neg h5]
  by_cases h3 : b = 0
  · rw [if_pos h3, if_pos h3]; exact ⟨fun _ => ⟨rfl, rfl⟩, fun q => absurd (Or.inr (Or.inl h3)) q⟩
  rw [if_neg h3, if_neg h3]
  by_cases h4 : c = 0
  · rw [if_pos h4, if_pos h4]; exact ⟨fun _ => ⟨rfl, rfl⟩, fun q => absurd (Or.inr (Or.inr (Or.inl h4))) q⟩
  rw [if_neg h4, if_neg h4, if_neg h5]
  exact ⟨fun q => by rcases q with q | q | q | q <;> contradiction, fun _ => ⟨rfl, rfl⟩⟩
/-- losses' scratch: what is kept by all -/
theorem iv_loss {σ : gS} {M M' : gM} {P T C t : Nat} {R F : Nat → Nat} (h : Iv σ M P T C R F) (ht : t < T) (fr : ∀ a j, ¬ (20 ≤ a ∧ a ≤ 23) → a ≠ 170 + t → a ≠ 180 + t → a ≠ 74 → a ≠ 75 → a ≠ 76 → ¬ (a = 40 ∧ 46 ≤ j ∧ j ≤ 62) → M' a j = M a j) : Iv σ M' P T C R F := by
  obtain ⟨hL, hP, hT, hD, hN, hB, hK, hC, hX⟩ := h
  have hT6 := hT.1
  exact ⟨hL, hP.keep (fun a j h => fr a j (by omega) (by omega) (by omega) (by omega) (by omega) (by omega) (by omega)), hT.keep (fun a j h => fr a j (by omega) (by omega) (by omega) (by omega) (by omega) (by omega) (by omega)) (fun t ht => (hL.2.2.2.1.1 t ht).1), hD.keep (fun a j h => fr a j (by omega) (by omega) (by omega) (by omega) (by omega) (by omega) (by omega)), hN.keep (fun a j h => fr a j (by omega) (by omega) (by omega) (by omega) (by omega) (by omega) (by omega)), hB.keep (fun a j h => fr a j (by omega) (by omega) (by omega) (by omega) (by omega) (by omega) (by omega)), hK.keep (fun a j h => fr a j (by omega) (by omega) (by omega) (by omega) (by omega) (by omega) (by omega)), hC.keep (fun a j h => fr a j (by omega) (by omega) (by omega) (by omega) (by omega) (by omega) (by omega)), hX.keep hL.2.2.2.2.1 hT.1 (fun a j h => fr a j (by omega) (by omega) (by omega) (by omega) (by omega) (by omega) (by omega))⟩
/-- both foresee the same, or both refuse -/
theorem fore_both {σ : gS} {M Mm : gM} {N : gN} {P T C : Nat} {R F : Nat → Nat} (hIv : Iv σ M P T C R F) (hme : ∀ a k, 40 ≤ a → a < 100 → Mm a k = M a k) (x1 x2 x3 x4 x5 : Int32) : (f_X11_foresee x1 x2 x3 x4 x5 σ M = some (0, M) ∧ f_X12_isLoss x1 x2 x3 x4 x5 σ Mm = some 0) ∨ ∃ t H U l g Mc' Mm' N', t < T ∧ x1 = iN t ∧ H ≤ 10 ∧ U ≤ 10 ∧ f_X11_foresee x1 x2 x3 x4 x5 σ M = some (1, Mc') ∧ Mc' 20 0 = l ∧ Mc' 20 1 = g ∧ f_X12_isLoss x1 x2 x3 x4 x5 σ Mm = some 1 ∧ f_X12_losses x1 x2 x3 x4 x5 σ Mm N = some (Mm', N') ∧ f_X12_heldIn x1 σ Mm' = some (iN H) ∧ f_X12_usedIn x1 σ Mm' = some (iN U) ∧ Mm' 75 (11 * H + U) = l ∧ Mm' 40 62 = g ∧ (∀ a j, ¬ (20 ≤ a ∧ a ≤ 23) → a ≠ 170 + t → a ≠ 180 + t → Mc' a j = M a j) ∧ ∀ a j, a ≠ 74 → a ≠ 75 → a ≠ 76 → ¬ (a = 40 ∧ 46 ≤ j ∧ j ≤ 62) → Mm' a j = Mm a j := by
  have hIv0 := hIv
  obtain ⟨hL, hP, hT, hD, hN, hB, hK, hC, hX⟩ := hIv
  have hT6 := hT.1
  have mt : Mm 40 11 = iN T := by rw [hme _ _ (by omega) (by omega)]; exact hT.2.2.2.2.1
  rcases idx_or x1 T (by omega) with ⟨t, ht, rfl⟩ | hx
  · have tc := town_in hL.2.2.1 hT.2.2.2.1 hT6 ht
    have tm := mtown_in (σ := σ) mt hT6 ht
    have D := in_cases x2 (a := 0) (b := 30) (by omega) (by omega)
    have U3 := in_cases x3 (a := 0) (b := 3) (by omega) (by omega)
    have N3 := in_cases x4 (a := 0) (b := 3) (by omega) (by omega)
    have S3 := in_cases x5 (a := 0) (b := 1000) (by omega) (by omega)
    rcases D with ⟨d, rfl, _, hd, e2⟩ | ⟨e2, _⟩
    · rcases U3 with ⟨up, rfl, _, hup, e3⟩ | ⟨e3, _⟩
      · rcases N3 with ⟨dn, rfl, _, hdn, e4⟩ | ⟨e4, _⟩
        · rcases S3 with ⟨sm, rfl, _, hsm, e5⟩ | ⟨e5, _⟩
          · right
            obtain ⟨g1, g2⟩ := (gate_no tc tm e2 e3 e4 e5).2 (by decide)
            obtain ⟨rs, x1, x2, x3, x4, x5, x6, x7⟩ := hX.1 t ht
            have hR := (hL.2.2.2.1.1 t (by omega)).1
            have hH := cf_le (heldF M t) (R t)
            have hU := cf_le (usedF M t) (R t)
            obtain ⟨M1, a1, a2, a3⟩ := learn_c hL hT hD ht
            have hs : ctS σ T t rs := ⟨hL.2.2.1, hL.2.2.2.2.1, hT6, ht, x1, x2, x3⟩
            have hc : ctR σ M1 t rs := ctR.keep (M := M) ⟨x4, x6⟩ hs (fun a j h => a3 a j (by omega))
            obtain ⟨Mc', b1, b2, b3, b4⟩ := fore_c (σ := σ) (fa := nowF M t R) (M := M1) (d := d) (u0 := cf (usedF M t) (R t)) (up := up) (dn := dn) (H := cf (heldF M t) (R t)) (sm := sm) hs hd (by omega) hup hdn (by omega) hsm hc (a2 1 (by omega)) (a2 2 (by omega)) (a2 3 (by omega)) (a2 4 (by omega))
            obtain ⟨Mm', N', c1, c2, c3, c4⟩ := losses_m (σ := σ) (N := N) (d := d) (up := up) (dn := dn) (sm := sm) hL hP hT ht hme x7 hd hup hdn hsm
            obtain ⟨k1, k2, _⟩ := counts_m (σ := σ) (M1 := Mm') hL hP hT ht (fun a j q => by rw [c4 a j (by omega) (by omega) (by omega) (by omega)]; exact hme a j (by omega) (by omega))
            obtain ⟨⟨t1, t2, t3, t4, t5, _⟩, _⟩ := hL.2.2.1.1 t ht
            refine ⟨t, cf (heldF M t) (R t), cf (usedF M t) (R t), _, _, Mc', Mm', N', ht, rfl, by omega, by omega, ?_, b2, b3, g2, c1, k1, k2, c2, c3, fun a j q1 q2 q3 => by rw [b4 a j q1 q2 q3, a3 a j q2], c4⟩
            rw [g1, a1, oB, if_pos (by rw [is_of t2]; trivial), t5, b1]
            rfl
          · exact Or.inl ((gate_no tc tm e2 e3 e4 e5).1 (by decide))
        · obtain ⟨y, e5⟩ : ∃ y, f_X12_in x5 0 1000 = some y := by rcases S3 with ⟨_, _, _, _, h⟩ | ⟨h, _⟩ <;> exact ⟨_, h⟩
          exact Or.inl ((gate_no tc tm e2 e3 e4 e5).1 (Or.inr (Or.inr (Or.inl rfl))))
      · obtain ⟨y, e5⟩ : ∃ y, f_X12_in x5 0 1000 = some y := by rcases S3 with ⟨_, _, _, _, h⟩ | ⟨h, _⟩ <;> exact ⟨_, h⟩
        obtain ⟨z, e4⟩ : ∃ y, f_X12_in x4 0 3 = some y := by rcases N3 with ⟨_, _, _, _, h⟩ | ⟨h, _⟩ <;> exact ⟨_, h⟩
        exact Or.inl ((gate_no tc tm e2 e3 e4 e5).1 (Or.inr (Or.inl rfl)))
    · obtain ⟨y, e5⟩ : ∃ y, f_X12_in x5 0 1000 = some y := by rcases S3 with ⟨_, _, _, _, h⟩ | ⟨h, _⟩ <;> exact ⟨_, h⟩
      obtain ⟨z, e4⟩ : ∃ y, f_X12_in x4 0 3 = some y := by rcases N3 with ⟨_, _, _, _, h⟩ | ⟨h, _⟩ <;> exact ⟨_, h⟩
      obtain ⟨w, e3⟩ : ∃ y, f_X12_in x3 0 3 = some y := by rcases U3 with ⟨_, _, _, _, h⟩ | ⟨h, _⟩ <;> exact ⟨_, h⟩
      exact Or.inl ((gate_no tc tm e2 e3 e4 e5).1 (Or.inl rfl))
  · refine Or.inl ⟨?_, ?_⟩
    · unfold f_X11_foresee b_X11_foresee_0
      rw [town_out hT.2.2.2.1 hT6 hx, oB, if_pos rfl]
    · unfold f_X12_isLoss b_X12_isLoss_0
      rw [mtown_out mt hT6 hx, oB, if_pos (show iN 0 = (0 : Int32) from rfl)]
theorem call_loss {σ : gS} {M : gM} (h : Inv σ M) (N : gN) (x1 x2 x3 x4 x5 : Int32) : ∃ r M1 M2 N2, f_X11_loss x1 x2 x3 x4 x5 σ M = some (r, M1) ∧ f_X12_loss x1 x2 x3 x4 x5 σ M1 N = some (r, M2, N2) ∧ Inv σ M2 := by
  obtain ⟨P, T, C, R, F, hIv⟩ := h
  refine lockN (Q := fun M => Inv σ M) (fm := fun Mm => f_X12_loss x1 x2 x3 x4 x5 σ Mm N) (fun Mm hg => ?_)
  have hme := mEq.of hg
  have hT6 := hIv.2.2.1.1
  rcases fore_both (N := N) hIv hme x1 x2 x3 x4 x5 with ⟨e1, e2⟩ | ⟨t, H, U, l, g, Mc', Mm', N', ht, rfl, hH, hU, e1, e3, e4, e2, c1, c2, c3, c4, c5, f1, f2⟩
  · refine ⟨-1, M, Mm, N, ?_, ?_, fun _ _ _ _ => rfl, fun _ _ _ => rfl, by rw [hg]; exact ⟨P, T, C, R, F, hIv⟩⟩
    · unfold f_X11_loss b_X11_loss_0
      rw [e1, oB, if_pos rfl]
    · show f_X12_loss _ _ _ _ _ _ _ _ = _
      unfold f_X12_loss b_X12_loss_0
      rw [e2, oB, if_pos rfl]
  · refine ⟨l, Mc', Mm', N', ?_, ?_, fun a k h1 h2 => f1 a k (by omega) (by omega) (by omega), fun a k h => f2 a k (by omega) (by omega) (by omega) (by omega), P, T, C, R, F, iv_loss hIv ht (fun a j h1 h2 h3 h4 h5 h6 h7 => ?_)⟩
    · unfold f_X11_loss b_X11_loss_0
      rw [e1, oB, if_neg (show ¬ (1 : Int32) = 0 by decide), ← e3]
    · show f_X12_loss _ _ _ _ _ _ _ _ = _
      have gi : g_in (iN (11 * H + U)) 121 = true := by rw [iN_in (by omega)]; omega
      unfold f_X12_loss b_X12_loss_0
      rw [e2, oB, if_neg (show ¬ (1 : Int32) = 0 by decide), c1, oB, c2, oB, c3, oB, e11', if_pos gi, iN_cl (by omega), ← c4]
    · unfold mg
      split
      · rename_i hh
        rw [f2 a j h4 h5 h6 h7, hme a j hh.1 hh.2]
      · rw [f1 a j h1 h2 h3]
theorem call_gives {σ : gS} {M : gM} (h : Inv σ M) (N : gN) (x1 x2 x3 x4 x5 : Int32) : ∃ r M1 M2 N2, f_X11_gives x1 x2 x3 x4 x5 σ M = some (r, M1) ∧ f_X12_gives x1 x2 x3 x4 x5 σ M1 N = some (r, M2, N2) ∧ Inv σ M2 := by
  obtain ⟨P, T, C, R, F, hIv⟩ := h
  refine lockN (Q := fun M => Inv σ M) (fm := fun Mm => f_X12_gives x1 x2 x3 x4 x5 σ Mm N) (fun Mm hg => ?_)
  have hme := mEq.of hg
  have hT6 := hIv.2.2.1.1
  rcases fore_both (N := N) hIv hme x1 x2 x3 x4 x5 with ⟨e1, e2⟩ | ⟨t, H, U, l, g, Mc', Mm', N', ht, rfl, hH, hU, e1, e3, e4, e2, c1, c2, c3, c4, c5, f1, f2⟩
  · refine ⟨-1, M, Mm, N, ?_, ?_, fun _ _ _ _ => rfl, fun _ _ _ => rfl, by rw [hg]; exact ⟨P, T, C, R, F, hIv⟩⟩
    · unfold f_X11_gives b_X11_gives_0
      rw [e1, oB, if_pos rfl]
    · show f_X12_gives _ _ _ _ _ _ _ _ = _
      unfold f_X12_gives b_X12_gives_0
      rw [e2, oB, if_pos rfl]
  · refine ⟨g, Mc', Mm', N', ?_, ?_, fun a k h1 h2 => f1 a k (by omega) (by omega) (by omega), fun a k h => f2 a k (by omega) (by omega) (by omega) (by omega), P, T, C, R, F, iv_loss hIv ht (fun a j h1 h2 h3 h4 h5 h6 h7 => ?_)⟩
    · unfold f_X11_gives b_X11_gives_0
      rw [e1, oB, if_neg (show ¬ (1 : Int32) = 0 by decide), ← e4]
    · show f_X12_gives _ _ _ _ _ _ _ _ = _
      unfold f_X12_gives b_X12_gives_0
      rw [e2, oB, if_neg (show ¬ (1 : Int32) = 0 by decide), c1, oB, ← c5]
    · unfold mg
      split
      · rename_i hh
        rw [f2 a j h4 h5 h6 h7, hme a j hh.1 hh.2]
      · rw [f1 a j h1 h2 h3]
