/-! worth, give, buy: the calls. -/
theorem lockN {M : gM} {α : Type} {fc : gM → Option (α × gM)} {fm : gM → Option (α × gM × gN)} {Q : gM → Prop} (H : ∀ Mm, mg M Mm = M → ∃ r Mc' Mm' N', fc M = some (r, Mc') ∧ fm Mm = some (r, Mm', N') ∧ (∀ a k, 40 ≤ a → a < 100 → Mc' a k = M a k) ∧ (∀ a k, a < 40 ∨ 100 ≤ a → Mm' a k = Mm a k) ∧ Q (mg Mc' Mm')) : ∃ r M1 M2 N2, fc M = some (r, M1) ∧ fm M1 = some (r, M2, N2) ∧ Q M2 := by
  obtain ⟨r, M1, _, _, h1, _, h3, _, _⟩ := H M mg_self
  obtain ⟨r', M1', M2, N2, g1, g2, _, g4, g5⟩ := H M1 (mg_eq' (fun a k _ => rfl) (fun a k h h' => (h3 a k h h').symm))
  rw [h1] at g1
  obtain ⟨rfl, rfl⟩ := Prod.mk.inj (Option.some.inj g1)
  refine ⟨r, M1, M2, N2, h1, g2, ?_⟩
  rwa [mg_eq g4] at g5
theorem mT.keep {M M' : gM} {T C : Nat} {R F : Nat → Nat} (h : mT M T C R F) (k : ∀ a j, (a = 40 ∧ 11 ≤ j ∧ j ≤ 13) ∨ (50 ≤ a ∧ a ≤ 57) → M' a j = M a j) : mT M' T C R F := by
  obtain ⟨h0, h1, h2, h3, h4, h5, h6, h7, h8, h9, h10⟩ := h
  refine ⟨h0, h1, h2, by rw [k _ _ (by omega)]; exact h3, by rw [k _ _ (by omega)]; exact h4, by rw [k _ _ (by omega)]; exact h5, h6, fun t ht => ?_, fun t ht => ?_, fun t r ht hr => ?_, h10⟩
  · have := h7 t ht
    unfold vT2 at *
    simp (disch := omega) only [k]
    exact this
  · have := h8 t ht
    unfold vT3 at *
    simp (disch := omega) only [k]
    exact this
  · have := h9 t r ht hr
    unfold vR2 at *
    simp (disch := omega) only [k]
    exact this
theorem heldF_eq {M M' : gM} (h : ∀ j, M' 56 j = M 56 j) (t : Nat) : heldF M' t = heldF M t := by
  funext r; unfold heldF; rw [h]
theorem inR_eq {L L' : Nat → Int32} (h : ∀ j, L' j = L j) (t : Nat) (x : Int32) : inR L' t x = inR L t x := by rw [show L' = L from funext h]
theorem usedF_eq {M M' : gM} (h : ∀ j, M' 57 j = M 57 j) (t : Nat) : usedF M' t = usedF M t := by
  funext r; unfold usedF; rw [inR_eq h]
theorem pplF_eq {M M' : gM} (h : ∀ j, M' 57 j = M 57 j) (t : Nat) : pplF M' t = pplF M t := by
  funext r; unfold pplF; rw [h]
theorem now_m {σ : gS} {M Mm : gM} {N : gN} {P T C t kind : Nat} {R F : Nat → Nat} {rs : List gRule} (hL : Lay σ P T R) (hP : vP M P) (hT : vT M T C R F) (ht : t < T) (hk : kind ≤ 3) (hm : ∀ a k, 40 ≤ a → a < 100 → a ≠ 74 → ¬ (a = 40 ∧ 46 ≤ k ∧ k ≤ 59) → ¬ (a = 85) → ¬ (a = 63) → Mm a k = M a k) (tell : tellsR M t rs) : ∃ M' N', f_X12_now (iN t) (iN kind) σ Mm N = some (worthI (nowF M t R) kind rs, M', N') ∧ ∀ a k, a ≠ 74 → ¬ (a = 40 ∧ 46 ≤ k ∧ k ≤ 59) → M' a k = Mm a k := by
  have hT6 := hT.1
  have hP10 := hP.1
  have hv0 : mT Mm T C R F := (mT.of hL hT (fun _ _ _ _ => rfl)).keep (fun a j h => hm a j (by omega) (by omega) (by omega) (by omega) (by omega) (by omega))
  have h57 : ∀ j, Mm 57 j = M 57 j := fun j => hm 57 j (by omega) (by omega) (by omega) (by omega) (by omega) (by omega)
  have h56 : ∀ j, Mm 56 j = M 56 j := fun j => hm 56 j (by omega) (by omega) (by omega) (by omega) (by omega) (by omega)
  have m40 : Mm 40 1 = iN P := by rw [hm _ _ (by omega) (by omega) (by omega) (by omega) (by omega) (by omega)]; exact hP.2.2.1
  have hn : ∀ p, P ≤ p → p < 10 → Mm 57 (10 * t + p) = iM := fun p h1 h2 => by rw [h57]; exact none_P hP (by omega) p h1 h2
  let L0 : Int32 := (Mm 40 15 + Mm 51 t) - Mm 40 14
  let A1 : gM := g_up Mm 40 54 L0
  let A2 : gM := g_up A1 40 55 (iN (cf (heldF M t) (R t)))
  let A3 : gM := g_up A2 40 56 (iN (cf (usedF M t) (R t)))
  let A4 : gM := g_up A3 40 57 (iN (cf (pplF M t) 10))
  have q1 : f_X12_heldIn (iN t) σ A1 = some (iN (cf (heldF M t) (R t))) := by
    rw [held_m (hv0.keep (fun a j h => g_up_ne _ _ (by omega))) (by omega), heldF_eq (M := M) (fun j => by show g_up Mm 40 54 L0 56 j = _; rw [g_up_ne _ _ (by omega)]; exact h56 j)]
  have q2 : f_X12_usedIn (iN t) σ A2 = some (iN (cf (usedF M t) (R t))) := by
    have e : ∀ j, A2 57 j = M 57 j := fun j => by show g_up (g_up Mm 40 54 L0) 40 55 _ 57 j = _; rw [g_up_ne _ _ (by omega), g_up_ne _ _ (by omega)]; exact h57 j
    rw [used_m (hv0.keep (fun a j h => by show g_up (g_up Mm 40 54 L0) 40 55 _ a j = _; rw [g_up_ne _ _ (by omega), g_up_ne _ _ (by omega)])) (by show g_up (g_up Mm 40 54 L0) 40 55 _ 40 1 = _; rw [g_up_ne _ _ (by omega), g_up_ne _ _ (by omega)]; exact m40) hP10 (fun p h1 h2 => by rw [e, ← h57]; exact hn p h1 h2) (by omega), usedF_eq (M := M) e]
  have q3 : f_X12_peopleIn (iN t) σ A3 = some (iN (cf (pplF M t) 10)) := by
    have e : ∀ j, A3 57 j = M 57 j := fun j => by show g_up (g_up (g_up Mm 40 54 L0) 40 55 _) 40 56 _ 57 j = _; rw [g_up_ne _ _ (by omega), g_up_ne _ _ (by omega), g_up_ne _ _ (by omega)]; exact h57 j
    rw [ppl_m (by show g_up (g_up (g_up Mm 40 54 L0) 40 55 _) 40 56 _ 40 1 = _; rw [g_up_ne _ _ (by omega), g_up_ne _ _ (by omega), g_up_ne _ _ (by omega)]; exact m40) hP10 (fun p h1 h2 => by rw [e, ← h57]; exact hn p h1 h2) (by omega), pplF_eq (M := M) e]
  have fr4 : ∀ a j, ¬ (a = 40 ∧ 54 ≤ j ∧ j ≤ 57) → A4 a j = Mm a j := fun a j h => by
    show g_up (g_up (g_up (g_up Mm 40 54 L0) 40 55 _) 40 56 _) 40 57 _ a j = _
    rw [g_up_ne _ _ (by omega), g_up_ne _ _ (by omega), g_up_ne _ _ (by omega), g_up_ne _ _ (by omega)]
  have hfa : facts A4 = nowF M t R := by
    funext i
    unfold facts nowF
    by_cases i0 : i = 0
    · rw [if_pos i0, if_pos i0]
      show g_up (g_up (g_up (g_up Mm 40 54 L0) 40 55 _) 40 56 _) 40 57 _ 40 54 = _
      rw [g_up_ne _ _ (by omega), g_up_ne _ _ (by omega), g_up_ne _ _ (by omega), g_up_eq _ _ ⟨rfl, rfl⟩]
      show (Mm 40 15 + Mm 51 t) - Mm 40 14 = _
      rw [hm _ _ (by omega) (by omega) (by omega) (by omega) (by omega) (by omega), hm _ _ (by omega) (by omega) (by omega) (by omega) (by omega) (by omega), hm _ _ (by omega) (by omega) (by omega) (by omega) (by omega) (by omega)]
    rw [if_neg i0, if_neg i0]
    by_cases i1 : i = 1
    · rw [if_pos i1, if_pos i1]
      show g_up (g_up (g_up (g_up Mm 40 54 L0) 40 55 _) 40 56 _) 40 57 _ 40 55 = _
      rw [g_up_ne _ _ (by omega), g_up_ne _ _ (by omega), g_up_eq _ _ ⟨rfl, rfl⟩]
    rw [if_neg i1, if_neg i1]
    by_cases i2 : i = 2
    · rw [if_pos i2, if_pos i2]
      show g_up (g_up (g_up (g_up Mm 40 54 L0) 40 55 _) 40 56 _) 40 57 _ 40 56 = _
      rw [g_up_ne _ _ (by omega), g_up_eq _ _ ⟨rfl, rfl⟩]
    rw [if_neg i2, if_neg i2]
    by_cases i3 : i = 3
    · rw [if_pos i3, if_pos i3]
      show g_up (g_up (g_up (g_up Mm 40 54 L0) 40 55 _) 40 56 _) 40 57 _ 40 57 = _
      rw [g_up_eq _ _ ⟨rfl, rfl⟩]
    rw [if_neg i3, if_neg i3, fr4 _ _ (by omega), hm _ _ (by omega) (by omega) (by omega) (by omega) (by omega) (by omega)]
  obtain ⟨M', N', w1, w2⟩ := tell σ A4 N (fun k hk => by rw [fr4 _ _ (by omega)]; exact hm _ _ (by omega) (by omega) (by omega) (by omega) (by omega) (by omega)) (by rw [fr4 _ _ (by omega)]; exact hm _ _ (by omega) (by omega) (by omega) (by omega) (by omega) (by omega)) kind hk
  rw [hfa] at w1
  refine ⟨M', N', ?_, fun a k h1 h2 => by rw [w2 a k h1 (by omega) (by omega), fr4 a k (by omega)]⟩
  unfold f_X12_now b_X12_now_0 b_X12_now_38
  rw [if_pos (by rw [iN_in (by omega)]; omega), iN_cl (by omega)]
  rw [show f_X12_heldIn (iN t) σ (g_up Mm 40 54 (Mm 40 15 + Mm 51 t - Mm 40 14)) = _ from q1, oB]
  rw [show f_X12_usedIn (iN t) σ (g_up (g_up Mm 40 54 (Mm 40 15 + Mm 51 t - Mm 40 14)) 40 55 (iN (cf (heldF M t) (R t)))) = _ from q2, oB]
  rw [show f_X12_peopleIn (iN t) σ (g_up (g_up (g_up Mm 40 54 (Mm 40 15 + Mm 51 t - Mm 40 14)) 40 55 (iN (cf (heldF M t) (R t)))) 40 56 (iN (cf (usedF M t) (R t)))) = _ from q3, oB]
  rw [show f_X12_told (iN t) (iN kind) σ (g_up (g_up (g_up (g_up Mm 40 54 (Mm 40 15 + Mm 51 t - Mm 40 14)) 40 55 (iN (cf (heldF M t) (R t)))) 40 56 (iN (cf (usedF M t) (R t)))) 40 57 (iN (cf (pplF M t) 10))) N = _ from w1]
  rfl
/-- the class's scratch of a town, the model's scratch: what is kept by all -/
theorem iv_scratch {σ : gS} {M M' : gM} {P T C t : Nat} {R F : Nat → Nat} (h : Iv σ M P T C R F) (ht : t < T) (fr : ∀ a j, a ≠ 170 + t → a ≠ 180 + t → a ≠ 74 → ¬ (a = 40 ∧ 46 ≤ j ∧ j ≤ 59) → M' a j = M a j) : Iv σ M' P T C R F := by
  obtain ⟨hL, hP, hT, hD, hN, hB, hK, hC, hX⟩ := h
  have hT6 := hT.1
  exact ⟨hL, hP.keep (fun a j h => fr a j (by omega) (by omega) (by omega) (by omega)), hT.keep (fun a j h => fr a j (by omega) (by omega) (by omega) (by omega)) (fun t ht => (hL.2.2.2.1.1 t ht).1), hD.keep (fun a j h => fr a j (by omega) (by omega) (by omega) (by omega)), hN.keep (fun a j h => fr a j (by omega) (by omega) (by omega) (by omega)), hB.keep (fun a j h => fr a j (by omega) (by omega) (by omega) (by omega)), hK.keep (fun a j h => fr a j (by omega) (by omega) (by omega) (by omega)), hC.keep (fun a j h => fr a j (by omega) (by omega) (by omega) (by omega)), hX.keep hL.2.2.2.2.1 hT.1 (fun a j h => fr a j (by omega) (by omega) (by omega) (by omega))⟩
theorem call_worth {σ : gS} {M : gM} (h : Inv σ M) (N : gN) (x y : Int32) : ∃ r M1 M2 N2, f_X11_worth x y σ M = some (r, M1) ∧ f_X12_worth x y σ M1 N = some (r, M2, N2) ∧ Inv σ M2 := by
  obtain ⟨P, T, C, R, F, hIv⟩ := h
  have hIv0 := hIv
  obtain ⟨hL, hP, hT, hD, hN, hB, hK, hC, hX⟩ := hIv
  have hT6 := hT.1
  refine lockN (Q := fun M => Inv σ M) (fm := fun Mm => f_X12_worth x y σ Mm N) (fun Mm hg => ?_)
  have hme := mEq.of hg
  have mt : Mm 40 11 = iN T := by rw [hme _ _ (by omega) (by omega)]; exact hT.2.2.2.2.1
  have same : Inv σ (mg M Mm) := by rw [hg]; exact ⟨P, T, C, R, F, hIv0⟩
  rcases idx_or x T (by omega) with ⟨t, ht, rfl⟩ | hx
  · rcases in_cases y (a := 0) (b := 3) (by omega) (by omega) with ⟨k, rfl, _, hk, e⟩ | ⟨e, _⟩
    · obtain ⟨rs, x1, x2, x3, x4, x5, x6, x7⟩ := hX.1 t ht
      obtain ⟨Mc', a1, a2⟩ := worthNow_c hL hT hD ht hk x1 x2 x3 x4 x6
      obtain ⟨Mm', N', b1, b2⟩ := now_m (Mm := Mm) (N := N) hL hP hT ht hk (fun a k h1 h2 _ _ _ _ => hme a k h1 h2) x7
      refine ⟨worthI (nowF M t R) k rs, Mc', Mm', N', ?_, ?_, fun a k h1 h2 => a2 a k (by omega) (by omega), fun a k h => b2 a k (by omega) (by omega), P, T, C, R, F, iv_scratch hIv0 ht (fun a j h1 h2 h3 h4 => ?_)⟩
      · unfold f_X11_worth b_X11_worth_0
        rw [town_in hL.2.2.1 hT.2.2.2.1 hT6 ht, oB, if_neg (by omega), w_in, show (0 : Int32) = iN 0 from rfl, show (3 : Int32) = iN 3 from rfl, e, oB, if_neg n10, a1]
        rfl
      · show f_X12_worth _ _ _ _ _ = _
        unfold f_X12_worth b_X12_worth_0
        rw [mtown_in mt hT6 ht, oB, if_neg n10', show (0 : Int32) = iN 0 from rfl, show (3 : Int32) = iN 3 from rfl, e, oB, if_neg n10, b1]
        rfl
      · unfold mg
        split
        · rename_i hh
          rw [b2 a j h3 h4, hme a j hh.1 hh.2]
        · rw [a2 a j h1 h2]
    · refine ⟨iM, M, Mm, N, ?_, ?_, fun _ _ _ _ => rfl, fun _ _ _ => rfl, same⟩
      · unfold f_X11_worth b_X11_worth_0
        rw [town_in hL.2.2.1 hT.2.2.2.1 hT6 ht, oB, if_neg (by omega), w_in, show (0 : Int32) = iN 0 from rfl, show (3 : Int32) = iN 3 from rfl, e]
        rfl
      · show f_X12_worth _ _ _ _ _ = _
        unfold f_X12_worth b_X12_worth_0
        rw [mtown_in mt hT6 ht, oB, if_neg n10', show (0 : Int32) = iN 0 from rfl, show (3 : Int32) = iN 3 from rfl, e]
        rfl
  · refine ⟨iM, M, Mm, N, ?_, ?_, fun _ _ _ _ => rfl, fun _ _ _ => rfl, same⟩
    · unfold f_X11_worth b_X11_worth_0
      rw [town_out hT.2.2.2.1 hT6 hx]; rfl
    · show f_X12_worth _ _ _ _ _ = _
      unfold f_X12_worth b_X12_worth_0
      rw [mtown_out mt hT6 hx]; rfl
theorem cost_eq (w p n : Int32) : ((p * n) * w + 99) / 100 = ((w * p) * n + 99) / 100 := by
  rw [Int32.mul_comm (p * n) w, Int32.mul_assoc]
/-- a room is given or bought back -/
theorem iv_hold {σ : gS} {M M' : gM} {P T C t r : Nat} {R F : Nat → Nat} {b : Bool} (h : Iv σ M P T C R F) (ht : t < T) (hr : r < R t) (c1 : M' (200 + 10 * t + r) 3 = bI b) (c2 : M' 56 (10 * t + r) = bI b) (c3 : M' 1 13 = M' 40 17) (fr : ∀ a j, ¬ (a = 200 + 10 * t + r ∧ j = 3) → ¬ (a = 56 ∧ j = 10 * t + r) → ¬ (a = 1 ∧ j = 13) → ¬ (a = 40 ∧ j = 17) → a ≠ 170 + t → a ≠ 180 + t → a ≠ 74 → ¬ (a = 40 ∧ 46 ≤ j ∧ j ≤ 59) → M' a j = M a j) : Iv σ M' P T C R F := by
  obtain ⟨hL, hP, hT, hD, hN, hB, hK, hC, hX⟩ := h
  have hT6 := hT.1
  have hRle : ∀ t, t < 6 → R t ≤ 10 := fun t ht => (hL.2.2.2.1.1 t ht).1
  have hRt := hRle t (by omega)
  refine ⟨hL, hP.keep (fun a j h => fr a j (by omega) (by omega) (by omega) (by omega) (by omega) (by omega) (by omega) (by omega)), ?_, ?_, hN.keep (fun a j h => fr a j (by omega) (by omega) (by omega) (by omega) (by omega) (by omega) (by omega) (by omega)), hB.keep (fun a j h => fr a j (by omega) (by omega) (by omega) (by omega) (by omega) (by omega) (by omega) (by omega)), hK.keep (fun a j h => fr a j (by omega) (by omega) (by omega) (by omega) (by omega) (by omega) (by omega) (by omega)), hC.keep (fun a j h => fr a j (by omega) (by omega) (by omega) (by omega) (by omega) (by omega) (by omega) (by omega)), hX.keep hL.2.2.2.2.1 hT.1 (fun a j h => fr a j (by omega) (by omega) (by omega) (by omega) (by omega) (by omega) (by omega) (by omega))⟩
  · obtain ⟨_, hF0, hC2, t1, t2, t3, t4, k1, k2, g7, g8, g9, g10, g11⟩ := hT
    refine ⟨hT6, hF0, hC2, ?_, ?_, ?_, ?_, ?_, ?_, fun u hu => ?_, fun u hu => ?_, fun u hu => ?_, fun u q hu hq => ?_, fun u q hu hq => ?_⟩
    · simp (disch := omega) only [fr]; exact t1
    · simp (disch := omega) only [fr]; exact t2
    · simp (disch := omega) only [fr]; exact t3
    · simp (disch := omega) only [fr]; exact t4
    · simp (disch := omega) only [fr]; exact k1
    · simp (disch := omega) only [fr]; exact k2
    · have := g7 u hu
      unfold vT1 at *
      simp (disch := omega) only [fr]
      exact this
    · have := g8 u hu
      unfold vT2 at *
      simp (disch := omega) only [fr]
      exact this
    · have := g9 u hu
      unfold vT3 at *
      simp (disch := omega) only [fr]
      exact this
    · obtain ⟨w1, w2, w3, w4⟩ := g10 u q hu hq
      have h9 := hRle u hu
      refine ⟨?_, ?_, ?_, ?_⟩
      · simp (disch := omega) only [fr]; exact w1
      · simp (disch := omega) only [fr]; exact w2
      · simp (disch := omega) only [fr]; exact w3
      · by_cases e : u = t ∧ q = r
        · obtain ⟨rfl, rfl⟩ := e; rw [c1, c2]
        · simp (disch := omega) only [fr]; exact w4
    · obtain ⟨w1, w2, w3, w4⟩ := g11 u q hu hq
      have h9 := hRle u hu
      refine ⟨?_, ?_, ?_, ?_⟩
      · simp (disch := omega) only [fr]; exact w1
      · by_cases e : u = t ∧ q = r
        · obtain ⟨rfl, rfl⟩ := e; rw [c2]; exact isB_of b
        · simp (disch := omega) only [fr]; exact w2
      · simp (disch := omega) only [fr]; exact w3
      · simp (disch := omega) only [fr]; exact w4
  · obtain ⟨q1, q2, q3, q4, q5⟩ := hD
    refine ⟨?_, ?_, ?_, c3, ?_⟩
    · simp (disch := omega) only [fr]; exact q1
    · simp (disch := omega) only [fr]; exact q2
    · simp (disch := omega) only [fr]; exact q3
    · simp (disch := omega) only [fr]; exact q5
/-- both sides: the price of a change, and the change -/
theorem change_both {σ : gS} {M Mm : gM} {N : gN} {P T C t r kind : Nat} {R F : Nat → Nat} (b : Bool) (h : Iv σ M P T C R F) (hg : mg M Mm = M) (ht : t < T) (hr : r < R t) (hk : kind ≤ 3) : ∃ q Mc' Mm' N', ((f_X11_priceOfChange (110 + t) (200 + 10 * t + r) (iN kind) σ M).bind fun q => some (q.1, (g_up q.2 (200 + 10 * t + r) 3 (bI b)))) = some (q, Mc') ∧ ((f_X12_now (iN t) (iN kind) σ Mm N).bind fun q48 => (f_X12_part_ (iN t) (iN r) q48.1 σ q48.2.1).bind fun q51 => if g_in (((10 : Int32) * iN t) + iN r) 60 = true then some (q51, (g_up (g_up q48.2.1 56 ((((10 : Int32) * iN t) + iN r).toNatClampNeg) (vp_nar .boolean (bI b))) 40 17 (((g_up q48.2.1 56 ((((10 : Int32) * iN t) + iN r).toNatClampNeg) (vp_nar .boolean (bI b))) 40 17) + q51)), q48.2.2) else none) = some (q, Mm', N') ∧ (∀ a k, 40 ≤ a → a < 100 → Mc' a k = M a k) ∧ (∀ a k, a < 40 ∨ 100 ≤ a → Mm' a k = Mm a k) ∧ Inv σ (mg Mc' Mm') := by
  have hIv0 := h
  obtain ⟨hL, hP, hT, hD, hN, hB, hK, hC, hX⟩ := h
  have hT6 := hT.1
  have hR := (hL.2.2.2.1.1 t (by omega)).1
  have hme := mEq.of hg
  obtain ⟨rs, x1, x2, x3, x4, x5, x6, x7⟩ := hX.1 t ht
  obtain ⟨Mc, a1, a2⟩ := worthNow_c hL hT hD ht hk x1 x2 x3 x4 x6
  obtain ⟨Mn, N', b1, b2⟩ := now_m (Mm := Mm) (N := N) hL hP hT ht hk (fun a k h1 h2 _ _ _ _ => hme a k h1 h2) x7
  obtain ⟨w1, w2, w3, w4⟩ := hT.2.2.2.2.2.2.2.2.2.2.2.2.1 t r (by omega) hr
  have v2 := (hT.2.2.2.2.2.2.2.2.2.1 t ht).2.1
  have e10 : (10 : Int32) * iN t + iN r = iN (10 * t + r) := by rw [show (10 : Int32) = iN 10 from rfl, iN_mul, iN_add]
  let w := worthI (nowF M t R) kind rs
  let q := ((w * M 55 (10 * t + r)) * M 50 t + 99) / 100
  have hsp : Mc 1 13 = M 40 17 := by rw [a2 _ _ (by omega) (by omega)]; exact hD.2.2.2.1
  have hsp2 : Mn 40 17 = M 40 17 := by rw [b2 _ _ (by omega) (by omega)]; exact hme _ _ (by omega) (by omega)
  refine ⟨q, (g_up (g_up Mc 1 13 (M 40 17 + q)) (200 + 10 * t + r) 3 (bI b)), (g_up (g_up Mn 56 (10 * t + r) (bI b)) 40 17 (M 40 17 + q)), N', ?_, ?_, fun a k h1 h2 => ?_, fun a k h => ?_, P, T, C, R, F, iv_hold (b := b) hIv0 ht hr ?_ ?_ ?_ (fun a j h1 h2 h3 h4 h5 h6 h7 h8 => ?_)⟩
  · unfold f_X11_priceOfChange b_X11_priceOfChange_0
    rw [a1, oB, if_pos (by rw [is_of (hL.2.2.2.1.2.1 t r (by omega) hr).1]; trivial), if_pos (by rw [is_of (hL.2.2.1.1 t ht).1.2.1]; trivial), if_neg (show ¬ (100 : Int32) = 0 by decide), oB]
    dsimp only
    rw [a2 (200 + 10 * t + r) 2 (by omega) (by omega), a2 (110 + t) 1 (by omega) (by omega), w3, v2, hsp]
  · rw [b1, oB]
    unfold f_X12_part_ b_X12_part__0
    rw [e10, if_pos (show g_in (iN (10 * t + r)) 60 = true by rw [iN_in (by omega)]; omega), if_pos (show g_in (iN t) 6 = true by rw [iN_in (by omega)]; omega), if_neg (show ¬ (100 : Int32) = 0 by decide), oB, if_pos (show g_in (iN (10 * t + r)) 60 = true by rw [iN_in (by omega)]; omega), iN_cl (by omega), iN_cl (by omega), nar_bI, g_up_ne _ _ (by omega)]
    dsimp only
    rw [b2 55 _ (by omega) (by omega), b2 50 _ (by omega) (by omega), hme 55 _ (by omega) (by omega), hme 50 _ (by omega) (by omega), cost_eq, hsp2]
  · rw [g_up_ne _ _ (by omega), g_up_ne _ _ (by omega), a2 a k (by omega) (by omega)]
  · rw [g_up_ne _ _ (by omega), g_up_ne _ _ (by omega), b2 a k (by omega) (by omega)]
  · rw [mg_c (by omega)]; simp (disch := omega) only [li_0, li_1, li_2, li_3, li_4, li_5, li_6, li_7, li_8, li_9, li_10, li_11, li_12, li_13, li_14, li_15, li_16, li_18, li_19, li_20, li_24, li_28, li_29, li_30, li_31, li_32, li_36, li_40, li_41, li_42, li_43, li_45, li_48, li_49, li_50, li_56, li_57, li_59, li_60, li_61, li_62, li_63, li_64, li_97, li_99, li_100, li_120, li_121, li_122, li_255, li_270, li_300, li_400, li_500, li_540, li_1000, li_1024, li_1440, li_9999, li_11264, li_32768, li_268435456, li_1073741824, li_m, li_o, iN_add, iN_mul, iN_lt, iN_in, iN_cl, iN_inj, iM_ne, iM_ne', iN_or, iN_xor, iN_bd, sh31n, iN_shl2, iN_shr2, iN_bit2, Nat.one_mul, oB, iff_t, iff_f, if_true, if_false, g_up_ne, g_up_eq, g_z_ne, g_z_eq]
  · rw [mg_m (by omega)]; simp (disch := omega) only [li_0, li_1, li_2, li_3, li_4, li_5, li_6, li_7, li_8, li_9, li_10, li_11, li_12, li_13, li_14, li_15, li_16, li_18, li_19, li_20, li_24, li_28, li_29, li_30, li_31, li_32, li_36, li_40, li_41, li_42, li_43, li_45, li_48, li_49, li_50, li_56, li_57, li_59, li_60, li_61, li_62, li_63, li_64, li_97, li_99, li_100, li_120, li_121, li_122, li_255, li_270, li_300, li_400, li_500, li_540, li_1000, li_1024, li_1440, li_9999, li_11264, li_32768, li_268435456, li_1073741824, li_m, li_o, iN_add, iN_mul, iN_lt, iN_in, iN_cl, iN_inj, iM_ne, iM_ne', iN_or, iN_xor, iN_bd, sh31n, iN_shl2, iN_shr2, iN_bit2, Nat.one_mul, oB, iff_t, iff_f, if_true, if_false, g_up_ne, g_up_eq, g_z_ne, g_z_eq]
  · rw [mg_c (by omega), mg_m (by omega)]; simp (disch := omega) only [li_0, li_1, li_2, li_3, li_4, li_5, li_6, li_7, li_8, li_9, li_10, li_11, li_12, li_13, li_14, li_15, li_16, li_18, li_19, li_20, li_24, li_28, li_29, li_30, li_31, li_32, li_36, li_40, li_41, li_42, li_43, li_45, li_48, li_49, li_50, li_56, li_57, li_59, li_60, li_61, li_62, li_63, li_64, li_97, li_99, li_100, li_120, li_121, li_122, li_255, li_270, li_300, li_400, li_500, li_540, li_1000, li_1024, li_1440, li_9999, li_11264, li_32768, li_268435456, li_1073741824, li_m, li_o, iN_add, iN_mul, iN_lt, iN_in, iN_cl, iN_inj, iM_ne, iM_ne', iN_or, iN_xor, iN_bd, sh31n, iN_shl2, iN_shr2, iN_bit2, Nat.one_mul, oB, iff_t, iff_f, if_true, if_false, g_up_ne, g_up_eq, g_z_ne, g_z_eq]
  · unfold mg
    split
    · rename_i hh
      rw [g_up_ne _ _ (by omega), g_up_ne _ _ (by omega), b2 a j h7 h8, hme a j hh.1 hh.2]
    · rw [g_up_ne _ _ (by omega), g_up_ne _ _ (by omega), a2 a j h5 h6]
theorem call_give {σ : gS} {M : gM} (h : Inv σ M) (N : gN) (x y : Int32) : ∃ r M1 M2 N2, f_X11_give x y σ M = some (r, M1) ∧ f_X12_give x y σ M1 N = some (r, M2, N2) ∧ Inv σ M2 := by
  obtain ⟨P, T, C, R, F, hIv⟩ := h
  have hIv0 := hIv
  obtain ⟨hL, hP, hT, hD, hN, hB, hK, hC, hX⟩ := hIv
  have hT6 := hT.1
  have hP10 := hP.1
  refine lockN (Q := fun M => Inv σ M) (fm := fun Mm => f_X12_give x y σ Mm N) (fun Mm hg => ?_)
  have hme := mEq.of hg
  have hv := mT.of hL hT hme
  have same : Inv σ (mg M Mm) := by rw [hg]; exact ⟨P, T, C, R, F, hIv0⟩
  have fail : f_X11_give x y σ M = some (iM, M) → f_X12_give x y σ Mm N = some (iM, Mm, N) → ∃ r Mc' Mm' N', f_X11_give x y σ M = some (r, Mc') ∧ f_X12_give x y σ Mm N = some (r, Mm', N') ∧ (∀ a k, 40 ≤ a → a < 100 → Mc' a k = M a k) ∧ (∀ a k, a < 40 ∨ 100 ≤ a → Mm' a k = Mm a k) ∧ Inv σ (mg Mc' Mm') := fun h1 h2 => ⟨iM, M, Mm, N, h1, h2, fun _ _ _ _ => rfl, fun _ _ _ => rfl, same⟩
  show ∃ r Mc' Mm' N', f_X11_give x y σ M = some (r, Mc') ∧ f_X12_give x y σ Mm N = some (r, Mm', N') ∧ _
  rcases idx_or x T (by omega) with ⟨t, ht, rfl⟩ | hx
  · obtain ⟨o1, _⟩ := lasts_in hL.2.2.1 hT ht
    have o2 := mopen (σ := σ) hv ht
    have hR := (hL.2.2.2.1.1 t (by omega)).1
    have c2 := (hL.2.2.1.1 t ht).1.2.1
    cases ho : overB F C t with
    | true =>
      rw [ho] at o1 o2
      refine fail ?_ ?_
      · unfold f_X11_give b_X11_give_0; rw [o1]; rfl
      · unfold f_X12_give b_X12_give_0; rw [o2]; rfl
    | false =>
      rw [ho] at o1 o2
      have o1 : f_X11_townThatLasts (iN t) σ M = some (110 + t) := o1
      have o2 : f_X12_isOpen (iN t) σ Mm = some (iN 1) := o2
      rcases idx_or y (R t) (by omega) with ⟨r, hr, rfl⟩ | hy
      · obtain ⟨w1, w2, w3, w4⟩ := hT.2.2.2.2.2.2.2.2.2.2.2.2.1 t r (by omega) hr
        have hi := (hL.2.2.2.1.2.1 t r (by omega) hr).1
        have m56 : Mm 56 (10 * t + r) = M 56 (10 * t + r) := hme _ _ (by omega) (by omega)
        have e10 : (10 : Int32) * iN t + iN r = iN (10 * t + r) := by rw [show (10 : Int32) = iN 10 from rfl, iN_mul, iN_add]
        have hset := setIn_m (σ := σ) (M := Mm) (x := iN r) (show t < 6 by omega) (by rw [hme _ _ (by omega) (by omega)]; exact hP.2.2.1) hP10 (fun q h1 h2 => by rw [hme _ _ (by omega) (by omega)]; exact none_P hP (by omega) q h1 h2) (fun e => by rw [iM_ne (by omega)] at e; exact e)
        rw [hme.row 57 (by omega) (by omega)] at hset
        have cgo : f_X11_give (iN t) (iN r) σ M = if M 56 (10 * t + r) = 0 then some (-1, M) else if iN (inR (M 57) t (iN r)) = 0 then ((f_X11_priceOfChange (110 + t) (200 + 10 * t + r) (iN 0) σ M).bind fun q => some (q.1, (g_up q.2 (200 + 10 * t + r) 3 (bI false)))) else some (-1, M) := by
          unfold f_X11_give b_X11_give_0 b_X11_give_19
          rw [o1, oB, if_neg (by omega), if_pos (by rw [is_of c2]; trivial), (room_in hL.2.2.1 hL.2.2.2.1 hT ht hr).1, oB, if_neg (by omega), if_pos (show g_is σ (200 + 10 * t + r) 8 = true by rw [is_of hi]; trivial), w4, if_pos (show g_is σ (110 + t) 10 = true by rw [is_of c2]; trivial), guests_c hL.2.2.1 ht (hT.2.2.2.2.2.2.2.2.2.1 t ht), oB]
          rfl
        have mgo : f_X12_give (iN t) (iN r) σ Mm N = if M 56 (10 * t + r) = 0 then some (-1, Mm, N) else if iN (inR (M 57) t (iN r)) = 0 then ((f_X12_now (iN t) (iN 0) σ Mm N).bind fun q48 => (f_X12_part_ (iN t) (iN r) q48.1 σ q48.2.1).bind fun q51 => if g_in (((10 : Int32) * iN t) + iN r) 60 = true then some (q51, (g_up (g_up q48.2.1 56 ((((10 : Int32) * iN t) + iN r).toNatClampNeg) (vp_nar .boolean (bI false))) 40 17 (((g_up q48.2.1 56 ((((10 : Int32) * iN t) + iN r).toNatClampNeg) (vp_nar .boolean (bI false))) 40 17) + q51)), q48.2.2) else none) else some (-1, Mm, N) := by
          unfold f_X12_give b_X12_give_0
          rw [o2, oB, if_neg n10', mroom_in hv (by omega) hr, oB, if_neg n10', hset, oB, if_pos (show g_in (((10 : Int32) * iN t) + iN r) 60 = true by rw [e10, iN_in (by omega)]; omega)]
          rw [show Mm 56 (((10 : Int32) * iN t) + iN r).toNatClampNeg = M 56 (10 * t + r) by rw [e10, iN_cl (by omega)]; exact m56]
          rfl
        by_cases k1 : M 56 (10 * t + r) = 0
        · refine fail ?_ ?_
          · rw [cgo, if_pos k1]; rfl
          · rw [mgo, if_pos k1]; rfl
        · by_cases k2 : iN (inR (M 57) t (iN r)) = 0
          · rw [cgo, mgo, if_neg k1, if_neg k1, if_pos k2, if_pos k2]
            exact change_both false hIv0 hg ht hr (by omega)
          · refine fail ?_ ?_
            · rw [cgo, if_neg k1, if_neg k2]; rfl
            · rw [mgo, if_neg k1, if_neg k2]; rfl
      · refine fail ?_ ?_
        · unfold f_X11_give b_X11_give_0
          rw [o1, oB, if_neg (by omega), if_pos (by rw [is_of c2]; trivial), (room_out hL.2.2.1 hL.2.2.2.1 hT ht hy).1]; rfl
        · unfold f_X12_give b_X12_give_0
          rw [o2, oB, if_neg n10', mroom_out hv (by omega) hy]; rfl
  · refine fail ?_ ?_
    · unfold f_X11_give b_X11_give_0; rw [(lasts_out (σ := σ) hT hx).1]; rfl
    · unfold f_X12_give b_X12_give_0; rw [mopen_out hv hx]; rfl
theorem call_buy {σ : gS} {M : gM} (h : Inv σ M) (N : gN) (x y : Int32) : ∃ r M1 M2 N2, f_X11_buy x y σ M = some (r, M1) ∧ f_X12_buy x y σ M1 N = some (r, M2, N2) ∧ Inv σ M2 := by
  obtain ⟨P, T, C, R, F, hIv⟩ := h
  have hIv0 := hIv
  obtain ⟨hL, hP, hT, hD, hN, hB, hK, hC, hX⟩ := hIv
  have hT6 := hT.1
  refine lockN (Q := fun M => Inv σ M) (fm := fun Mm => f_X12_buy x y σ Mm N) (fun Mm hg => ?_)
  have hme := mEq.of hg
  have hv := mT.of hL hT hme
  have same : Inv σ (mg M Mm) := by rw [hg]; exact ⟨P, T, C, R, F, hIv0⟩
  have fail : f_X11_buy x y σ M = some (iM, M) → f_X12_buy x y σ Mm N = some (iM, Mm, N) → ∃ r Mc' Mm' N', f_X11_buy x y σ M = some (r, Mc') ∧ f_X12_buy x y σ Mm N = some (r, Mm', N') ∧ (∀ a k, 40 ≤ a → a < 100 → Mc' a k = M a k) ∧ (∀ a k, a < 40 ∨ 100 ≤ a → Mm' a k = Mm a k) ∧ Inv σ (mg Mc' Mm') := fun h1 h2 => ⟨iM, M, Mm, N, h1, h2, fun _ _ _ _ => rfl, fun _ _ _ => rfl, same⟩
  show ∃ r Mc' Mm' N', f_X11_buy x y σ M = some (r, Mc') ∧ f_X12_buy x y σ Mm N = some (r, Mm', N') ∧ _
  rcases idx_or x T (by omega) with ⟨t, ht, rfl⟩ | hx
  · obtain ⟨o1, _⟩ := lasts_in hL.2.2.1 hT ht
    have o2 := mopen (σ := σ) hv ht
    have hR := (hL.2.2.2.1.1 t (by omega)).1
    have c2 := (hL.2.2.1.1 t ht).1.2.1
    cases ho : overB F C t with
    | true =>
      rw [ho] at o1 o2
      refine fail ?_ ?_
      · unfold f_X11_buy b_X11_buy_0; rw [o1]; rfl
      · unfold f_X12_buy b_X12_buy_0; rw [o2]; rfl
    | false =>
      rw [ho] at o1 o2
      have o1 : f_X11_townThatLasts (iN t) σ M = some (110 + t) := o1
      have o2 : f_X12_isOpen (iN t) σ Mm = some (iN 1) := o2
      rcases idx_or y (R t) (by omega) with ⟨r, hr, rfl⟩ | hy
      · obtain ⟨w1, w2, w3, w4⟩ := hT.2.2.2.2.2.2.2.2.2.2.2.2.1 t r (by omega) hr
        have hi := (hL.2.2.2.1.2.1 t r (by omega) hr).1
        have m56 : Mm 56 (10 * t + r) = M 56 (10 * t + r) := hme _ _ (by omega) (by omega)
        have e10 : (10 : Int32) * iN t + iN r = iN (10 * t + r) := by rw [show (10 : Int32) = iN 10 from rfl, iN_mul, iN_add]
        have cgo : f_X11_buy (iN t) (iN r) σ M = if M 56 (10 * t + r) = 0 then ((f_X11_priceOfChange (110 + t) (200 + 10 * t + r) (iN 1) σ M).bind fun q => some (q.1, (g_up q.2 (200 + 10 * t + r) 3 (bI true)))) else some (-1, M) := by
          unfold f_X11_buy b_X11_buy_0 b_X11_buy_19
          rw [o1, oB, if_neg (by omega), if_pos (by rw [is_of c2]; trivial), (room_in hL.2.2.1 hL.2.2.2.1 hT ht hr).1, oB, if_neg (by omega), if_pos (by rw [is_of hi]; trivial), w4]
          rfl
        have mgo : f_X12_buy (iN t) (iN r) σ Mm N = if M 56 (10 * t + r) = 0 then ((f_X12_now (iN t) (iN 1) σ Mm N).bind fun q48 => (f_X12_part_ (iN t) (iN r) q48.1 σ q48.2.1).bind fun q51 => if g_in (((10 : Int32) * iN t) + iN r) 60 = true then some (q51, (g_up (g_up q48.2.1 56 ((((10 : Int32) * iN t) + iN r).toNatClampNeg) (vp_nar .boolean (bI true))) 40 17 (((g_up q48.2.1 56 ((((10 : Int32) * iN t) + iN r).toNatClampNeg) (vp_nar .boolean (bI true))) 40 17) + q51)), q48.2.2) else none) else some (-1, Mm, N) := by
          unfold f_X12_buy b_X12_buy_0
          rw [o2, oB, if_neg n10', mroom_in hv (by omega) hr, oB, if_neg n10', if_pos (show g_in (((10 : Int32) * iN t) + iN r) 60 = true by rw [e10, iN_in (by omega)]; omega)]
          rw [show Mm 56 (((10 : Int32) * iN t) + iN r).toNatClampNeg = M 56 (10 * t + r) by rw [e10, iN_cl (by omega)]; exact m56]
          rfl
        by_cases k1 : M 56 (10 * t + r) = 0
        · rw [cgo, mgo, if_pos k1, if_pos k1]
          exact change_both true hIv0 hg ht hr (by omega)
        · refine fail ?_ ?_
          · rw [cgo, if_neg k1]; rfl
          · rw [mgo, if_neg k1]; rfl
      · refine fail ?_ ?_
        · unfold f_X11_buy b_X11_buy_0
          rw [o1, oB, if_neg (by omega), if_pos (by rw [is_of c2]; trivial), (room_out hL.2.2.1 hL.2.2.2.1 hT ht hy).1]; rfl
        · unfold f_X12_buy b_X12_buy_0
          rw [o2, oB, if_neg n10', mroom_out hv (by omega) hy]; rfl
  · refine fail ?_ ?_
    · unfold f_X11_buy b_X11_buy_0; rw [(lasts_out (σ := σ) hT hx).1]; rfl
    · unfold f_X12_buy b_X12_buy_0; rw [mopen_out hv hx]; rfl
