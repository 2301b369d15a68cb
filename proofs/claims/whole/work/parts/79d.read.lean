/-! read: the call. -/
theorem l_read20 {σ : gS} {b : Nat → Nat} {n : Nat} {x : Int32} {N : gN} (hn : n ≤ 400) : ∀ k i f A, i + k = n → k < f → A 40 41 = iN n → A 40 46 = iN n → (∀ j, j < n → b j < 256 ∧ A 70 j = sb (b j)) → (∀ j, j < i → A 74 j = sb (b j)) → ∃ A', l_X12_read_20 f x (iN i) σ A N = ((f_X12_goes (-1) σ A' N).bind fun q53 => if (0 : Int32) < (q53.1 40 51) then some (((q53.1 40 51) + ((10 : Int32) * (q53.1 40 52))), q53.1, q53.2) else l_X12_read_78 g_FU x 0 σ q53.1 q53.2) ∧ textM A' b n ∧ A' 40 41 = iN 0 ∧ ∀ a j, a ≠ 74 → ¬ (a = 40 ∧ j = 41) → A' a j = A a j := by
  intro k
  induction k with
  | zero =>
    intro i f A hi hf h41 h46 h70 h74
    obtain ⟨f, rfl⟩ : ∃ m, f = m + 1 := ⟨f - 1, by omega⟩
    refine ⟨g_up A 40 41 0, ?_, ⟨hn, by rw [g_up_ne _ _ (by omega)]; exact h46, fun j hj => ⟨(h70 j hj).1, by rw [g_up_ne _ _ (by omega)]; exact h74 j (by omega)⟩⟩, g_up_eq _ _ ⟨rfl, rfl⟩, fun a j h1 h2 => g_up_ne _ _ h2⟩
    rw [l_X12_read_20, h41, if_neg (by rw [iN_lt (by omega) (by omega)]; omega)]
  | succ k ih =>
    intro i f A hi hf h41 h46 h70 h74
    obtain ⟨f, rfl⟩ : ∃ m, f = m + 1 := ⟨f - 1, by omega⟩
    obtain ⟨t1, t2⟩ := h70 i (by omega)
    obtain ⟨A', q1, q2, q3, q4⟩ := ih (i + 1) f (g_up A 74 i (sb (b i))) (by omega) (by omega) (by rw [g_up_ne _ _ (by omega)]; exact h41) (by rw [g_up_ne _ _ (by omega)]; exact h46) (fun j hj => by rw [g_up_ne _ _ (by omega)]; exact h70 j hj) (fun j hj => by
      by_cases c : j = i
      · rw [c, g_up_eq _ _ ⟨rfl, rfl⟩]
      · rw [g_up_ne _ _ (by omega)]; exact h74 j (by omega))
    refine ⟨A', ?_, q2, q3, fun a j h1 h2 => by rw [q4 a j h1 h2, g_up_ne _ _ (by omega)]⟩
    rw [l_X12_read_20, h41, if_pos (by rw [iN_lt (by omega) (by omega)]; omega), if_pos (by rw [iN_in (by omega)]; omega), if_pos (by rw [iN_in (by omega)]; omega), eS, iN_cl (by omega), t2, sb_nar _ t1]
    exact q1
theorem l_read78 {σ : gS} {b : Nat → Nat} {n t : Nat} {N : gN} (hn : n ≤ 400) (ht : t < 6) : ∀ k i f A, i + k = n → k < f → textM A b n → (∀ j, j < i → A 71 (400 * t + j) = sb (b j)) → ∃ A', l_X12_read_78 f (iN t) (iN i) σ A N = some (iN 0, A', N) ∧ (∀ j, j < n → A' 71 (400 * t + j) = sb (b j)) ∧ A' 72 t = iN n ∧ A' 73 t = A 40 58 ∧ ∀ a j, ¬ (a = 71 ∧ 400 * t ≤ j ∧ j < 400 * t + 400) → ¬ (a = 72 ∧ j = t) → ¬ (a = 73 ∧ j = t) → A' a j = A a j := by
  intro k
  induction k with
  | zero =>
    intro i f A hi hf hT h71
    obtain ⟨f, rfl⟩ : ∃ m, f = m + 1 := ⟨f - 1, by omega⟩
    have gi : g_in (iN t) 6 = true := by rw [iN_in (by omega)]; exact ht
    refine ⟨g_up (g_up A 72 t (iN n)) 73 t (A 40 58), ?_, fun j hj => ?_, ?_, g_up_eq _ _ ⟨rfl, rfl⟩, fun a j h1 h2 h3 => by rw [g_up_ne _ _ h3, g_up_ne _ _ h2]⟩
    · rw [l_X12_read_78, hT.2.1, if_neg (by rw [iN_lt (by omega) (by omega)]; omega), if_pos gi, if_pos gi, iN_cl (by omega), g_up_ne (b := 40) _ _ (by omega)]
      rfl
    · rw [g_up_ne _ _ (by omega), g_up_ne _ _ (by omega)]; exact h71 j (by omega)
    · rw [g_up_ne _ _ (by omega), g_up_eq _ _ ⟨rfl, rfl⟩]
  | succ k ih =>
    intro i f A hi hf hT h71
    obtain ⟨f, rfl⟩ : ∃ m, f = m + 1 := ⟨f - 1, by omega⟩
    obtain ⟨t1, t2⟩ := hT.2.2 i (by omega)
    obtain ⟨A', q1, q2, q3, q4, q5⟩ := ih (i + 1) f (g_up A 71 (400 * t + i) (sb (b i))) (by omega) (by omega) (hT.keep (fun a j h => g_up_ne _ _ (by omega))) (fun j hj => by
      by_cases c : j = i
      · rw [c, g_up_eq _ _ ⟨rfl, rfl⟩]
      · rw [g_up_ne _ _ (by omega)]; exact h71 j (by omega))
    refine ⟨A', ?_, q2, q3, by rw [q4, g_up_ne _ _ (by omega)], fun a j h1 h2 h3 => by rw [q5 a j h1 h2 h3, g_up_ne _ _ (by omega)]⟩
    rw [l_X12_read_78, hT.2.1, if_pos (by rw [iN_lt (by omega) (by omega)]; omega), show (400 : Int32) * iN t + iN i = iN (400 * t + i) from by rw [show (400 : Int32) = iN 400 from rfl, iN_mul, iN_add], if_pos (by rw [iN_in (by omega)]; omega), if_pos (by rw [iN_in (by omega)]; omega), eS, iN_cl (by omega), iN_cl (by omega), t2, sb_nar _ t1]
    exact q1
theorem call_read {σ : gS} {M : gM} (h : Inv σ M) (N : gN) (x : Int32) : ∃ r σ1 M1 N1 M2 N2, f_X11_read x σ M N = some (r, σ1, M1, N1) ∧ g_layL σ1 ∧ f_X12_read x σ1 M1 N1 = some (r, M2, N2) ∧ Inv σ1 M2 := by
  have h0 := h
  obtain ⟨P, T, C, R, F, hL, hP, hT, hD, hN, hB, hK, hC, hX⟩ := h
  have hT6 := hT.1
  have t1 := hT.2.2.2.1
  have t2 := hT.2.2.2.2.1
  rcases idx_or x T (by omega) with ⟨t, ht, rfl⟩ | hx
  · obtain ⟨n, k1, k2, k3, k4⟩ := hK
    let b : Nat → Nat := fun k => (M 11 k).toNatClampNeg
    have hb : ∀ k, k < n → b k < 256 ∧ M 11 k = iN (b k) ∧ M 70 k = sb (b k) := fun k hk => by
      obtain ⟨c, c1, c2, c3, c4⟩ := k4 k hk
      have e : b k = c := by show (M 11 k).toNatClampNeg = c; rw [c3, iN_cl (by omega)]
      rw [e]
      exact ⟨c2, c3, c4⟩
    obtain ⟨res, o1, c1, m1⟩ := simText (b := b) k1
    have hcr := c1 σ M ⟨k1, k2, fun k hk => ⟨(hb k hk).1, (hb k hk).2.1⟩⟩
    -- the model, up to its reading
    have mS : ∀ (σ' : gS) (M1 : gM) (N1 : gN), (∀ a j, 40 ≤ a → a < 100 → M1 a j = M a j) → ∃ A, f_X12_read (iN t) σ' M1 N1 = ((f_X12_goes (-1) σ' A N1).bind fun q53 => if (0 : Int32) < (q53.1 40 51) then some (((q53.1 40 51) + ((10 : Int32) * (q53.1 40 52))), q53.1, q53.2) else l_X12_read_78 g_FU (iN t) 0 σ' q53.1 q53.2) ∧ textM A b n ∧ A 40 41 = iN 0 ∧ ∀ a j, a ≠ 74 → ¬ (a = 40 ∧ (j = 41 ∨ j = 46)) → A a j = M1 a j := fun σ' M1 N1 hm => by
      have h41 : M1 40 41 = iN n := by rw [hm _ _ (by omega) (by omega)]; exact k3
      obtain ⟨A, q1, q2, q3, q4⟩ := l_read20 (σ := σ') (x := iN t) (N := N1) (b := b) k1 n 0 g_FU (g_up M1 40 46 (iN n)) (by omega) (by unfold g_FU; omega) (by rw [g_up_ne _ _ (by omega)]; exact h41) (g_up_eq _ _ ⟨rfl, rfl⟩) (fun j hj => ⟨(hb j hj).1, by rw [g_up_ne _ _ (by omega), hm _ _ (by omega) (by omega)]; exact (hb j hj).2.2⟩) (fun j hj => by omega)
      refine ⟨A, ?_, q2, q3, fun a j h1 h2 => by rw [q4 a j h1 (by omega), g_up_ne _ _ (by omega)]⟩
      unfold f_X12_read b_X12_read_0
      rw [mtown_in (by rw [hm _ _ (by omega) (by omega)]; exact t2) hT6 ht, oB, if_neg (show ¬ iN 1 = (0 : Int32) by decide), h41]
      exact q1
    have cS : ∀ {q16 : Int32 × gM}, f_X7_readText σ M = some q16 → f_X11_read (iN t) σ M N = if q16.1 = (0 : Int32) then (f_X2_take (140 + t) σ q16.2 N).bind fun q32 => if g_layCB q32.1 = true then some (q16.1, q32.1, q32.2.1, q32.2.2) else none else some (q16.1, σ, q16.2, N) := fun {q16} e => by
      obtain ⟨y1, y2⟩ := hL.2.2.1.1 t ht
      unfold f_X11_read b_X11_read_0
      rw [town_in hL.2.2.1 t1 hT6 ht, oB, if_neg (by omega), e, oB, y1.2.2.2.2.1, if_pos (show g_is σ (110 + t) 10 = true by rw [is_of y1.2.1]; trivial), if_pos (show g_is σ (140 + t) 2 = true by rw [is_of y2.1]; trivial)]
    cases res with
    | inl f =>
      obtain ⟨M1, q1, q2, q3⟩ := hcr
      obtain ⟨o1, o2, o3⟩ := o1
      obtain ⟨A, u1, u2, u3, u4⟩ := mS σ M1 N (fun a j h1 h2 => q3 a j (by omega) (by omega) (by omega) (by omega))
      obtain ⟨A2, N2, w1, w2, w3, w4⟩ := m1 (-1) σ A N u2
      have hr : ¬ iN (10 * f.2 + f.1) = (0 : Int32) := by rw [show (0 : Int32) = iN 0 from rfl, iN_inj (by omega) (by omega)]; omega
      have fr : ∀ a j, ¬ (a = 7 ∨ a = 37 ∨ a = 38) → a ≠ 8 → a ≠ 9 → a ≠ 10 → a ≠ 74 → ¬ (a = 40 ∧ (j = 41 ∨ (46 ≤ j ∧ j ≤ 52) ∨ (58 ≤ j ∧ j ≤ 59))) → A2 a j = M a j := fun a j h1 h2 h3 h4 h5 h6 => by rw [w4 a j (by omega) (by omega), u4 a j h5 (by omega), q3 a j (by omega) h2 h3 h4]
      refine ⟨iN (10 * f.2 + f.1), σ, M1, N, A2, N2, ?_, hL.1, ?_, P, T, C, R, F, hL, hP.keep (fun a j h => fr a j (by omega) (by omega) (by omega) (by omega) (by omega) (by omega)), hT.keep (fun a j h => fr a j (by omega) (by omega) (by omega) (by omega) (by omega) (by omega)) (fun t ht => (hL.2.2.2.1.1 t ht).1), hD.keep (fun a j h => fr a j (by omega) (by omega) (by omega) (by omega) (by omega) (by omega)), hN.keep (fun a j h => fr a j (by omega) (by omega) (by omega) (by omega) (by omega) (by omega)), hB.keep (fun a j h => fr a j (by omega) (by omega) (by omega) (by omega) (by omega) (by omega)), ⟨0, by omega, ?_, ?_, fun k hk => by omega⟩, hC.keep (fun a j h => fr a j (by omega) (by omega) (by omega) (by omega) (by omega) (by omega)), hX.keep hL.2.2.2.2.1 hT6 (fun a j h => fr a j (by omega) (by omega) (by omega) (by omega) (by omega) (by omega))⟩
      · rw [cS q1, if_neg hr]
      · rw [u1, w1, oB, if_pos (show (0 : Int32) < A2 40 51 by rw [w2, show (0 : Int32) = iN 0 from rfl, iN_lt (by omega) (by omega)]; omega)]
        show some (A2 40 51 + 10 * A2 40 52, A2, N2) = _
        rw [w2, w3, show (10 : Int32) = iN 10 from rfl, iN_mul, iN_add, Nat.add_comm]
      · rw [w4 _ _ (by omega) (by omega), u4 _ _ (by omega) (by omega)]; exact q2
      · rw [w4 _ _ (by omega) (by omega)]; exact u3
    | inr rs =>
      obtain ⟨M', q1, q2, q3, q4, q5, q6⟩ := hcr
      obtain ⟨o1, o2, o3⟩ := o1
      rw [Nat.zero_add] at q3 q4
      obtain ⟨σ1, M1, N1, a1, a2, a3, a4, a5, a6, a7, a8, a9, a10⟩ := take_c (N := N) hL hT6 hP.1 ht q3 q4 (by omega)
      have f1 : ∀ a j, 40 ≤ a → a < 100 → M1 a j = M a j := fun a j h1 h2 => by rw [a9 a j (by omega) (by omega) (by omega) (by omega), q6 a j (by omega) (by omega) (by omega) (by omega)]
      obtain ⟨A, u1, u2, u3, u4⟩ := mS σ1 M1 N1 f1
      obtain ⟨A2, N2, w1, w2, w3, w4, w5⟩ := m1 (-1) σ1 A N1 u2
      obtain ⟨A3, z1, z2, z3, z4, z5⟩ := l_read78 (σ := σ1) (b := b) (t := t) (N := N2) k1 (by omega) n 0 g_FU A2 (by omega) (by unfold g_FU; omega) (u2.keep (fun a j h => w5 a j (by omega) (by omega))) (fun j hj => by omega)
      have fm : ∀ a j, a ≠ 74 → ¬ (a = 40 ∧ (j = 41 ∨ (46 ≤ j ∧ j ≤ 52) ∨ (58 ≤ j ∧ j ≤ 59))) → ¬ (a = 71 ∧ 400 * t ≤ j ∧ j < 400 * t + 400) → ¬ (a = 72 ∧ j = t) → ¬ (a = 73 ∧ j = t) → A3 a j = M1 a j := fun a j h1 h2 h3 h4 h5 => by rw [z5 a j h3 h4 h5, w5 a j (by omega) (by omega), u4 a j h1 (by omega)]
      have fr : ∀ a j, ¬ (a = 7 ∨ a = 37 ∨ a = 38) → a ≠ 8 → a ≠ 9 → a ≠ 10 → a ≠ 74 → ¬ (a = 40 ∧ (j = 41 ∨ (46 ≤ j ∧ j ≤ 52) ∨ (58 ≤ j ∧ j ≤ 59))) → ¬ (a = 71 ∧ 400 * t ≤ j ∧ j < 400 * t + 400) → ¬ (a = 72 ∧ j = t) → ¬ (a = 73 ∧ j = t) → ¬ (a = 140 + t ∧ j = 5) → a ≠ 150 + t → a ≠ 160 + t → a ≠ σ1.2 (140 + t) 4 → A3 a j = M a j := fun a j h1 h2 h3 h4 h5 h6 h7 h8 h9 h10 h11 h12 h13 => by
        rw [fm a j h5 h6 h7 h8 h9, a9 a j h10 h11 h12 h13, q6 a j (by omega) (by omega) (by omega) (by omega)]
      have fs : ∀ a j, ¬ (a = 7 ∨ a = 37 ∨ a = 38) → a ≠ 8 → a ≠ 9 → a ≠ 10 → ¬ (71 ≤ a ∧ a ≤ 74) → ¬ (a = 40 ∧ (j = 41 ∨ (46 ≤ j ∧ j ≤ 52) ∨ (58 ≤ j ∧ j ≤ 59))) → ¬ (140 ≤ a ∧ a < 200) → a < 1000 → A3 a j = M a j := fun a j h1 h2 h3 h4 h5 h6 h7 h8 => fr a j h1 h2 h3 h4 (by omega) h6 (by omega) (by omega) (by omega) (by omega) (by omega) (by omega) (by omega)
      refine ⟨iN 0, σ1, M1, N1, A3, N2, ?_, a2.1, ?_, P, T, C, R, F, a2, hP.keep (fun a j h => fs a j (by omega) (by omega) (by omega) (by omega) (by omega) (by omega) (by omega) (by omega)), hT.keep (fun a j h => fs a j (by omega) (by omega) (by omega) (by omega) (by omega) (by omega) (by omega) (by omega)) (fun t ht => (hL.2.2.2.1.1 t ht).1), hD.keep (fun a j h => fs a j (by omega) (by omega) (by omega) (by omega) (by omega) (by omega) (by omega) (by omega)), hN.keep (fun a j h => fs a j (by omega) (by omega) (by omega) (by omega) (by omega) (by omega) (by omega) (by omega)), hB.keep (fun a j h => fs a j (by omega) (by omega) (by omega) (by omega) (by omega) (by omega) (by omega) (by omega)), ⟨0, by omega, ?_, ?_, fun k hk => by omega⟩, hC.keep (fun a j h => fs a j (by omega) (by omega) (by omega) (by omega) (by omega) (by omega) (by omega) (by omega)), fun u hu => ?_, fun u h1 h2 => ?_⟩
      · rw [cS q1, if_pos (show iN 0 = (0 : Int32) from rfl), a1, oB, if_pos (by rw [layCB_of a2.1.1]; trivial)]
      · rw [u1, w1, oB, if_neg (show ¬ (0 : Int32) < A2 40 51 by rw [w2]; decide)]
        exact z1
      · rw [fm _ _ (by omega) (by omega) (by omega) (by omega) (by omega), a9 _ _ (by omega) (by omega) (by omega) (by omega)]; exact q2
      · rw [z5 _ _ (by omega) (by omega) (by omega), w5 _ _ (by omega) (by omega)]; exact u3
      · by_cases e : u = t
        · subst e
          refine ⟨rs, by omega, o2, a7, ?_, ?_, ?_, ?_⟩
          · rw [fm _ _ (by omega) (by omega) (by omega) (by omega) (by omega)]; exact a3
          · rw [z4]; exact w3
          · refine hasR.keep rs 0 0 (fun j hj => ?_) (fun j hj => ?_) (fun j hj => ?_) q5
            · rw [fm _ _ (by omega) (by omega) (by omega) (by omega) (by omega)]; exact a4 j (by omega)
            · rw [fm _ _ (by omega) (by omega) (by omega) (by omega) (by omega)]; exact a5 j (by omega)
            · rw [fm _ _ (by omega) (by omega) (by omega) (by omega) (by omega)]; exact a6 j (by omega)
          · exact tells_of k1 (by omega) (fun k hk => ⟨(hb k hk).1, z2 k hk⟩) z3 m1
        · obtain ⟨rs', x1, x2, x3, x4, x5, x6, x7⟩ := hX.1 u hu
          obtain ⟨e1, e2⟩ := a10 u hu e
          have hd := hL.2.2.2.2.1.at hu
          have hd2 : σ.2 (140 + u) 4 = 190 + u ∨ (100000 + 1000 * u ≤ σ.2 (140 + u) 4 ∧ σ.2 (140 + u) 4 ≤ 100400 + 1000 * u) := by
            obtain ⟨a, n', d1, d2, d3, d4, d5⟩ := hL.2.2.2.2.1.1 u hu
            omega
          have fu : ∀ a j, (a = 140 + u ∧ j = 5) ∨ a = 150 + u ∨ a = 160 + u ∨ a = σ.2 (140 + u) 4 ∨ (a = 71 ∧ 400 * u ≤ j ∧ j < 400 * u + 400) ∨ (a = 72 ∧ j = u) ∨ (a = 73 ∧ j = u) → A3 a j = M a j := fun a j h => fr a j (by omega) (by omega) (by omega) (by omega) (by omega) (by omega) (by omega) (by omega) (by omega) (by omega) (by omega) (by omega) (by omega)
          refine ⟨rs', x1, x2, ?_, by rw [fu _ _ (by omega)]; exact x4, by rw [fu _ _ (by omega)]; exact x5, ?_, ?_⟩
          · rw [e1]
            unfold g_ln at *
            rw [e2]
            exact x3
          · rw [e1]
            exact hasR.keep rs' 0 0 (fun j _ => fu _ _ (by omega)) (fun j _ => fu _ _ (by omega)) (fun j _ => fu _ _ (by omega)) x6
          · intro σ' Mx Nx g1 g2 kind hk
            exact x7 σ' Mx Nx (fun k hk => by rw [g1 k hk, fu _ _ (by omega)]) (by rw [g2, fu _ _ (by omega)]) kind hk
      · obtain ⟨y1, y2⟩ := hX.2 u h1 h2
        rw [fr _ _ (by omega) (by omega) (by omega) (by omega) (by omega) (by omega) (by omega) (by omega) (by omega) (by omega) (by omega) (by omega) (by omega), fr _ _ (by omega) (by omega) (by omega) (by omega) (by omega) (by omega) (by omega) (by omega) (by omega) (by omega) (by omega) (by omega) (by omega)]
        exact ⟨y1, y2⟩
  · refine ⟨iM, σ, M, N, M, N, ?_, hL.1, ?_, h0⟩
    · unfold f_X11_read b_X11_read_0
      rw [town_out t1 hT6 hx, oB, if_pos rfl]
      rfl
    · unfold f_X12_read b_X12_read_0
      rw [mtown_out t2 hT6 hx, oB, if_pos (show iN 0 = (0 : Int32) from rfl)]
      rfl
