/-! New cells and references: what of the layout stays. -/
theorem nS1_ne {σ : gS} {a b kd n : Nat} (h : b ≠ a) : (g_nS σ a kd n).1 b = σ.1 b := if_neg h
theorem nS1_eq {σ : gS} {a b kd n : Nat} (h : b = a) : (g_nS σ a kd n).1 b = some (kd, n) := if_pos h
theorem nS2_ne {σ : gS} {a b k kd n : Nat} (h : b ≠ a) : (g_nS σ a kd n).2 b k = σ.2 b k := if_neg h
theorem nS2_eq {σ : gS} {a b k kd n : Nat} (h : b = a) : (g_nS σ a kd n).2 b k = 0 := if_pos h
theorem pS1 {σ : gS} {a k r : Nat} : (g_pS σ a k r).1 = σ.1 := rfl
theorem pS2_ne {σ : gS} {a k r b j : Nat} (h : ¬ (b = a ∧ j = k)) : (g_pS σ a k r).2 b j = σ.2 b j := g_up_ne _ _ h
theorem pS2_eq {σ : gS} {a k r b j : Nat} (h : b = a ∧ j = k) : (g_pS σ a k r).2 b j = r := g_up_eq _ _ h
theorem fr_of {σ : gS} {a : Nat} (h0 : a ≠ 0) (h1 : a < 1000000000) (h : σ.1 a = none) : (g_fr σ a = true) = True := by
  unfold g_fr g_EXT
  rw [h, decide_eq_true ⟨h0, h1⟩]
  simp
theorem lSC_lt : ∀ q ∈ lSC, q.1 ≠ 36 ∧ q.1 < 39 := by decide
theorem lSM_lt : ∀ q ∈ lSM, q.1 < 100 ∧ 40 ≤ q.1 := by decide
theorem lRC_ok : ∀ q ∈ lRC, q.1 < 36 ∧ q.1 ≠ 3 ∧ q.1 ≠ 4 ∧ q.1 ≠ 18 ∧ ¬ (q.1 = 12 ∧ q.2.1 = 13) := by decide
theorem lRM_ok : ∀ q ∈ lRM, q.1 = 40 := by decide
theorem layC_nS {σ : gS} {a kd n : Nat} (h : g_layC σ) (ha : a = 36 ∨ 39 ≤ a) : g_layC (g_nS σ a kd n) := by
  refine ⟨fun q hq => ?_, fun q hq => ?_⟩
  · rw [nS1_ne (by have := lSC_lt q hq; omega)]; exact h.1 q hq
  · rw [nS2_ne (by have := lRC_ok q hq; omega)]; exact h.2 q hq
theorem layC_pS {σ : gS} {a k r : Nat} (h : g_layC σ) (ha : 36 ≤ a ∨ a = 3 ∨ a = 4 ∨ a = 18 ∨ (a = 12 ∧ k = 13)) : g_layC (g_pS σ a k r) := by
  refine ⟨fun q hq => h.1 q hq, fun q hq => ?_⟩
  rw [pS2_ne (by have := lRC_ok q hq; omega)]; exact h.2 q hq
theorem layM_nS {σ : gS} {a kd n : Nat} (h : g_layM σ) (ha : a < 40 ∨ 100 ≤ a) : g_layM (g_nS σ a kd n) := by
  refine ⟨fun q hq => ?_, fun q hq => ?_⟩
  · rw [nS1_ne (by have := lSM_lt q hq; omega)]; exact h.1 q hq
  · rw [nS2_ne (by have := lRM_ok q hq; omega)]; exact h.2 q hq
theorem layM_pS {σ : gS} {a k r : Nat} (h : g_layM σ) (ha : a ≠ 40) : g_layM (g_pS σ a k r) := by
  refine ⟨fun q hq => h.1 q hq, fun q hq => ?_⟩
  rw [pS2_ne (by have := lRM_ok q hq; omega)]; exact h.2 q hq
theorem layL_nS {σ : gS} {a kd n : Nat} (h : g_layL σ) (ha : a = 36 ∨ 100 ≤ a) : g_layL (g_nS σ a kd n) := ⟨layC_nS h.1 (by omega), layM_nS h.2.1 (by omega), by rw [nS1_ne (by omega)]; exact h.2.2⟩
theorem layL_pS {σ : gS} {a k r : Nat} (h : g_layL σ) (ha : 100 ≤ a ∨ a = 3 ∨ a = 4 ∨ a = 18 ∨ (a = 12 ∧ k = 13)) : g_layL (g_pS σ a k r) := ⟨layC_pS h.1 (by omega), layM_pS h.2.1 (by omega), h.2.2⟩
theorem layCB_of {σ : gS} (h : g_layC σ) : (g_layCB σ = true) = True := by
  apply propext
  refine ⟨fun _ => trivial, fun _ => ?_⟩
  unfold g_layCB
  rw [Bool.and_eq_true, List.all_eq_true, List.all_eq_true]
  exact ⟨fun q hq => decide_eq_true (h.1 q hq), fun q hq => decide_eq_true (h.2 q hq)⟩
theorem layLB_of {σ : gS} (h : g_layL σ) : (g_layLB σ = true) = True := by
  apply propext
  refine ⟨fun _ => trivial, fun _ => ?_⟩
  unfold g_layLB
  have h1 := h.2.1
  rw [Bool.and_eq_true, Bool.and_eq_true]
  refine ⟨by rw [layCB_of h.1]; trivial, ?_, decide_eq_true h.2.2⟩
  unfold g_layMB
  rw [Bool.and_eq_true, List.all_eq_true, List.all_eq_true]
  exact ⟨fun q hq => decide_eq_true (h1.1 q hq), fun q hq => decide_eq_true (h1.2 q hq)⟩
theorem lyP.keep {σ σ' : gS} {P : Nat} (h : lyP σ P) (h10 : P ≤ 10) (k1 : ∀ a, 100 ≤ a → a < 110 → σ'.1 a = σ.1 a) (k2 : ∀ k, σ'.2 3 k = σ.2 3 k) : lyP σ' P := by
  refine ⟨fun p hp => ?_, fun p hp h => ?_⟩
  · rw [k1 _ (by omega) (by omega), k2]; exact h.1 p hp
  · rw [k1 _ (by omega) (by omega)]; rename_i h1; exact h1.2 p hp h
theorem lyT.keep {σ σ' : gS} {T : Nat} (h : lyT σ T) (h6 : T ≤ 6) (k1 : ∀ a, 110 ≤ a → a < 200 → σ'.1 a = σ.1 a) (k2 : ∀ a k, a = 4 ∨ (110 ≤ a ∧ a < 120) ∨ (140 ≤ a ∧ a < 150 ∧ k ≠ 4) → σ'.2 a k = σ.2 a k) : lyT σ' T := by
  refine ⟨fun t ht => ?_, fun t h1 h2 j h3 h4 => ?_⟩
  · have := h.1 t ht
    unfold lyTt lyCt at *
    simp (disch := omega) only [k1, k2]
    exact this
  · rw [k1 _ (by omega) (by omega)]; exact h.2 t h1 h2 j h3 h4
theorem lyR.keep {σ σ' : gS} {T : Nat} {R : Nat → Nat} (h : lyR σ T R) (k1 : ∀ a, 200 ≤ a → a < 260 → σ'.1 a = σ.1 a) (k2 : ∀ a k, 120 ≤ a → a < 126 → σ'.2 a k = σ.2 a k) : lyR σ' T R := by
  refine ⟨h.1, fun t r h1 h2 => ?_, fun t r h1 h2 h3 => ?_⟩
  · have h3 := (h.1 t h1).1
    rw [k1 _ (by omega) (by omega), k2 _ _ (by omega) (by omega)]; exact h.2.1 t r h1 h2
  · rw [k1 _ (by omega) (by omega)]; exact h.2.2 t r h1 h2 h3
theorem lyD.keep {σ σ' : gS} {T : Nat} (h : lyD σ T) (h6 : T ≤ 6) (k1 : ∀ a, (190 ≤ a ∧ a < 200) ∨ 100000 ≤ a → σ'.1 a = σ.1 a) (k2 : ∀ a, 140 ≤ a → a < 146 → σ'.2 a 4 = σ.2 a 4) : lyD σ' T := by
  refine ⟨fun t ht => ?_, fun t h1 h2 m hm => ?_⟩
  · obtain ⟨a, n, h1, h2, h3, h4, h5⟩ := h.1 t ht
    refine ⟨a, n, by rw [k2 _ (by omega) (by omega)]; exact h1, by rw [k1 _ (by omega)]; exact h2, h3, h4, fun m h6 h7 => by rw [k1 _ (by omega)]; exact h5 m h6 h7⟩
  · rw [k1 _ (by omega)]; exact h.2 t h1 h2 m hm
theorem lyB.keep {σ σ' : gS} (h : lyB σ) (k1 : ∀ a, a = 36 ∨ (10000 ≤ a ∧ a ≤ 21264) → σ'.1 a = σ.1 a) (k2 : σ'.2 12 13 = σ.2 12 13) : lyB σ' := by
  obtain ⟨a, n, h1, h2, h3, h4, h5⟩ := h
  exact ⟨a, n, by rw [k2]; exact h1, by rw [k1 _ (by omega)]; exact h2, h3, h4, fun m h6 h7 => by rw [k1 _ (by omega)]; exact h5 m h6 h7⟩
theorem nar_b {x : Int32} (h : isB x) : vp_nar .boolean x = x := by
  rcases h with h | h <;> (rw [h]; decide)
theorem nar_bI (b : Bool) : vp_nar .boolean (bI b) = bI b := nar_b (isB_of b)
theorem nar_0 : vp_nar .boolean (iN 0) = iN 0 := by decide
theorem nar_1 : vp_nar .boolean (iN 1) = iN 1 := by decide
theorem g_b_bI (b : Bool) : (g_b (bI b) = true) = True := by cases b <;> simp [g_b, bI, iN]
theorem vX.lay {σ σ' : gS} {M : gM} {T : Nat} (h : vX σ M T) (k1 : ∀ t, t < T → σ'.2 (140 + t) 4 = σ.2 (140 + t) 4) (k2 : ∀ t, t < T → σ'.1 (σ.2 (140 + t) 4) = σ.1 (σ.2 (140 + t) 4)) : vX σ' M T := by
  refine ⟨fun t ht => ?_, h.2⟩
  obtain ⟨rs, h1, h2, h3, h4, h5, h6, h7⟩ := h.1 t ht
  have e := k1 t ht
  have e2 := k2 t ht
  refine ⟨rs, h1, h2, ?_, h4, h5, by rw [e]; exact h6, h7⟩
  rw [e]
  unfold g_ln at *
  rw [e2]
  exact h3
