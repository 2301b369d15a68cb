/-! The law's loop: every call answers alike and keeps the invariant. -/
theorem bI_ne (x : Int32) : (if x = 0 then (0 : Int32) else 1) = bI (!decide (x = 0)) := by
  by_cases h : x = 0
  · rw [if_pos h, decide_eq_true h]; rfl
  · rw [if_neg h, decide_eq_false h]; rfl
theorem cmp_self (x : Int64) : lg_cmp x x = 0 := by unfold lg_cmp; simp
theorem s_37 {a L : Nat} {xs : Nat → Int32} {σ : gS} {M : gM} {N : gN} {k : Int32 → Nat → (Nat → Int32) → gS → gM → gN → Option (Int32 × gS × gM × gN)} (hI : Inv σ M) (ha : a + 7 ≤ L) (hL : L ≤ 3584) : ∃ σ' M' N', b_L_law_1883 k (iN a) L xs σ M N = k (iN (a + 7)) L xs σ' M' N' ∧ Inv σ' M' := by
  have e7 : iN a + 7 = iN (a + 7) := by rw [show (7 : Int32) = iN 7 from rfl, iN_add]
  have g1 : (g_in (iN a + 1) L = true) = True := by rw [show (1 : Int32) = iN 1 from rfl, iN_add, iN_in (by omega)]; simp; omega
  have c1 : (iN a + 1).toNatClampNeg = a + 1 := by rw [show (1 : Int32) = iN 1 from rfl, iN_add, iN_cl (by omega)]
  obtain ⟨r, h1, h2⟩ := call_count hI (xs (a + 1))
  refine ⟨σ, M, N, ?_, hI⟩
  simp only [b_L_law_1883, b_L_law_1908, g1, c1, if_true, h1, h2, oB, e7]
theorem s_36 {a L : Nat} {xs : Nat → Int32} {σ : gS} {M : gM} {N : gN} {k : Int32 → Nat → (Nat → Int32) → gS → gM → gN → Option (Int32 × gS × gM × gN)} (hI : Inv σ M) (ha : a + 7 ≤ L) (hL : L ≤ 3584) : ∃ σ' M' N', b_L_law_1846 k (iN a) L xs σ M N = k (iN (a + 7)) L xs σ' M' N' ∧ Inv σ' M' := by
  have e7 : iN a + 7 = iN (a + 7) := by rw [show (7 : Int32) = iN 7 from rfl, iN_add]
  have g1 : (g_in (iN a + 1) L = true) = True := by rw [show (1 : Int32) = iN 1 from rfl, iN_add, iN_in (by omega)]; simp; omega
  have c1 : (iN a + 1).toNatClampNeg = a + 1 := by rw [show (1 : Int32) = iN 1 from rfl, iN_add, iN_cl (by omega)]
  have g2 : (g_in (iN a + 2) L = true) = True := by rw [show (2 : Int32) = iN 2 from rfl, iN_add, iN_in (by omega)]; simp; omega
  have c2 : (iN a + 2).toNatClampNeg = a + 2 := by rw [show (2 : Int32) = iN 2 from rfl, iN_add, iN_cl (by omega)]
  obtain ⟨r, h1, h2⟩ := call_personOf hI (xs (a + 1)) (xs (a + 2))
  refine ⟨σ, M, N, ?_, hI⟩
  simp only [b_L_law_1846, b_L_law_1908, g1, c1, g2, c2, if_true, h1, h2, oB, e7]
theorem s_35 {a L : Nat} {xs : Nat → Int32} {σ : gS} {M : gM} {N : gN} {k : Int32 → Nat → (Nat → Int32) → gS → gM → gN → Option (Int32 × gS × gM × gN)} (hI : Inv σ M) (ha : a + 7 ≤ L) (hL : L ≤ 3584) : ∃ σ' M' N', b_L_law_1797 k (iN a) L xs σ M N = k (iN (a + 7)) L xs σ' M' N' ∧ Inv σ' M' := by
  have e7 : iN a + 7 = iN (a + 7) := by rw [show (7 : Int32) = iN 7 from rfl, iN_add]
  have g1 : (g_in (iN a + 1) L = true) = True := by rw [show (1 : Int32) = iN 1 from rfl, iN_add, iN_in (by omega)]; simp; omega
  have c1 : (iN a + 1).toNatClampNeg = a + 1 := by rw [show (1 : Int32) = iN 1 from rfl, iN_add, iN_cl (by omega)]
  have g2 : (g_in (iN a + 2) L = true) = True := by rw [show (2 : Int32) = iN 2 from rfl, iN_add, iN_in (by omega)]; simp; omega
  have c2 : (iN a + 2).toNatClampNeg = a + 2 := by rw [show (2 : Int32) = iN 2 from rfl, iN_add, iN_cl (by omega)]
  have g3 : (g_in (iN a + 3) L = true) = True := by rw [show (3 : Int32) = iN 3 from rfl, iN_add, iN_in (by omega)]; simp; omega
  have c3 : (iN a + 3).toNatClampNeg = a + 3 := by rw [show (3 : Int32) = iN 3 from rfl, iN_add, iN_cl (by omega)]
  obtain ⟨r, h1, h2⟩ := call_roomOf hI (xs (a + 1)) (xs (a + 2)) (xs (a + 3))
  refine ⟨σ, M, N, ?_, hI⟩
  simp only [b_L_law_1797, b_L_law_1908, g1, c1, g2, c2, g3, c3, if_true, h1, h2, oB, e7]
theorem s_34 {a L : Nat} {xs : Nat → Int32} {σ : gS} {M : gM} {N : gN} {k : Int32 → Nat → (Nat → Int32) → gS → gM → gN → Option (Int32 × gS × gM × gN)} (hI : Inv σ M) (ha : a + 7 ≤ L) (hL : L ≤ 3584) : ∃ σ' M' N', b_L_law_1760 k (iN a) L xs σ M N = k (iN (a + 7)) L xs σ' M' N' ∧ Inv σ' M' := by
  have e7 : iN a + 7 = iN (a + 7) := by rw [show (7 : Int32) = iN 7 from rfl, iN_add]
  have g1 : (g_in (iN a + 1) L = true) = True := by rw [show (1 : Int32) = iN 1 from rfl, iN_add, iN_in (by omega)]; simp; omega
  have c1 : (iN a + 1).toNatClampNeg = a + 1 := by rw [show (1 : Int32) = iN 1 from rfl, iN_add, iN_cl (by omega)]
  have g2 : (g_in (iN a + 2) L = true) = True := by rw [show (2 : Int32) = iN 2 from rfl, iN_add, iN_in (by omega)]; simp; omega
  have c2 : (iN a + 2).toNatClampNeg = a + 2 := by rw [show (2 : Int32) = iN 2 from rfl, iN_add, iN_cl (by omega)]
  obtain ⟨r, h1, h2⟩ := call_townOf hI (xs (a + 1)) (xs (a + 2))
  refine ⟨σ, M, N, ?_, hI⟩
  simp only [b_L_law_1760, b_L_law_1908, g1, c1, g2, c2, if_true, h1, h2, oB, e7]
theorem s_33 {a L : Nat} {xs : Nat → Int32} {σ : gS} {M : gM} {N : gN} {k : Int32 → Nat → (Nat → Int32) → gS → gM → gN → Option (Int32 × gS × gM × gN)} (hI : Inv σ M) (ha : a + 7 ≤ L) (hL : L ≤ 3584) : ∃ σ' M' N', b_L_law_1723 k (iN a) L xs σ M N = k (iN (a + 7)) L xs σ' M' N' ∧ Inv σ' M' := by
  have e7 : iN a + 7 = iN (a + 7) := by rw [show (7 : Int32) = iN 7 from rfl, iN_add]
  have g1 : (g_in (iN a + 1) L = true) = True := by rw [show (1 : Int32) = iN 1 from rfl, iN_add, iN_in (by omega)]; simp; omega
  have c1 : (iN a + 1).toNatClampNeg = a + 1 := by rw [show (1 : Int32) = iN 1 from rfl, iN_add, iN_cl (by omega)]
  have g2 : (g_in (iN a + 2) L = true) = True := by rw [show (2 : Int32) = iN 2 from rfl, iN_add, iN_in (by omega)]; simp; omega
  have c2 : (iN a + 2).toNatClampNeg = a + 2 := by rw [show (2 : Int32) = iN 2 from rfl, iN_add, iN_cl (by omega)]
  obtain ⟨r, h1, h2⟩ := call_meals hI (xs (a + 1)) (xs (a + 2))
  refine ⟨σ, M, N, ?_, hI⟩
  simp only [b_L_law_1723, b_L_law_1908, g1, c1, g2, c2, if_true, h1, h2, oB, e7]
theorem s_30 {a L : Nat} {xs : Nat → Int32} {σ : gS} {M : gM} {N : gN} {k : Int32 → Nat → (Nat → Int32) → gS → gM → gN → Option (Int32 × gS × gM × gN)} (hI : Inv σ M) (ha : a + 7 ≤ L) (hL : L ≤ 3584) : ∃ σ' M' N', b_L_law_1574 k (iN a) L xs σ M N = k (iN (a + 7)) L xs σ' M' N' ∧ Inv σ' M' := by
  have e7 : iN a + 7 = iN (a + 7) := by rw [show (7 : Int32) = iN 7 from rfl, iN_add]
  have g1 : (g_in (iN a + 1) L = true) = True := by rw [show (1 : Int32) = iN 1 from rfl, iN_add, iN_in (by omega)]; simp; omega
  have c1 : (iN a + 1).toNatClampNeg = a + 1 := by rw [show (1 : Int32) = iN 1 from rfl, iN_add, iN_cl (by omega)]
  have g2 : (g_in (iN a + 2) L = true) = True := by rw [show (2 : Int32) = iN 2 from rfl, iN_add, iN_in (by omega)]; simp; omega
  have c2 : (iN a + 2).toNatClampNeg = a + 2 := by rw [show (2 : Int32) = iN 2 from rfl, iN_add, iN_cl (by omega)]
  obtain ⟨r, h1, h2⟩ := call_lay hI (xs (a + 1)) (xs (a + 2))
  refine ⟨σ, M, N, ?_, hI⟩
  simp only [b_L_law_1574, b_L_law_1908, g1, c1, g2, c2, if_true, h1, h2, oB, e7]
theorem s_28 {a L : Nat} {xs : Nat → Int32} {σ : gS} {M : gM} {N : gN} {k : Int32 → Nat → (Nat → Int32) → gS → gM → gN → Option (Int32 × gS × gM × gN)} (hI : Inv σ M) (ha : a + 7 ≤ L) (hL : L ≤ 3584) : ∃ σ' M' N', b_L_law_1536 k (iN a) L xs σ M N = k (iN (a + 7)) L xs σ' M' N' ∧ Inv σ' M' := by
  have e7 : iN a + 7 = iN (a + 7) := by rw [show (7 : Int32) = iN 7 from rfl, iN_add]
  have g1 : (g_in (iN a + 1) L = true) = True := by rw [show (1 : Int32) = iN 1 from rfl, iN_add, iN_in (by omega)]; simp; omega
  have c1 : (iN a + 1).toNatClampNeg = a + 1 := by rw [show (1 : Int32) = iN 1 from rfl, iN_add, iN_cl (by omega)]
  obtain ⟨r, h1, h2⟩ := call_tripOf hI (xs (a + 1))
  refine ⟨σ, M, N, ?_, hI⟩
  simp only [b_L_law_1536, b_L_law_1908, g1, c1, if_true, h1, h2, oB, e7]
theorem s_16 {a L : Nat} {xs : Nat → Int32} {σ : gS} {M : gM} {N : gN} {k : Int32 → Nat → (Nat → Int32) → gS → gM → gN → Option (Int32 × gS × gM × gN)} (hI : Inv σ M) (ha : a + 7 ≤ L) (hL : L ≤ 3584) : ∃ σ' M' N', b_L_law_922 k (iN a) L xs σ M N = k (iN (a + 7)) L xs σ' M' N' ∧ Inv σ' M' := by
  have e7 : iN a + 7 = iN (a + 7) := by rw [show (7 : Int32) = iN 7 from rfl, iN_add]
  have g1 : (g_in (iN a + 1) L = true) = True := by rw [show (1 : Int32) = iN 1 from rfl, iN_add, iN_in (by omega)]; simp; omega
  have c1 : (iN a + 1).toNatClampNeg = a + 1 := by rw [show (1 : Int32) = iN 1 from rfl, iN_add, iN_cl (by omega)]
  have g2 : (g_in (iN a + 2) L = true) = True := by rw [show (2 : Int32) = iN 2 from rfl, iN_add, iN_in (by omega)]; simp; omega
  have c2 : (iN a + 2).toNatClampNeg = a + 2 := by rw [show (2 : Int32) = iN 2 from rfl, iN_add, iN_cl (by omega)]
  have g3 : (g_in (iN a + 3) L = true) = True := by rw [show (3 : Int32) = iN 3 from rfl, iN_add, iN_in (by omega)]; simp; omega
  have c3 : (iN a + 3).toNatClampNeg = a + 3 := by rw [show (3 : Int32) = iN 3 from rfl, iN_add, iN_cl (by omega)]
  obtain ⟨r, h1, h2⟩ := call_listed hI (xs (a + 1)) (xs (a + 2)) (xs (a + 3))
  refine ⟨σ, M, N, ?_, hI⟩
  simp only [b_L_law_922, b_L_law_1908, g1, c1, g2, c2, g3, c3, if_true, h1, h2, oB, e7]
theorem s_15 {a L : Nat} {xs : Nat → Int32} {σ : gS} {M : gM} {N : gN} {k : Int32 → Nat → (Nat → Int32) → gS → gM → gN → Option (Int32 × gS × gM × gN)} (hI : Inv σ M) (ha : a + 7 ≤ L) (hL : L ≤ 3584) : ∃ σ' M' N', b_L_law_897 k (iN a) L xs σ M N = k (iN (a + 7)) L xs σ' M' N' ∧ Inv σ' M' := by
  have e7 : iN a + 7 = iN (a + 7) := by rw [show (7 : Int32) = iN 7 from rfl, iN_add]
  have g1 : (g_in (iN a + 1) L = true) = True := by rw [show (1 : Int32) = iN 1 from rfl, iN_add, iN_in (by omega)]; simp; omega
  have c1 : (iN a + 1).toNatClampNeg = a + 1 := by rw [show (1 : Int32) = iN 1 from rfl, iN_add, iN_cl (by omega)]
  obtain ⟨r, h1, h2⟩ := call_right hI (xs (a + 1))
  refine ⟨σ, M, N, ?_, hI⟩
  simp only [b_L_law_897, b_L_law_1908, g1, c1, if_true, h1, h2, oB, e7]
theorem s_13 {a L : Nat} {xs : Nat → Int32} {σ : gS} {M : gM} {N : gN} {k : Int32 → Nat → (Nat → Int32) → gS → gM → gN → Option (Int32 × gS × gM × gN)} (hI : Inv σ M) (ha : a + 7 ≤ L) (hL : L ≤ 3584) : ∃ σ' M' N', b_L_law_859 k (iN a) L xs σ M N = k (iN (a + 7)) L xs σ' M' N' ∧ Inv σ' M' := by
  have e7 : iN a + 7 = iN (a + 7) := by rw [show (7 : Int32) = iN 7 from rfl, iN_add]
  obtain ⟨r, h1, h2⟩ := call_moved hI 
  refine ⟨σ, M, N, ?_, hI⟩
  simp only [b_L_law_859, b_L_law_1908, if_true, h1, h2, oB, e7]
theorem s_27 {a L : Nat} {xs : Nat → Int32} {σ : gS} {M : gM} {N : gN} {k : Int32 → Nat → (Nat → Int32) → gS → gM → gN → Option (Int32 × gS × gM × gN)} (hI : Inv σ M) (ha : a + 7 ≤ L) (hL : L ≤ 3584) : ∃ σ' M' N', b_L_law_1511 k (iN a) L xs σ M N = k (iN (a + 7)) L xs σ' M' N' ∧ Inv σ' M' := by
  have e7 : iN a + 7 = iN (a + 7) := by rw [show (7 : Int32) = iN 7 from rfl, iN_add]
  have g1 : (g_in (iN a + 1) L = true) = True := by rw [show (1 : Int32) = iN 1 from rfl, iN_add, iN_in (by omega)]; simp; omega
  have c1 : (iN a + 1).toNatClampNeg = a + 1 := by rw [show (1 : Int32) = iN 1 from rfl, iN_add, iN_cl (by omega)]
  obtain ⟨r, M1, M2, h1, h2, h3⟩ := call_trip hI (xs (a + 1))
  refine ⟨σ, M2, N, ?_, h3⟩
  simp only [b_L_law_1511, b_L_law_1908, g1, c1, if_true, h1, h2, oB, e7]
theorem s_26 {a L : Nat} {xs : Nat → Int32} {σ : gS} {M : gM} {N : gN} {k : Int32 → Nat → (Nat → Int32) → gS → gM → gN → Option (Int32 × gS × gM × gN)} (hI : Inv σ M) (ha : a + 7 ≤ L) (hL : L ≤ 3584) : ∃ σ' M' N', b_L_law_1498 k (iN a) L xs σ M N = k (iN (a + 7)) L xs σ' M' N' ∧ Inv σ' M' := by
  have e7 : iN a + 7 = iN (a + 7) := by rw [show (7 : Int32) = iN 7 from rfl, iN_add]
  obtain ⟨r, M1, M2, h1, h2, h3⟩ := call_clear hI 
  refine ⟨σ, M2, N, ?_, h3⟩
  simp only [b_L_law_1498, b_L_law_1908, if_true, h1, h2, oB, e7]
theorem s_25 {a L : Nat} {xs : Nat → Int32} {σ : gS} {M : gM} {N : gN} {k : Int32 → Nat → (Nat → Int32) → gS → gM → gN → Option (Int32 × gS × gM × gN)} (hI : Inv σ M) (ha : a + 7 ≤ L) (hL : L ≤ 3584) : ∃ σ' M' N', b_L_law_1449 k (iN a) L xs σ M N = k (iN (a + 7)) L xs σ' M' N' ∧ Inv σ' M' := by
  have e7 : iN a + 7 = iN (a + 7) := by rw [show (7 : Int32) = iN 7 from rfl, iN_add]
  have g1 : (g_in (iN a + 1) L = true) = True := by rw [show (1 : Int32) = iN 1 from rfl, iN_add, iN_in (by omega)]; simp; omega
  have c1 : (iN a + 1).toNatClampNeg = a + 1 := by rw [show (1 : Int32) = iN 1 from rfl, iN_add, iN_cl (by omega)]
  have g2 : (g_in (iN a + 2) L = true) = True := by rw [show (2 : Int32) = iN 2 from rfl, iN_add, iN_in (by omega)]; simp; omega
  have c2 : (iN a + 2).toNatClampNeg = a + 2 := by rw [show (2 : Int32) = iN 2 from rfl, iN_add, iN_cl (by omega)]
  have g3 : (g_in (iN a + 3) L = true) = True := by rw [show (3 : Int32) = iN 3 from rfl, iN_add, iN_in (by omega)]; simp; omega
  have c3 : (iN a + 3).toNatClampNeg = a + 3 := by rw [show (3 : Int32) = iN 3 from rfl, iN_add, iN_cl (by omega)]
  obtain ⟨r, M1, M2, h1, h2, h3⟩ := call_way hI (xs (a + 1)) (xs (a + 2)) (xs (a + 3))
  refine ⟨σ, M2, N, ?_, h3⟩
  simp only [b_L_law_1449, b_L_law_1908, g1, c1, g2, c2, g3, c3, if_true, h1, h2, oB, e7]
theorem s_24 {a L : Nat} {xs : Nat → Int32} {σ : gS} {M : gM} {N : gN} {k : Int32 → Nat → (Nat → Int32) → gS → gM → gN → Option (Int32 × gS × gM × gN)} (hI : Inv σ M) (ha : a + 7 ≤ L) (hL : L ≤ 3584) : ∃ σ' M' N', b_L_law_1400 k (iN a) L xs σ M N = k (iN (a + 7)) L xs σ' M' N' ∧ Inv σ' M' := by
  have e7 : iN a + 7 = iN (a + 7) := by rw [show (7 : Int32) = iN 7 from rfl, iN_add]
  have g1 : (g_in (iN a + 1) L = true) = True := by rw [show (1 : Int32) = iN 1 from rfl, iN_add, iN_in (by omega)]; simp; omega
  have c1 : (iN a + 1).toNatClampNeg = a + 1 := by rw [show (1 : Int32) = iN 1 from rfl, iN_add, iN_cl (by omega)]
  have g2 : (g_in (iN a + 2) L = true) = True := by rw [show (2 : Int32) = iN 2 from rfl, iN_add, iN_in (by omega)]; simp; omega
  have c2 : (iN a + 2).toNatClampNeg = a + 2 := by rw [show (2 : Int32) = iN 2 from rfl, iN_add, iN_cl (by omega)]
  have g3 : (g_in (iN a + 3) L = true) = True := by rw [show (3 : Int32) = iN 3 from rfl, iN_add, iN_in (by omega)]; simp; omega
  have c3 : (iN a + 3).toNatClampNeg = a + 3 := by rw [show (3 : Int32) = iN 3 from rfl, iN_add, iN_cl (by omega)]
  obtain ⟨r, M1, M2, h1, h2, h3⟩ := call_sight hI (xs (a + 1)) (xs (a + 2)) (xs (a + 3))
  refine ⟨σ, M2, N, ?_, h3⟩
  simp only [b_L_law_1400, b_L_law_1908, g1, c1, g2, c2, g3, c3, if_true, h1, h2, oB, e7]
theorem s_11 {a L : Nat} {xs : Nat → Int32} {σ : gS} {M : gM} {N : gN} {k : Int32 → Nat → (Nat → Int32) → gS → gM → gN → Option (Int32 × gS × gM × gN)} (hI : Inv σ M) (ha : a + 7 ≤ L) (hL : L ≤ 3584) : ∃ σ' M' N', b_L_law_773 k (iN a) L xs σ M N = k (iN (a + 7)) L xs σ' M' N' ∧ Inv σ' M' := by
  have e7 : iN a + 7 = iN (a + 7) := by rw [show (7 : Int32) = iN 7 from rfl, iN_add]
  have g1 : (g_in (iN a + 1) L = true) = True := by rw [show (1 : Int32) = iN 1 from rfl, iN_add, iN_in (by omega)]; simp; omega
  have c1 : (iN a + 1).toNatClampNeg = a + 1 := by rw [show (1 : Int32) = iN 1 from rfl, iN_add, iN_cl (by omega)]
  have g2 : (g_in (iN a + 2) L = true) = True := by rw [show (2 : Int32) = iN 2 from rfl, iN_add, iN_in (by omega)]; simp; omega
  have c2 : (iN a + 2).toNatClampNeg = a + 2 := by rw [show (2 : Int32) = iN 2 from rfl, iN_add, iN_cl (by omega)]
  have g3 : (g_in (iN a + 3) L = true) = True := by rw [show (3 : Int32) = iN 3 from rfl, iN_add, iN_in (by omega)]; simp; omega
  have c3 : (iN a + 3).toNatClampNeg = a + 3 := by rw [show (3 : Int32) = iN 3 from rfl, iN_add, iN_cl (by omega)]
  obtain ⟨r, M1, M2, h1, h2, h3⟩ := call_put hI (xs (a + 1)) (xs (a + 2)) (xs (a + 3))
  refine ⟨σ, M2, N, ?_, h3⟩
  simp only [b_L_law_773, b_L_law_1908, g1, c1, g2, c2, g3, c3, if_true, h1, h2, oB, e7]
theorem s_9 {a L : Nat} {xs : Nat → Int32} {σ : gS} {M : gM} {N : gN} {k : Int32 → Nat → (Nat → Int32) → gS → gM → gN → Option (Int32 × gS × gM × gN)} (hI : Inv σ M) (ha : a + 7 ≤ L) (hL : L ≤ 3584) : ∃ σ' M' N', b_L_law_671 k (iN a) L xs σ M N = k (iN (a + 7)) L xs σ' M' N' ∧ Inv σ' M' := by
  have e7 : iN a + 7 = iN (a + 7) := by rw [show (7 : Int32) = iN 7 from rfl, iN_add]
  have g1 : (g_in (iN a + 1) L = true) = True := by rw [show (1 : Int32) = iN 1 from rfl, iN_add, iN_in (by omega)]; simp; omega
  have c1 : (iN a + 1).toNatClampNeg = a + 1 := by rw [show (1 : Int32) = iN 1 from rfl, iN_add, iN_cl (by omega)]
  obtain ⟨r, M1, M2, h1, h2, h3⟩ := call_day hI (xs (a + 1))
  refine ⟨σ, M2, N, ?_, h3⟩
  simp only [b_L_law_671, b_L_law_1908, g1, c1, if_true, h1, h2, oB, e7]
theorem s_8 {a L : Nat} {xs : Nat → Int32} {σ : gS} {M : gM} {N : gN} {k : Int32 → Nat → (Nat → Int32) → gS → gM → gN → Option (Int32 × gS × gM × gN)} (hI : Inv σ M) (ha : a + 7 ≤ L) (hL : L ≤ 3584) : ∃ σ' M' N', b_L_law_646 k (iN a) L xs σ M N = k (iN (a + 7)) L xs σ' M' N' ∧ Inv σ' M' := by
  have e7 : iN a + 7 = iN (a + 7) := by rw [show (7 : Int32) = iN 7 from rfl, iN_add]
  have g1 : (g_in (iN a + 1) L = true) = True := by rw [show (1 : Int32) = iN 1 from rfl, iN_add, iN_in (by omega)]; simp; omega
  have c1 : (iN a + 1).toNatClampNeg = a + 1 := by rw [show (1 : Int32) = iN 1 from rfl, iN_add, iN_cl (by omega)]
  obtain ⟨r, M1, M2, h1, h2, h3⟩ := call_season hI (xs (a + 1))
  refine ⟨σ, M2, N, ?_, h3⟩
  simp only [b_L_law_646, b_L_law_1908, g1, c1, if_true, h1, h2, oB, e7]
theorem s_7 {a L : Nat} {xs : Nat → Int32} {σ : gS} {M : gM} {N : gN} {k : Int32 → Nat → (Nat → Int32) → gS → gM → gN → Option (Int32 × gS × gM × gN)} (hI : Inv σ M) (ha : a + 7 ≤ L) (hL : L ≤ 3584) : ∃ σ' M' N', b_L_law_621 k (iN a) L xs σ M N = k (iN (a + 7)) L xs σ' M' N' ∧ Inv σ' M' := by
  have e7 : iN a + 7 = iN (a + 7) := by rw [show (7 : Int32) = iN 7 from rfl, iN_add]
  have g1 : (g_in (iN a + 1) L = true) = True := by rw [show (1 : Int32) = iN 1 from rfl, iN_add, iN_in (by omega)]; simp; omega
  have c1 : (iN a + 1).toNatClampNeg = a + 1 := by rw [show (1 : Int32) = iN 1 from rfl, iN_add, iN_cl (by omega)]
  obtain ⟨r, M1, M2, h1, h2, h3⟩ := call_start hI (xs (a + 1))
  refine ⟨σ, M2, N, ?_, h3⟩
  simp only [b_L_law_621, b_L_law_1908, g1, c1, if_true, h1, h2, oB, e7]
theorem s_4 {a L : Nat} {xs : Nat → Int32} {σ : gS} {M : gM} {N : gN} {k : Int32 → Nat → (Nat → Int32) → gS → gM → gN → Option (Int32 × gS × gM × gN)} (hI : Inv σ M) (ha : a + 7 ≤ L) (hL : L ≤ 3584) : ∃ σ' M' N', b_L_law_506 k (iN a) L xs σ M N = k (iN (a + 7)) L xs σ' M' N' ∧ Inv σ' M' := by
  have e7 : iN a + 7 = iN (a + 7) := by rw [show (7 : Int32) = iN 7 from rfl, iN_add]
  have g1 : (g_in (iN a + 1) L = true) = True := by rw [show (1 : Int32) = iN 1 from rfl, iN_add, iN_in (by omega)]; simp; omega
  have c1 : (iN a + 1).toNatClampNeg = a + 1 := by rw [show (1 : Int32) = iN 1 from rfl, iN_add, iN_cl (by omega)]
  obtain ⟨r, M1, M2, h1, h2, h3⟩ := call_gone hI (xs (a + 1))
  refine ⟨σ, M2, N, ?_, h3⟩
  simp only [b_L_law_506, b_L_law_1908, g1, c1, if_true, h1, h2, oB, e7]
theorem s_3 {a L : Nat} {xs : Nat → Int32} {σ : gS} {M : gM} {N : gN} {k : Int32 → Nat → (Nat → Int32) → gS → gM → gN → Option (Int32 × gS × gM × gN)} (hI : Inv σ M) (ha : a + 7 ≤ L) (hL : L ≤ 3584) : ∃ σ' M' N', b_L_law_457 k (iN a) L xs σ M N = k (iN (a + 7)) L xs σ' M' N' ∧ Inv σ' M' := by
  have e7 : iN a + 7 = iN (a + 7) := by rw [show (7 : Int32) = iN 7 from rfl, iN_add]
  have g1 : (g_in (iN a + 1) L = true) = True := by rw [show (1 : Int32) = iN 1 from rfl, iN_add, iN_in (by omega)]; simp; omega
  have c1 : (iN a + 1).toNatClampNeg = a + 1 := by rw [show (1 : Int32) = iN 1 from rfl, iN_add, iN_cl (by omega)]
  have g2 : (g_in (iN a + 2) L = true) = True := by rw [show (2 : Int32) = iN 2 from rfl, iN_add, iN_in (by omega)]; simp; omega
  have c2 : (iN a + 2).toNatClampNeg = a + 2 := by rw [show (2 : Int32) = iN 2 from rfl, iN_add, iN_cl (by omega)]
  have g3 : (g_in (iN a + 3) L = true) = True := by rw [show (3 : Int32) = iN 3 from rfl, iN_add, iN_in (by omega)]; simp; omega
  have c3 : (iN a + 3).toNatClampNeg = a + 3 := by rw [show (3 : Int32) = iN 3 from rfl, iN_add, iN_cl (by omega)]
  obtain ⟨r, M1, M2, h1, h2, h3⟩ := call_stays hI (xs (a + 1)) (xs (a + 2)) (xs (a + 3))
  refine ⟨σ, M2, N, ?_, h3⟩
  simp only [b_L_law_457, b_L_law_1908, g1, c1, g2, c2, g3, c3, if_true, h1, h2, oB, e7]
theorem s_29 {a L : Nat} {xs : Nat → Int32} {σ : gS} {M : gM} {N : gN} {k : Int32 → Nat → (Nat → Int32) → gS → gM → gN → Option (Int32 × gS × gM × gN)} (hI : Inv σ M) (ha : a + 7 ≤ L) (hL : L ≤ 3584) : ∃ σ' M' N', b_L_law_1561 k (iN a) L xs σ M N = k (iN (a + 7)) L xs σ' M' N' ∧ Inv σ' M' := by
  have e7 : iN a + 7 = iN (a + 7) := by rw [show (7 : Int32) = iN 7 from rfl, iN_add]
  obtain ⟨r, M1, M2, N2, h1, h2, h3⟩ := call_night hI N 
  refine ⟨σ, M2, N2, ?_, h3⟩
  simp only [b_L_law_1561, b_L_law_1908, if_true, h1, h2, oB, e7]
theorem s_23 {a L : Nat} {xs : Nat → Int32} {σ : gS} {M : gM} {N : gN} {k : Int32 → Nat → (Nat → Int32) → gS → gM → gN → Option (Int32 × gS × gM × gN)} (hI : Inv σ M) (ha : a + 7 ≤ L) (hL : L ≤ 3584) : ∃ σ' M' N', b_L_law_1327 k (iN a) L xs σ M N = k (iN (a + 7)) L xs σ' M' N' ∧ Inv σ' M' := by
  have e7 : iN a + 7 = iN (a + 7) := by rw [show (7 : Int32) = iN 7 from rfl, iN_add]
  have g1 : (g_in (iN a + 1) L = true) = True := by rw [show (1 : Int32) = iN 1 from rfl, iN_add, iN_in (by omega)]; simp; omega
  have c1 : (iN a + 1).toNatClampNeg = a + 1 := by rw [show (1 : Int32) = iN 1 from rfl, iN_add, iN_cl (by omega)]
  have g2 : (g_in (iN a + 2) L = true) = True := by rw [show (2 : Int32) = iN 2 from rfl, iN_add, iN_in (by omega)]; simp; omega
  have c2 : (iN a + 2).toNatClampNeg = a + 2 := by rw [show (2 : Int32) = iN 2 from rfl, iN_add, iN_cl (by omega)]
  have g3 : (g_in (iN a + 3) L = true) = True := by rw [show (3 : Int32) = iN 3 from rfl, iN_add, iN_in (by omega)]; simp; omega
  have c3 : (iN a + 3).toNatClampNeg = a + 3 := by rw [show (3 : Int32) = iN 3 from rfl, iN_add, iN_cl (by omega)]
  have g4 : (g_in (iN a + 4) L = true) = True := by rw [show (4 : Int32) = iN 4 from rfl, iN_add, iN_in (by omega)]; simp; omega
  have c4 : (iN a + 4).toNatClampNeg = a + 4 := by rw [show (4 : Int32) = iN 4 from rfl, iN_add, iN_cl (by omega)]
  have g5 : (g_in (iN a + 5) L = true) = True := by rw [show (5 : Int32) = iN 5 from rfl, iN_add, iN_in (by omega)]; simp; omega
  have c5 : (iN a + 5).toNatClampNeg = a + 5 := by rw [show (5 : Int32) = iN 5 from rfl, iN_add, iN_cl (by omega)]
  obtain ⟨r, M1, M2, N2, h1, h2, h3⟩ := call_gives hI N (xs (a + 1)) (xs (a + 2)) (xs (a + 3)) (xs (a + 4)) (xs (a + 5))
  refine ⟨σ, M2, N2, ?_, h3⟩
  simp only [b_L_law_1327, b_L_law_1908, g1, c1, g2, c2, g3, c3, g4, c4, g5, c5, if_true, h1, h2, oB, e7]
theorem s_22 {a L : Nat} {xs : Nat → Int32} {σ : gS} {M : gM} {N : gN} {k : Int32 → Nat → (Nat → Int32) → gS → gM → gN → Option (Int32 × gS × gM × gN)} (hI : Inv σ M) (ha : a + 7 ≤ L) (hL : L ≤ 3584) : ∃ σ' M' N', b_L_law_1254 k (iN a) L xs σ M N = k (iN (a + 7)) L xs σ' M' N' ∧ Inv σ' M' := by
  have e7 : iN a + 7 = iN (a + 7) := by rw [show (7 : Int32) = iN 7 from rfl, iN_add]
  have g1 : (g_in (iN a + 1) L = true) = True := by rw [show (1 : Int32) = iN 1 from rfl, iN_add, iN_in (by omega)]; simp; omega
  have c1 : (iN a + 1).toNatClampNeg = a + 1 := by rw [show (1 : Int32) = iN 1 from rfl, iN_add, iN_cl (by omega)]
  have g2 : (g_in (iN a + 2) L = true) = True := by rw [show (2 : Int32) = iN 2 from rfl, iN_add, iN_in (by omega)]; simp; omega
  have c2 : (iN a + 2).toNatClampNeg = a + 2 := by rw [show (2 : Int32) = iN 2 from rfl, iN_add, iN_cl (by omega)]
  have g3 : (g_in (iN a + 3) L = true) = True := by rw [show (3 : Int32) = iN 3 from rfl, iN_add, iN_in (by omega)]; simp; omega
  have c3 : (iN a + 3).toNatClampNeg = a + 3 := by rw [show (3 : Int32) = iN 3 from rfl, iN_add, iN_cl (by omega)]
  have g4 : (g_in (iN a + 4) L = true) = True := by rw [show (4 : Int32) = iN 4 from rfl, iN_add, iN_in (by omega)]; simp; omega
  have c4 : (iN a + 4).toNatClampNeg = a + 4 := by rw [show (4 : Int32) = iN 4 from rfl, iN_add, iN_cl (by omega)]
  have g5 : (g_in (iN a + 5) L = true) = True := by rw [show (5 : Int32) = iN 5 from rfl, iN_add, iN_in (by omega)]; simp; omega
  have c5 : (iN a + 5).toNatClampNeg = a + 5 := by rw [show (5 : Int32) = iN 5 from rfl, iN_add, iN_cl (by omega)]
  obtain ⟨r, M1, M2, N2, h1, h2, h3⟩ := call_loss hI N (xs (a + 1)) (xs (a + 2)) (xs (a + 3)) (xs (a + 4)) (xs (a + 5))
  refine ⟨σ, M2, N2, ?_, h3⟩
  simp only [b_L_law_1254, b_L_law_1908, g1, c1, g2, c2, g3, c3, g4, c4, g5, c5, if_true, h1, h2, oB, e7]
theorem s_21 {a L : Nat} {xs : Nat → Int32} {σ : gS} {M : gM} {N : gN} {k : Int32 → Nat → (Nat → Int32) → gS → gM → gN → Option (Int32 × gS × gM × gN)} (hI : Inv σ M) (ha : a + 7 ≤ L) (hL : L ≤ 3584) : ∃ σ' M' N', b_L_law_1217 k (iN a) L xs σ M N = k (iN (a + 7)) L xs σ' M' N' ∧ Inv σ' M' := by
  have e7 : iN a + 7 = iN (a + 7) := by rw [show (7 : Int32) = iN 7 from rfl, iN_add]
  have g1 : (g_in (iN a + 1) L = true) = True := by rw [show (1 : Int32) = iN 1 from rfl, iN_add, iN_in (by omega)]; simp; omega
  have c1 : (iN a + 1).toNatClampNeg = a + 1 := by rw [show (1 : Int32) = iN 1 from rfl, iN_add, iN_cl (by omega)]
  have g2 : (g_in (iN a + 2) L = true) = True := by rw [show (2 : Int32) = iN 2 from rfl, iN_add, iN_in (by omega)]; simp; omega
  have c2 : (iN a + 2).toNatClampNeg = a + 2 := by rw [show (2 : Int32) = iN 2 from rfl, iN_add, iN_cl (by omega)]
  obtain ⟨r, M1, M2, N2, h1, h2, h3⟩ := call_buy hI N (xs (a + 1)) (xs (a + 2))
  refine ⟨σ, M2, N2, ?_, h3⟩
  simp only [b_L_law_1217, b_L_law_1908, g1, c1, g2, c2, if_true, h1, h2, oB, e7]
theorem s_20 {a L : Nat} {xs : Nat → Int32} {σ : gS} {M : gM} {N : gN} {k : Int32 → Nat → (Nat → Int32) → gS → gM → gN → Option (Int32 × gS × gM × gN)} (hI : Inv σ M) (ha : a + 7 ≤ L) (hL : L ≤ 3584) : ∃ σ' M' N', b_L_law_1180 k (iN a) L xs σ M N = k (iN (a + 7)) L xs σ' M' N' ∧ Inv σ' M' := by
  have e7 : iN a + 7 = iN (a + 7) := by rw [show (7 : Int32) = iN 7 from rfl, iN_add]
  have g1 : (g_in (iN a + 1) L = true) = True := by rw [show (1 : Int32) = iN 1 from rfl, iN_add, iN_in (by omega)]; simp; omega
  have c1 : (iN a + 1).toNatClampNeg = a + 1 := by rw [show (1 : Int32) = iN 1 from rfl, iN_add, iN_cl (by omega)]
  have g2 : (g_in (iN a + 2) L = true) = True := by rw [show (2 : Int32) = iN 2 from rfl, iN_add, iN_in (by omega)]; simp; omega
  have c2 : (iN a + 2).toNatClampNeg = a + 2 := by rw [show (2 : Int32) = iN 2 from rfl, iN_add, iN_cl (by omega)]
  obtain ⟨r, M1, M2, N2, h1, h2, h3⟩ := call_give hI N (xs (a + 1)) (xs (a + 2))
  refine ⟨σ, M2, N2, ?_, h3⟩
  simp only [b_L_law_1180, b_L_law_1908, g1, c1, g2, c2, if_true, h1, h2, oB, e7]
theorem s_19 {a L : Nat} {xs : Nat → Int32} {σ : gS} {M : gM} {N : gN} {k : Int32 → Nat → (Nat → Int32) → gS → gM → gN → Option (Int32 × gS × gM × gN)} (hI : Inv σ M) (ha : a + 7 ≤ L) (hL : L ≤ 3584) : ∃ σ' M' N', b_L_law_1143 k (iN a) L xs σ M N = k (iN (a + 7)) L xs σ' M' N' ∧ Inv σ' M' := by
  have e7 : iN a + 7 = iN (a + 7) := by rw [show (7 : Int32) = iN 7 from rfl, iN_add]
  have g1 : (g_in (iN a + 1) L = true) = True := by rw [show (1 : Int32) = iN 1 from rfl, iN_add, iN_in (by omega)]; simp; omega
  have c1 : (iN a + 1).toNatClampNeg = a + 1 := by rw [show (1 : Int32) = iN 1 from rfl, iN_add, iN_cl (by omega)]
  have g2 : (g_in (iN a + 2) L = true) = True := by rw [show (2 : Int32) = iN 2 from rfl, iN_add, iN_in (by omega)]; simp; omega
  have c2 : (iN a + 2).toNatClampNeg = a + 2 := by rw [show (2 : Int32) = iN 2 from rfl, iN_add, iN_cl (by omega)]
  obtain ⟨r, M1, M2, N2, h1, h2, h3⟩ := call_worth hI N (xs (a + 1)) (xs (a + 2))
  refine ⟨σ, M2, N2, ?_, h3⟩
  simp only [b_L_law_1143, b_L_law_1908, g1, c1, g2, c2, if_true, h1, h2, oB, e7]
theorem s_14 {a L : Nat} {xs : Nat → Int32} {σ : gS} {M : gM} {N : gN} {k : Int32 → Nat → (Nat → Int32) → gS → gM → gN → Option (Int32 × gS × gM × gN)} (hI : Inv σ M) (ha : a + 7 ≤ L) (hL : L ≤ 3584) : ∃ σ' M' N', b_L_law_872 k (iN a) L xs σ M N = k (iN (a + 7)) L xs σ' M' N' ∧ Inv σ' M' := by
  have e7 : iN a + 7 = iN (a + 7) := by rw [show (7 : Int32) = iN 7 from rfl, iN_add]
  have g1 : (g_in (iN a + 1) L = true) = True := by rw [show (1 : Int32) = iN 1 from rfl, iN_add, iN_in (by omega)]; simp; omega
  have c1 : (iN a + 1).toNatClampNeg = a + 1 := by rw [show (1 : Int32) = iN 1 from rfl, iN_add, iN_cl (by omega)]
  obtain ⟨r, σ1, M1, N1, M2, h1, hl, h2, h3⟩ := call_most hI N (xs (a + 1))
  refine ⟨σ1, M2, N1, ?_, h3⟩
  simp only [b_L_law_872, b_L_law_1908, g1, c1, if_true, h1, h2, oB, e7, layLB_of hl]
theorem s_12 {a L : Nat} {xs : Nat → Int32} {σ : gS} {M : gM} {N : gN} {k : Int32 → Nat → (Nat → Int32) → gS → gM → gN → Option (Int32 × gS × gM × gN)} (hI : Inv σ M) (ha : a + 7 ≤ L) (hL : L ≤ 3584) : ∃ σ' M' N', b_L_law_822 k (iN a) L xs σ M N = k (iN (a + 7)) L xs σ' M' N' ∧ Inv σ' M' := by
  have e7 : iN a + 7 = iN (a + 7) := by rw [show (7 : Int32) = iN 7 from rfl, iN_add]
  have g1 : (g_in (iN a + 1) L = true) = True := by rw [show (1 : Int32) = iN 1 from rfl, iN_add, iN_in (by omega)]; simp; omega
  have c1 : (iN a + 1).toNatClampNeg = a + 1 := by rw [show (1 : Int32) = iN 1 from rfl, iN_add, iN_cl (by omega)]
  have g2 : (g_in (iN a + 2) L = true) = True := by rw [show (2 : Int32) = iN 2 from rfl, iN_add, iN_in (by omega)]; simp; omega
  have c2 : (iN a + 2).toNatClampNeg = a + 2 := by rw [show (2 : Int32) = iN 2 from rfl, iN_add, iN_cl (by omega)]
  obtain ⟨r, σ1, M1, N1, M2, h1, hl, h2, h3⟩ := call_settle hI N (xs (a + 1)) (xs (a + 2))
  refine ⟨σ1, M2, N1, ?_, h3⟩
  simp only [b_L_law_822, b_L_law_1908, g1, c1, g2, c2, if_true, h1, h2, oB, e7, layLB_of hl]
theorem s_6 {a L : Nat} {xs : Nat → Int32} {σ : gS} {M : gM} {N : gN} {k : Int32 → Nat → (Nat → Int32) → gS → gM → gN → Option (Int32 × gS × gM × gN)} (hI : Inv σ M) (ha : a + 7 ≤ L) (hL : L ≤ 3584) : ∃ σ' M' N', b_L_law_596 k (iN a) L xs σ M N = k (iN (a + 7)) L xs σ' M' N' ∧ Inv σ' M' := by
  have e7 : iN a + 7 = iN (a + 7) := by rw [show (7 : Int32) = iN 7 from rfl, iN_add]
  have g1 : (g_in (iN a + 1) L = true) = True := by rw [show (1 : Int32) = iN 1 from rfl, iN_add, iN_in (by omega)]; simp; omega
  have c1 : (iN a + 1).toNatClampNeg = a + 1 := by rw [show (1 : Int32) = iN 1 from rfl, iN_add, iN_cl (by omega)]
  obtain ⟨r, σ1, M1, N1, M2, h1, hl, h2, h3⟩ := call_town hI N (xs (a + 1))
  refine ⟨σ1, M2, N1, ?_, h3⟩
  simp only [b_L_law_596, b_L_law_1908, g1, c1, if_true, h1, h2, oB, e7, layLB_of hl]
theorem s_18 {a L : Nat} {xs : Nat → Int32} {σ : gS} {M : gM} {N : gN} {k : Int32 → Nat → (Nat → Int32) → gS → gM → gN → Option (Int32 × gS × gM × gN)} (hI : Inv σ M) (ha : a + 7 ≤ L) (hL : L ≤ 3584) : ∃ σ' M' N', b_L_law_1118 k (iN a) L xs σ M N = k (iN (a + 7)) L xs σ' M' N' ∧ Inv σ' M' := by
  have e7 : iN a + 7 = iN (a + 7) := by rw [show (7 : Int32) = iN 7 from rfl, iN_add]
  have g1 : (g_in (iN a + 1) L = true) = True := by rw [show (1 : Int32) = iN 1 from rfl, iN_add, iN_in (by omega)]; simp; omega
  have c1 : (iN a + 1).toNatClampNeg = a + 1 := by rw [show (1 : Int32) = iN 1 from rfl, iN_add, iN_cl (by omega)]
  obtain ⟨r, σ1, M1, N1, M2, N2, h1, hl, h2, h3⟩ := call_read hI N (xs (a + 1))
  refine ⟨σ1, M2, N2, ?_, h3⟩
  simp only [b_L_law_1118, b_L_law_1908, g1, c1, if_true, h1, h2, oB, e7, layLB_of hl]
theorem s_17 {a L : Nat} {xs : Nat → Int32} {σ : gS} {M : gM} {N : gN} {k : Int32 → Nat → (Nat → Int32) → gS → gM → gN → Option (Int32 × gS × gM × gN)} (hI : Inv σ M) (ha : a + 7 ≤ L) (hL : L ≤ 3584) : ∃ σ' M' N', b_L_law_971 k (iN a) L xs σ M N = k (iN (a + 7)) L xs σ' M' N' ∧ Inv σ' M' := by
  have e7 : iN a + 7 = iN (a + 7) := by rw [show (7 : Int32) = iN 7 from rfl, iN_add]
  have g1 : (g_in (iN a + 1) L = true) = True := by rw [show (1 : Int32) = iN 1 from rfl, iN_add, iN_in (by omega)]; simp; omega
  have c1 : (iN a + 1).toNatClampNeg = a + 1 := by rw [show (1 : Int32) = iN 1 from rfl, iN_add, iN_cl (by omega)]
  have g2 : (g_in (iN a + 2) L = true) = True := by rw [show (2 : Int32) = iN 2 from rfl, iN_add, iN_in (by omega)]; simp; omega
  have c2 : (iN a + 2).toNatClampNeg = a + 2 := by rw [show (2 : Int32) = iN 2 from rfl, iN_add, iN_cl (by omega)]
  have g3 : (g_in (iN a + 3) L = true) = True := by rw [show (3 : Int32) = iN 3 from rfl, iN_add, iN_in (by omega)]; simp; omega
  have c3 : (iN a + 3).toNatClampNeg = a + 3 := by rw [show (3 : Int32) = iN 3 from rfl, iN_add, iN_cl (by omega)]
  have g4 : (g_in (iN a + 4) L = true) = True := by rw [show (4 : Int32) = iN 4 from rfl, iN_add, iN_in (by omega)]; simp; omega
  have c4 : (iN a + 4).toNatClampNeg = a + 4 := by rw [show (4 : Int32) = iN 4 from rfl, iN_add, iN_cl (by omega)]
  have g5 : (g_in (iN a + 5) L = true) = True := by rw [show (5 : Int32) = iN 5 from rfl, iN_add, iN_in (by omega)]; simp; omega
  have c5 : (iN a + 5).toNatClampNeg = a + 5 := by rw [show (5 : Int32) = iN 5 from rfl, iN_add, iN_cl (by omega)]
  have g6 : (g_in (iN a + 6) L = true) = True := by rw [show (6 : Int32) = iN 6 from rfl, iN_add, iN_in (by omega)]; simp; omega
  have c6 : (iN a + 6).toNatClampNeg = a + 6 := by rw [show (6 : Int32) = iN 6 from rfl, iN_add, iN_cl (by omega)]
  obtain ⟨r, M1, M2, h1, h2, h3⟩ := call_feed hI ((((xs (a + 1)).toInt64) <<< ((32 : Int32).toInt64 &&& 63)) ||| (((xs (a + 2)).toInt64) &&& 4294967295)) ((((xs (a + 3)).toInt64) <<< ((32 : Int32).toInt64 &&& 63)) ||| (((xs (a + 4)).toInt64) &&& 4294967295)) ((((xs (a + 5)).toInt64) <<< ((32 : Int32).toInt64 &&& 63)) ||| (((xs (a + 6)).toInt64) &&& 4294967295))
  refine ⟨σ, M2, N, ?_, h3⟩
  simp only [b_L_law_971, b_L_law_1908, g1, c1, g2, c2, g3, c3, g4, c4, g5, c5, g6, c6, if_true, h1, h2, oB, e7]
theorem s_1 {a L : Nat} {xs : Nat → Int32} {σ : gS} {M : gM} {N : gN} {k : Int32 → Nat → (Nat → Int32) → gS → gM → gN → Option (Int32 × gS × gM × gN)} (hI : Inv σ M) (ha : a + 7 ≤ L) (hL : L ≤ 3584) : ∃ σ' M' N', b_L_law_327 k (iN a) L xs σ M N = k (iN (a + 7)) L xs σ' M' N' ∧ Inv σ' M' := by
  have e7 : iN a + 7 = iN (a + 7) := by rw [show (7 : Int32) = iN 7 from rfl, iN_add]
  have g1 : (g_in (iN a + 1) L = true) = True := by rw [show (1 : Int32) = iN 1 from rfl, iN_add, iN_in (by omega)]; simp; omega
  have c1 : (iN a + 1).toNatClampNeg = a + 1 := by rw [show (1 : Int32) = iN 1 from rfl, iN_add, iN_cl (by omega)]
  have g2 : (g_in (iN a + 2) L = true) = True := by rw [show (2 : Int32) = iN 2 from rfl, iN_add, iN_in (by omega)]; simp; omega
  have c2 : (iN a + 2).toNatClampNeg = a + 2 := by rw [show (2 : Int32) = iN 2 from rfl, iN_add, iN_cl (by omega)]
  have g3 : (g_in (iN a + 3) L = true) = True := by rw [show (3 : Int32) = iN 3 from rfl, iN_add, iN_in (by omega)]; simp; omega
  have c3 : (iN a + 3).toNatClampNeg = a + 3 := by rw [show (3 : Int32) = iN 3 from rfl, iN_add, iN_cl (by omega)]
  by_cases hx : xs (a + 3) = 0
  · obtain ⟨r, M1, M2, h1, h2, h3⟩ := call_friends hI (xs (a + 1)) (xs (a + 2)) false
    refine ⟨σ, M2, N, ?_, h3⟩
    rw [show bI false = (0 : Int32) from rfl] at h1 h2
    simp only [b_L_law_327, b_L_law_354, b_L_law_384, b_L_law_1908, g1, c1, g2, c2, g3, c3, hx, if_true, if_false, h1, h2, oB, e7]
  · obtain ⟨r, M1, M2, h1, h2, h3⟩ := call_friends hI (xs (a + 1)) (xs (a + 2)) true
    refine ⟨σ, M2, N, ?_, h3⟩
    rw [show bI true = (1 : Int32) from rfl] at h1 h2
    simp only [b_L_law_327, b_L_law_354, b_L_law_384, b_L_law_1908, g1, c1, g2, c2, g3, c3, hx, if_true, if_false, h1, h2, oB, e7]
theorem s_2 {a L : Nat} {xs : Nat → Int32} {σ : gS} {M : gM} {N : gN} {k : Int32 → Nat → (Nat → Int32) → gS → gM → gN → Option (Int32 × gS × gM × gN)} (hI : Inv σ M) (ha : a + 7 ≤ L) (hL : L ≤ 3584) : ∃ σ' M' N', b_L_law_392 k (iN a) L xs σ M N = k (iN (a + 7)) L xs σ' M' N' ∧ Inv σ' M' := by
  have e7 : iN a + 7 = iN (a + 7) := by rw [show (7 : Int32) = iN 7 from rfl, iN_add]
  have g1 : (g_in (iN a + 1) L = true) = True := by rw [show (1 : Int32) = iN 1 from rfl, iN_add, iN_in (by omega)]; simp; omega
  have c1 : (iN a + 1).toNatClampNeg = a + 1 := by rw [show (1 : Int32) = iN 1 from rfl, iN_add, iN_cl (by omega)]
  have g2 : (g_in (iN a + 2) L = true) = True := by rw [show (2 : Int32) = iN 2 from rfl, iN_add, iN_in (by omega)]; simp; omega
  have c2 : (iN a + 2).toNatClampNeg = a + 2 := by rw [show (2 : Int32) = iN 2 from rfl, iN_add, iN_cl (by omega)]
  have g3 : (g_in (iN a + 3) L = true) = True := by rw [show (3 : Int32) = iN 3 from rfl, iN_add, iN_in (by omega)]; simp; omega
  have c3 : (iN a + 3).toNatClampNeg = a + 3 := by rw [show (3 : Int32) = iN 3 from rfl, iN_add, iN_cl (by omega)]
  by_cases hx : xs (a + 3) = 0
  · obtain ⟨r, M1, M2, h1, h2, h3⟩ := call_bar hI (xs (a + 1)) (xs (a + 2)) false
    refine ⟨σ, M2, N, ?_, h3⟩
    rw [show bI false = (0 : Int32) from rfl] at h1 h2
    simp only [b_L_law_392, b_L_law_419, b_L_law_449, b_L_law_1908, g1, c1, g2, c2, g3, c3, hx, if_true, if_false, h1, h2, oB, e7]
  · obtain ⟨r, M1, M2, h1, h2, h3⟩ := call_bar hI (xs (a + 1)) (xs (a + 2)) true
    refine ⟨σ, M2, N, ?_, h3⟩
    rw [show bI true = (1 : Int32) from rfl] at h1 h2
    simp only [b_L_law_392, b_L_law_419, b_L_law_449, b_L_law_1908, g1, c1, g2, c2, g3, c3, hx, if_true, if_false, h1, h2, oB, e7]
theorem s_5 {a L : Nat} {xs : Nat → Int32} {σ : gS} {M : gM} {N : gN} {k : Int32 → Nat → (Nat → Int32) → gS → gM → gN → Option (Int32 × gS × gM × gN)} (hI : Inv σ M) (ha : a + 7 ≤ L) (hL : L ≤ 3584) : ∃ σ' M' N', b_L_law_531 k (iN a) L xs σ M N = k (iN (a + 7)) L xs σ' M' N' ∧ Inv σ' M' := by
  have e7 : iN a + 7 = iN (a + 7) := by rw [show (7 : Int32) = iN 7 from rfl, iN_add]
  have g1 : (g_in (iN a + 1) L = true) = True := by rw [show (1 : Int32) = iN 1 from rfl, iN_add, iN_in (by omega)]; simp; omega
  have c1 : (iN a + 1).toNatClampNeg = a + 1 := by rw [show (1 : Int32) = iN 1 from rfl, iN_add, iN_cl (by omega)]
  have g2 : (g_in (iN a + 2) L = true) = True := by rw [show (2 : Int32) = iN 2 from rfl, iN_add, iN_in (by omega)]; simp; omega
  have c2 : (iN a + 2).toNatClampNeg = a + 2 := by rw [show (2 : Int32) = iN 2 from rfl, iN_add, iN_cl (by omega)]
  have g3 : (g_in (iN a + 3) L = true) = True := by rw [show (3 : Int32) = iN 3 from rfl, iN_add, iN_in (by omega)]; simp; omega
  have c3 : (iN a + 3).toNatClampNeg = a + 3 := by rw [show (3 : Int32) = iN 3 from rfl, iN_add, iN_cl (by omega)]
  by_cases hx : xs (a + 3) = 0
  · obtain ⟨r, M1, M2, h1, h2, h3⟩ := call_absent hI (xs (a + 1)) (xs (a + 2)) false
    refine ⟨σ, M2, N, ?_, h3⟩
    rw [show bI false = (0 : Int32) from rfl] at h1 h2
    simp only [b_L_law_531, b_L_law_558, b_L_law_588, b_L_law_1908, g1, c1, g2, c2, g3, c3, hx, if_true, if_false, h1, h2, oB, e7]
  · obtain ⟨r, M1, M2, h1, h2, h3⟩ := call_absent hI (xs (a + 1)) (xs (a + 2)) true
    refine ⟨σ, M2, N, ?_, h3⟩
    rw [show bI true = (1 : Int32) from rfl] at h1 h2
    simp only [b_L_law_531, b_L_law_558, b_L_law_588, b_L_law_1908, g1, c1, g2, c2, g3, c3, hx, if_true, if_false, h1, h2, oB, e7]
theorem s_10 {a L : Nat} {xs : Nat → Int32} {σ : gS} {M : gM} {N : gN} {k : Int32 → Nat → (Nat → Int32) → gS → gM → gN → Option (Int32 × gS × gM × gN)} (hI : Inv σ M) (ha : a + 7 ≤ L) (hL : L ≤ 3584) : ∃ σ' M' N', b_L_law_696 k (iN a) L xs σ M N = k (iN (a + 7)) L xs σ' M' N' ∧ Inv σ' M' := by
  have e7 : iN a + 7 = iN (a + 7) := by rw [show (7 : Int32) = iN 7 from rfl, iN_add]
  have g1 : (g_in (iN a + 1) L = true) = True := by rw [show (1 : Int32) = iN 1 from rfl, iN_add, iN_in (by omega)]; simp; omega
  have c1 : (iN a + 1).toNatClampNeg = a + 1 := by rw [show (1 : Int32) = iN 1 from rfl, iN_add, iN_cl (by omega)]
  have g2 : (g_in (iN a + 2) L = true) = True := by rw [show (2 : Int32) = iN 2 from rfl, iN_add, iN_in (by omega)]; simp; omega
  have c2 : (iN a + 2).toNatClampNeg = a + 2 := by rw [show (2 : Int32) = iN 2 from rfl, iN_add, iN_cl (by omega)]
  have g3 : (g_in (iN a + 3) L = true) = True := by rw [show (3 : Int32) = iN 3 from rfl, iN_add, iN_in (by omega)]; simp; omega
  have c3 : (iN a + 3).toNatClampNeg = a + 3 := by rw [show (3 : Int32) = iN 3 from rfl, iN_add, iN_cl (by omega)]
  have g4 : (g_in (iN a + 4) L = true) = True := by rw [show (4 : Int32) = iN 4 from rfl, iN_add, iN_in (by omega)]; simp; omega
  have c4 : (iN a + 4).toNatClampNeg = a + 4 := by rw [show (4 : Int32) = iN 4 from rfl, iN_add, iN_cl (by omega)]
  by_cases hx : xs (a + 3) = 0
  · obtain ⟨r, σ1, M1, N1, M2, h1, hl, h2, h3⟩ := call_room hI N false (xs (a + 1)) (xs (a + 2)) (xs (a + 4))
    refine ⟨σ1, M2, N1, ?_, h3⟩
    rw [show bI false = (0 : Int32) from rfl] at h1 h2
    simp only [b_L_law_696, b_L_law_723, b_L_law_759, b_L_law_1908, g1, c1, g2, c2, g3, c3, g4, c4, hx, if_true, if_false, h1, h2, oB, e7, layLB_of hl]
  · obtain ⟨r, σ1, M1, N1, M2, h1, hl, h2, h3⟩ := call_room hI N true (xs (a + 1)) (xs (a + 2)) (xs (a + 4))
    refine ⟨σ1, M2, N1, ?_, h3⟩
    rw [show bI true = (1 : Int32) from rfl] at h1 h2
    simp only [b_L_law_696, b_L_law_723, b_L_law_759, b_L_law_1908, g1, c1, g2, c2, g3, c3, g4, c4, hx, if_true, if_false, h1, h2, oB, e7, layLB_of hl]
theorem s_0 {a L : Nat} {xs : Nat → Int32} {σ : gS} {M : gM} {N : gN} {k : Int32 → Nat → (Nat → Int32) → gS → gM → gN → Option (Int32 × gS × gM × gN)} (hI : Inv σ M) (ha : a + 7 ≤ L) (hL : L ≤ 3584) : ∃ σ' M' N', b_L_law_208 k (iN a) L xs σ M N = k (iN (a + 7)) L xs σ' M' N' ∧ Inv σ' M' := by
  have e7 : iN a + 7 = iN (a + 7) := by rw [show (7 : Int32) = iN 7 from rfl, iN_add]
  have g1 : (g_in (iN a + 1) L = true) = True := by rw [show (1 : Int32) = iN 1 from rfl, iN_add, iN_in (by omega)]; simp; omega
  have c1 : (iN a + 1).toNatClampNeg = a + 1 := by rw [show (1 : Int32) = iN 1 from rfl, iN_add, iN_cl (by omega)]
  have g2 : (g_in (iN a + 2) L = true) = True := by rw [show (2 : Int32) = iN 2 from rfl, iN_add, iN_in (by omega)]; simp; omega
  have c2 : (iN a + 2).toNatClampNeg = a + 2 := by rw [show (2 : Int32) = iN 2 from rfl, iN_add, iN_cl (by omega)]
  have g3 : (g_in (iN a + 3) L = true) = True := by rw [show (3 : Int32) = iN 3 from rfl, iN_add, iN_in (by omega)]; simp; omega
  have c3 : (iN a + 3).toNatClampNeg = a + 3 := by rw [show (3 : Int32) = iN 3 from rfl, iN_add, iN_cl (by omega)]
  have g4 : (g_in (iN a + 4) L = true) = True := by rw [show (4 : Int32) = iN 4 from rfl, iN_add, iN_in (by omega)]; simp; omega
  have c4 : (iN a + 4).toNatClampNeg = a + 4 := by rw [show (4 : Int32) = iN 4 from rfl, iN_add, iN_cl (by omega)]
  have g5 : (g_in (iN a + 5) L = true) = True := by rw [show (5 : Int32) = iN 5 from rfl, iN_add, iN_in (by omega)]; simp; omega
  have c5 : (iN a + 5).toNatClampNeg = a + 5 := by rw [show (5 : Int32) = iN 5 from rfl, iN_add, iN_cl (by omega)]
  have g6 : (g_in (iN a + 6) L = true) = True := by rw [show (6 : Int32) = iN 6 from rfl, iN_add, iN_in (by omega)]; simp; omega
  have c6 : (iN a + 6).toNatClampNeg = a + 6 := by rw [show (6 : Int32) = iN 6 from rfl, iN_add, iN_cl (by omega)]
  by_cases hx : xs (a + 1) = 0
  · by_cases hy : xs (a + 3) = 0
    · obtain ⟨r, σ1, M1, N1, M2, h1, hl, h2, h3⟩ := call_person hI N false false (xs (a + 2)) (xs (a + 4)) (xs (a + 5)) (xs (a + 6))
      refine ⟨σ1, M2, N1, ?_, h3⟩
      rw [show bI false = (0 : Int32) from rfl] at h1 h2
      simp only [b_L_law_208, b_L_law_223, b_L_law_243, b_L_law_280, b_L_law_300, b_L_law_1908, g1, c1, g2, c2, g3, c3, g4, c4, g5, c5, g6, c6, hx, hy, if_true, if_false, h1, h2, oB, e7, layLB_of hl]
    · obtain ⟨r, σ1, M1, N1, M2, h1, hl, h2, h3⟩ := call_person hI N false true (xs (a + 2)) (xs (a + 4)) (xs (a + 5)) (xs (a + 6))
      refine ⟨σ1, M2, N1, ?_, h3⟩
      rw [show bI true = (1 : Int32) from rfl] at h1 h2
      rw [show bI false = (0 : Int32) from rfl] at h1 h2
      simp only [b_L_law_208, b_L_law_223, b_L_law_243, b_L_law_280, b_L_law_300, b_L_law_1908, g1, c1, g2, c2, g3, c3, g4, c4, g5, c5, g6, c6, hx, hy, if_true, if_false, h1, h2, oB, e7, layLB_of hl]
  · by_cases hy : xs (a + 3) = 0
    · obtain ⟨r, σ1, M1, N1, M2, h1, hl, h2, h3⟩ := call_person hI N true false (xs (a + 2)) (xs (a + 4)) (xs (a + 5)) (xs (a + 6))
      refine ⟨σ1, M2, N1, ?_, h3⟩
      rw [show bI true = (1 : Int32) from rfl] at h1 h2
      rw [show bI false = (0 : Int32) from rfl] at h1 h2
      simp only [b_L_law_208, b_L_law_223, b_L_law_243, b_L_law_280, b_L_law_300, b_L_law_1908, g1, c1, g2, c2, g3, c3, g4, c4, g5, c5, g6, c6, hx, hy, if_true, if_false, h1, h2, oB, e7, layLB_of hl]
    · obtain ⟨r, σ1, M1, N1, M2, h1, hl, h2, h3⟩ := call_person hI N true true (xs (a + 2)) (xs (a + 4)) (xs (a + 5)) (xs (a + 6))
      refine ⟨σ1, M2, N1, ?_, h3⟩
      rw [show bI true = (1 : Int32) from rfl] at h1 h2
      simp only [b_L_law_208, b_L_law_223, b_L_law_243, b_L_law_280, b_L_law_300, b_L_law_1908, g1, c1, g2, c2, g3, c3, g4, c4, g5, c5, g6, c6, hx, hy, if_true, if_false, h1, h2, oB, e7, layLB_of hl]
theorem s_31 {a L : Nat} {xs : Nat → Int32} {σ : gS} {M : gM} {N : gN} {k : Int32 → Nat → (Nat → Int32) → gS → gM → gN → Option (Int32 × gS × gM × gN)} (hI : Inv σ M) (ha : a + 7 ≤ L) (hL : L ≤ 3584) : ∃ σ' M' N', b_L_law_1611 k (iN a) L xs σ M N = k (iN (a + 7)) L xs σ' M' N' ∧ Inv σ' M' := by
  have e7 : iN a + 7 = iN (a + 7) := by rw [show (7 : Int32) = iN 7 from rfl, iN_add]
  have g1 : (g_in (iN a + 1) L = true) = True := by rw [show (1 : Int32) = iN 1 from rfl, iN_add, iN_in (by omega)]; simp; omega
  have c1 : (iN a + 1).toNatClampNeg = a + 1 := by rw [show (1 : Int32) = iN 1 from rfl, iN_add, iN_cl (by omega)]
  obtain ⟨r, N1, b, M2, h1, h2, h4, h5, h3⟩ := call_bill hI (xs (a + 1)) N
  refine ⟨σ, M2, N1, ?_, h3⟩
  have ht : f_X12_thrown σ M2 = some r := by unfold f_X12_thrown b_X12_thrown_0; rw [h4]
  have g0 : (g_in (0 : Int32) 1 = true) = True := by simp [g_in]
  simp only [b_L_law_1611, b_L_law_1664, b_L_law_1908, g1, c1, if_true, h1, h2, ht, oB, e7]
  by_cases hk : r = 0
  · have h6 := h5 hk
    rw [if_pos hk]
    simp only [g0, if_true]
    rw [show (0 : Int32).toNatClampNeg = 0 from rfl, h6, if_pos (cmp_self _)]
  · rw [if_neg hk]
theorem s_32 {a L : Nat} {xs : Nat → Int32} {σ : gS} {M : gM} {N : gN} {k : Int32 → Nat → (Nat → Int32) → gS → gM → gN → Option (Int32 × gS × gM × gN)} (hI : Inv σ M) (ha : a + 7 ≤ L) (hL : L ≤ 3584) : ∃ σ' M' N', b_L_law_1667 k (iN a) L xs σ M N = k (iN (a + 7)) L xs σ' M' N' ∧ Inv σ' M' := by
  have e7 : iN a + 7 = iN (a + 7) := by rw [show (7 : Int32) = iN 7 from rfl, iN_add]
  have g1 : (g_in (iN a + 1) L = true) = True := by rw [show (1 : Int32) = iN 1 from rfl, iN_add, iN_in (by omega)]; simp; omega
  have c1 : (iN a + 1).toNatClampNeg = a + 1 := by rw [show (1 : Int32) = iN 1 from rfl, iN_add, iN_cl (by omega)]
  obtain ⟨r, N1, b, M2, h1, h2, h4, h5, h3⟩ := call_owes hI (xs (a + 1)) N
  refine ⟨σ, M2, N1, ?_, h3⟩
  have ht : f_X12_thrown σ M2 = some r := by unfold f_X12_thrown b_X12_thrown_0; rw [h4]
  have g0 : (g_in (0 : Int32) 1 = true) = True := by simp [g_in]
  simp only [b_L_law_1667, b_L_law_1720, b_L_law_1908, g1, c1, if_true, h1, h2, ht, oB, e7]
  by_cases hk : r = 0
  · have h6 := h5 hk
    rw [if_pos hk]
    simp only [g0, if_true]
    rw [show (0 : Int32).toNatClampNeg = 0 from rfl, h6, if_pos (cmp_self _)]
  · rw [if_neg hk]
theorem law_loop {L : Nat} {xs : Nat → Int32} (hL : L ≤ 3584) : ∀ (m i n : Nat), i + m = 512 → m < n → ∀ (σ : gS) (M : gM) (N : gN), Inv σ M → ∃ r, l_L_law_23 n (iN (7 * i)) L xs σ M N = some r ∧ r.1 = 1 := by
  have hend : ∀ i, i ≤ 512 → ¬ 7 * i + 7 ≤ L → (Int32.ofNat L - 7) < iN (7 * i) := fun i hi h => by
    by_cases h7 : 7 ≤ L
    · rw [li_o, show (7 : Int32) = iN 7 from rfl, iN_sub h7, iN_lt (by omega) (by omega)]; omega
    · have : L = 0 ∨ L = 1 ∨ L = 2 ∨ L = 3 ∨ L = 4 ∨ L = 5 ∨ L = 6 := by omega
      rcases this with rfl | rfl | rfl | rfl | rfl | rfl | rfl <;> exact in_lo (by decide) (by omega)
  intro m
  induction m with
  | zero =>
    intro i n hi hn σ M N hI
    obtain ⟨n, rfl⟩ : ∃ q, n = q + 1 := ⟨n - 1, by omega⟩
    refine ⟨(1, σ, M, N), ?_, rfl⟩
    rw [l_L_law_23, if_pos (hend i (by omega) (by omega))]
  | succ m ih =>
    intro i n hi hn σ M N hI
    obtain ⟨n, rfl⟩ : ∃ q, n = q + 1 := ⟨n - 1, by omega⟩
    by_cases h7 : 7 * i + 7 ≤ L
    · have fin : ∀ o : Option (Int32 × gS × gM × gN), (∃ σ' M' N', o = l_L_law_23 n (iN (7 * i + 7)) L xs σ' M' N' ∧ Inv σ' M') → ∃ r, o = some r ∧ r.1 = 1 := fun o h => by
        obtain ⟨σ', M', N', h1, h2⟩ := h
        rw [h1]
        exact ih (i + 1) n (by omega) (by omega) σ' M' N' h2
      rw [l_L_law_23, if_neg (by rw [li_o, show (7 : Int32) = iN 7 from rfl, iN_sub (by omega), iN_lt (by omega) (by omega)]; omega), if_pos (by rw [iN_in (by omega)]; omega), iN_cl (by omega)]
      by_cases k0 : (xs (7 * i) &&& 63) = 0
      · rw [if_pos k0]; exact fin _ (s_0 (k := fun x4 L xs σ M N => l_L_law_23 n x4 L xs σ M N) hI h7 hL)
      rw [if_neg k0]
      by_cases k1 : (xs (7 * i) &&& 63) = 1
      · rw [if_pos k1]; exact fin _ (s_1 (k := fun x4 L xs σ M N => l_L_law_23 n x4 L xs σ M N) hI h7 hL)
      rw [if_neg k1]
      by_cases k2 : (xs (7 * i) &&& 63) = 2
      · rw [if_pos k2]; exact fin _ (s_2 (k := fun x4 L xs σ M N => l_L_law_23 n x4 L xs σ M N) hI h7 hL)
      rw [if_neg k2]
      by_cases k3 : (xs (7 * i) &&& 63) = 3
      · rw [if_pos k3]; exact fin _ (s_3 (k := fun x4 L xs σ M N => l_L_law_23 n x4 L xs σ M N) hI h7 hL)
      rw [if_neg k3]
      by_cases k4 : (xs (7 * i) &&& 63) = 4
      · rw [if_pos k4]; exact fin _ (s_4 (k := fun x4 L xs σ M N => l_L_law_23 n x4 L xs σ M N) hI h7 hL)
      rw [if_neg k4]
      by_cases k5 : (xs (7 * i) &&& 63) = 5
      · rw [if_pos k5]; exact fin _ (s_5 (k := fun x4 L xs σ M N => l_L_law_23 n x4 L xs σ M N) hI h7 hL)
      rw [if_neg k5]
      by_cases k6 : (xs (7 * i) &&& 63) = 6
      · rw [if_pos k6]; exact fin _ (s_6 (k := fun x4 L xs σ M N => l_L_law_23 n x4 L xs σ M N) hI h7 hL)
      rw [if_neg k6]
      by_cases k7 : (xs (7 * i) &&& 63) = 7
      · rw [if_pos k7]; exact fin _ (s_7 (k := fun x4 L xs σ M N => l_L_law_23 n x4 L xs σ M N) hI h7 hL)
      rw [if_neg k7]
      by_cases k8 : (xs (7 * i) &&& 63) = 8
      · rw [if_pos k8]; exact fin _ (s_8 (k := fun x4 L xs σ M N => l_L_law_23 n x4 L xs σ M N) hI h7 hL)
      rw [if_neg k8]
      by_cases k9 : (xs (7 * i) &&& 63) = 9
      · rw [if_pos k9]; exact fin _ (s_9 (k := fun x4 L xs σ M N => l_L_law_23 n x4 L xs σ M N) hI h7 hL)
      rw [if_neg k9]
      by_cases k10 : (xs (7 * i) &&& 63) = 10
      · rw [if_pos k10]; exact fin _ (s_10 (k := fun x4 L xs σ M N => l_L_law_23 n x4 L xs σ M N) hI h7 hL)
      rw [if_neg k10]
      by_cases k11 : (xs (7 * i) &&& 63) = 11
      · rw [if_pos k11]; exact fin _ (s_11 (k := fun x4 L xs σ M N => l_L_law_23 n x4 L xs σ M N) hI h7 hL)
      rw [if_neg k11]
      by_cases k12 : (xs (7 * i) &&& 63) = 12
      · rw [if_pos k12]; exact fin _ (s_12 (k := fun x4 L xs σ M N => l_L_law_23 n x4 L xs σ M N) hI h7 hL)
      rw [if_neg k12]
      by_cases k13 : (xs (7 * i) &&& 63) = 13
      · rw [if_pos k13]; exact fin _ (s_13 (k := fun x4 L xs σ M N => l_L_law_23 n x4 L xs σ M N) hI h7 hL)
      rw [if_neg k13]
      by_cases k14 : (xs (7 * i) &&& 63) = 14
      · rw [if_pos k14]; exact fin _ (s_14 (k := fun x4 L xs σ M N => l_L_law_23 n x4 L xs σ M N) hI h7 hL)
      rw [if_neg k14]
      by_cases k15 : (xs (7 * i) &&& 63) = 15
      · rw [if_pos k15]; exact fin _ (s_15 (k := fun x4 L xs σ M N => l_L_law_23 n x4 L xs σ M N) hI h7 hL)
      rw [if_neg k15]
      by_cases k16 : (xs (7 * i) &&& 63) = 16
      · rw [if_pos k16]; exact fin _ (s_16 (k := fun x4 L xs σ M N => l_L_law_23 n x4 L xs σ M N) hI h7 hL)
      rw [if_neg k16]
      by_cases k17 : (xs (7 * i) &&& 63) = 17
      · rw [if_pos k17]; exact fin _ (s_17 (k := fun x4 L xs σ M N => l_L_law_23 n x4 L xs σ M N) hI h7 hL)
      rw [if_neg k17]
      by_cases k18 : (xs (7 * i) &&& 63) = 18
      · rw [if_pos k18]; exact fin _ (s_18 (k := fun x4 L xs σ M N => l_L_law_23 n x4 L xs σ M N) hI h7 hL)
      rw [if_neg k18]
      by_cases k19 : (xs (7 * i) &&& 63) = 19
      · rw [if_pos k19]; exact fin _ (s_19 (k := fun x4 L xs σ M N => l_L_law_23 n x4 L xs σ M N) hI h7 hL)
      rw [if_neg k19]
      by_cases k20 : (xs (7 * i) &&& 63) = 20
      · rw [if_pos k20]; exact fin _ (s_20 (k := fun x4 L xs σ M N => l_L_law_23 n x4 L xs σ M N) hI h7 hL)
      rw [if_neg k20]
      by_cases k21 : (xs (7 * i) &&& 63) = 21
      · rw [if_pos k21]; exact fin _ (s_21 (k := fun x4 L xs σ M N => l_L_law_23 n x4 L xs σ M N) hI h7 hL)
      rw [if_neg k21]
      by_cases k22 : (xs (7 * i) &&& 63) = 22
      · rw [if_pos k22]; exact fin _ (s_22 (k := fun x4 L xs σ M N => l_L_law_23 n x4 L xs σ M N) hI h7 hL)
      rw [if_neg k22]
      by_cases k23 : (xs (7 * i) &&& 63) = 23
      · rw [if_pos k23]; exact fin _ (s_23 (k := fun x4 L xs σ M N => l_L_law_23 n x4 L xs σ M N) hI h7 hL)
      rw [if_neg k23]
      by_cases k24 : (xs (7 * i) &&& 63) = 24
      · rw [if_pos k24]; exact fin _ (s_24 (k := fun x4 L xs σ M N => l_L_law_23 n x4 L xs σ M N) hI h7 hL)
      rw [if_neg k24]
      by_cases k25 : (xs (7 * i) &&& 63) = 25
      · rw [if_pos k25]; exact fin _ (s_25 (k := fun x4 L xs σ M N => l_L_law_23 n x4 L xs σ M N) hI h7 hL)
      rw [if_neg k25]
      by_cases k26 : (xs (7 * i) &&& 63) = 26
      · rw [if_pos k26]; exact fin _ (s_26 (k := fun x4 L xs σ M N => l_L_law_23 n x4 L xs σ M N) hI h7 hL)
      rw [if_neg k26]
      by_cases k27 : (xs (7 * i) &&& 63) = 27
      · rw [if_pos k27]; exact fin _ (s_27 (k := fun x4 L xs σ M N => l_L_law_23 n x4 L xs σ M N) hI h7 hL)
      rw [if_neg k27]
      by_cases k28 : (xs (7 * i) &&& 63) = 28
      · rw [if_pos k28]; exact fin _ (s_28 (k := fun x4 L xs σ M N => l_L_law_23 n x4 L xs σ M N) hI h7 hL)
      rw [if_neg k28]
      by_cases k29 : (xs (7 * i) &&& 63) = 29
      · rw [if_pos k29]; exact fin _ (s_29 (k := fun x4 L xs σ M N => l_L_law_23 n x4 L xs σ M N) hI h7 hL)
      rw [if_neg k29]
      by_cases k30 : (xs (7 * i) &&& 63) = 30
      · rw [if_pos k30]; exact fin _ (s_30 (k := fun x4 L xs σ M N => l_L_law_23 n x4 L xs σ M N) hI h7 hL)
      rw [if_neg k30]
      by_cases k31 : (xs (7 * i) &&& 63) = 31
      · rw [if_pos k31]; exact fin _ (s_31 (k := fun x4 L xs σ M N => l_L_law_23 n x4 L xs σ M N) hI h7 hL)
      rw [if_neg k31]
      by_cases k32 : (xs (7 * i) &&& 63) = 32
      · rw [if_pos k32]; exact fin _ (s_32 (k := fun x4 L xs σ M N => l_L_law_23 n x4 L xs σ M N) hI h7 hL)
      rw [if_neg k32]
      by_cases k33 : (xs (7 * i) &&& 63) = 33
      · rw [if_pos k33]; exact fin _ (s_33 (k := fun x4 L xs σ M N => l_L_law_23 n x4 L xs σ M N) hI h7 hL)
      rw [if_neg k33]
      by_cases k34 : (xs (7 * i) &&& 63) = 34
      · rw [if_pos k34]; exact fin _ (s_34 (k := fun x4 L xs σ M N => l_L_law_23 n x4 L xs σ M N) hI h7 hL)
      rw [if_neg k34]
      by_cases k35 : (xs (7 * i) &&& 63) = 35
      · rw [if_pos k35]; exact fin _ (s_35 (k := fun x4 L xs σ M N => l_L_law_23 n x4 L xs σ M N) hI h7 hL)
      rw [if_neg k35]
      by_cases k36 : (xs (7 * i) &&& 63) = 36
      · rw [if_pos k36]; exact fin _ (s_36 (k := fun x4 L xs σ M N => l_L_law_23 n x4 L xs σ M N) hI h7 hL)
      rw [if_neg k36]
      by_cases k37 : (xs (7 * i) &&& 63) = 37
      · rw [if_pos k37]; exact fin _ (s_37 (k := fun x4 L xs σ M N => l_L_law_23 n x4 L xs σ M N) hI h7 hL)
      rw [if_neg k37]
      refine fin _ ⟨σ, M, N, ?_, hI⟩
      unfold b_L_law_1908
      rw [show (7 : Int32) = iN 7 from rfl, iN_add]
    · refine ⟨(1, σ, M, N), ?_, rfl⟩
      rw [l_L_law_23, if_pos (hend i (by omega) h7)]
