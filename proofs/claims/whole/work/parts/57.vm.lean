/-! The class's machine with a stack tells what runI tells. -/
theorem fact_c {c : Int32} (h1 : ¬ c < -5) (h2 : c < 0) : c = -1 ∨ c = -2 ∨ c = -3 ∨ c = -4 ∨ c = -5 := by
  have a1 : -5 ≤ c.toInt := by
    have this : ¬ c.toInt < (-5 : Int32).toInt := fun h => h1 (Int32.lt_iff_toInt_lt.mpr h)
    have e : (-5 : Int32).toInt = -5 := by decide
    rw [e] at this; omega
  have a2 : c.toInt < 0 := by
    have := Int32.lt_iff_toInt_lt.mp h2
    have e : (0 : Int32).toInt = 0 := by decide
    rw [e] at this; omega
  have key : c.toInt = -1 ∨ c.toInt = -2 ∨ c.toInt = -3 ∨ c.toInt = -4 ∨ c.toInt = -5 := by omega
  have inj : ∀ d : Int32, c.toInt = d.toInt → c = d := fun d h => Int32.toInt_inj.mp h
  rcases key with h | h | h | h | h
  · exact Or.inl (inj (-1) h)
  · exact Or.inr (Or.inl (inj (-2) h))
  · exact Or.inr (Or.inr (Or.inl (inj (-3) h)))
  · exact Or.inr (Or.inr (Or.inr (Or.inl (inj (-4) h))))
  · exact Or.inr (Or.inr (Or.inr (Or.inr (inj (-5) h))))
theorem join_c (c a b : Int32) : f_X2_join c a b = some (joinI c a b) := by
  unfold f_X2_join b_X2_join_0 joinI
  by_cases h1 : c = -9
  · rw [if_pos h1, if_pos h1]
  rw [if_neg h1, if_neg h1]
  by_cases h2 : c = -8
  · rw [if_pos h2, if_pos h2]; by_cases h : a = b
    · rw [if_pos h, if_pos h]
    · rw [if_neg h, if_neg h]
  rw [if_neg h2, if_neg h2]
  by_cases h3 : c = -7
  · rw [if_pos h3, if_pos h3]; by_cases h : a < b
    · rw [if_pos h, if_pos h]
    · rw [if_neg h, if_neg h]
  rw [if_neg h3, if_neg h3]
  by_cases h4 : c = -6
  · rw [if_pos h4, if_pos h4]; by_cases h : a = 0
    · rw [if_pos h, if_pos h]
    · rw [if_neg h, if_neg h]; by_cases h' : b = 0
      · rw [if_pos h', if_pos h']
      · rw [if_neg h', if_neg h']
  rw [if_neg h4, if_neg h4]
/-- the stack's cells, the top first -/
def stkI (r : Nat → Int32) : List Int32 → Prop
  | [] => True
  | v :: s => r s.length = v ∧ stkI r s
theorem stkI.keep {r r' : Nat → Int32} : ∀ {s : List Int32}, stkI r s → (∀ j, j < s.length → r' j = r j) → stkI r' s := by
  intro s
  induction s with
  | nil => intro _ _; trivial
  | cons v s ih =>
    intro h k
    exact ⟨by rw [k _ (by simp)]; exact h.1, ih h.2 (fun j hj => k j (by simp; omega))⟩
/-- where the class's contract lies -/
def cnL (σ : gS) (t cd len : Nat) : Prop := lyCt σ t ∧ σ.2 (140 + t) 4 = cd ∧ σ.1 cd = some (14, len) ∧ len ≤ 400 ∧ (cd < 180 ∨ 190 ≤ cd) ∧ t < 6
theorem l_value {σ : gS} {t cd len : Nat} (hc : cnL σ t cd len) {fa : Nat → Int32} : ∀ (cs : List Int32) (a n : Nat) (M : gM) (s : List Int32), cs.length < n → a + cs.length ≤ len → okI cs s.length 20 → s.length ≤ 20 → (∀ j, j < cs.length → M cd (a + j) = cs.getD j 0) → stkI (M (180 + t)) s → (∀ i, i < 5 → M (170 + t) i = fa i) →
    ∃ M', l_X2_valueOf_5 n (140 + t) (iN (a + cs.length)) (iN s.length) (iN a) σ M = some ((runI fa cs s).headD 0, M') ∧ ∀ b j, b ≠ 180 + t → M' b j = M b j := by
  obtain ⟨⟨c0, c1, c2, c3, c4, c5, c6, c7, c8⟩, d1, d2, d3, d4, d5⟩ := hc
  intro cs
  induction cs with
  | nil =>
    intro a n M s hn ha hok hs20 hcode hst hfa
    obtain ⟨n, rfl⟩ : ∃ m, n = m + 1 := ⟨n - 1, by simp at hn; omega⟩
    have hs1 : s.length = 1 := hok
    match s, hs1, hst with
    | [v], _, hst =>
      refine ⟨M, ?_, fun b j _ => rfl⟩
      simp only [List.length_nil, Nat.add_zero] at ha ⊢
      rw [l_X2_valueOf_5, if_neg (by rw [iN_lt (by omega) (by omega)]; omega)]
      unfold b_X2_valueOf_119
      rw [if_pos (by rw [is_of c0]; trivial), c4, if_pos (by rw [is_of c8]; trivial), ln_of c8, if_pos (by decide)]
      rw [show (0 : Int32).toNatClampNeg = 0 from rfl, show M (180 + t) 0 = v from hst.1]
      rfl
  | cons c cs ih =>
    intro a n M s hn ha hok hs20 hcode hst hfa
    obtain ⟨n, rfl⟩ : ∃ m, n = m + 1 := ⟨n - 1, by simp at hn; omega⟩
    simp only [List.length_cons] at hn ha
    have hc0 : M cd a = c := by have := hcode 0 (by simp); simpa using this
    have hcs : ∀ j, j < cs.length → M cd (a + 1 + j) = cs.getD j 0 := fun j hj => by
      have := hcode (j + 1) (by simp; omega)
      rw [show a + 1 + j = a + (j + 1) by omega]; simpa using this
    have e1 : iN a + 1 = iN (a + 1) := by rw [show (1 : Int32) = iN 1 from rfl, iN_add]
    have hlen : a + (cs.length + 1) = a + 1 + cs.length := by omega
    simp only [List.length_cons]
    rw [l_X2_valueOf_5, if_pos (by rw [iN_lt (by omega) (by omega)]; omega), if_pos (by rw [is_of c0]; trivial), d1, if_pos (by rw [is_of d2]; trivial), ln_of d2, if_pos (show iN a < Int32.ofNat len by rw [li_o, iN_lt (by omega) (by omega)]; omega), if_pos (by rw [iN_in (by omega)]; omega), iN_cl (by omega), hc0]
    unfold okI at hok
    by_cases k1 : c < -5
    · rw [if_pos k1] at hok ⊢
      obtain ⟨h2, h11, hok⟩ := hok
      match s, h2, hst, hs20 with
      | y :: x :: s, h2, hst, hs20 =>
        simp only [List.length_cons] at h2 hs20 hok ⊢
        have hy : M (180 + t) (s.length + 1) = y := by have := hst.1; simpa using this
        have hx : M (180 + t) s.length = x := hst.2.1
        have t1 : (iN (s.length + 1 + 1) : Int32) + (-1) = iN (s.length + 1) := by
          rw [show (-1 : Int32) = iM from rfl, sub_1, iN_sub (by omega), Nat.add_sub_cancel]
        have t2 : (iN (s.length + 1) : Int32) - 1 = iN s.length := by rw [show (1 : Int32) = iN 1 from rfl, iN_sub (by omega), Nat.add_sub_cancel]
        rw [if_neg (show ¬ iN (s.length + 1 + 1) < 2 by rw [show (2 : Int32) = iN 2 from rfl, iN_lt (by omega) (by omega)]; omega), c4, if_pos (by rw [is_of c8]; trivial), ln_of c8, t1, t2, if_pos (by rw [iN_in (by omega)]; omega), if_pos (by rw [iN_in (by omega)]; omega), iN_cl (by omega), iN_cl (by omega), hx, hy, join_c, oB, if_pos (by rw [iN_in (by omega)]; omega)]
        unfold b_X2_valueOf_113
        rw [e1]
        have hn180 : cd ≠ 180 + t := by omega
        obtain ⟨M', r1, r2⟩ := ih (a + 1) n (g_up M (180 + t) s.length (joinI c x y)) (joinI c x y :: s) (by omega) (by omega) (by simpa using hok) (by simp; omega) (fun j hj => by rw [g_up_ne _ _ (by omega)]; exact hcs j hj) ⟨g_up_eq _ _ ⟨rfl, rfl⟩, hst.2.2.keep (fun j hj => g_up_ne _ _ (by omega))⟩ (fun i hi => by rw [g_up_ne _ _ (by omega)]; exact hfa i hi)
        refine ⟨M', ?_, fun b j hb => by rw [r2 b j hb, g_up_ne _ _ (by omega)]⟩
        rw [hlen]
        refine Eq.trans r1 ?_
        rw [runI]
        unfold stepI
        rw [if_pos k1]
    · rw [if_neg k1] at hok ⊢
      obtain ⟨h20, hok⟩ := hok
      rw [if_pos (show iN s.length < 20 by rw [show (20 : Int32) = iN 20 from rfl, iN_lt (by omega) (by omega)]; exact h20), c3, c4]
      have e2 : iN s.length + 1 = iN (s.length + 1) := by rw [show (1 : Int32) = iN 1 from rfl, iN_add]
      have push : ∀ v, v = (if c < 0 then fa (-1 - c).toNatClampNeg else c) → ∃ M', b_X2_valueOf_109 (fun r0 x2 x3 x4 σ M => l_X2_valueOf_5 n r0 x2 x3 x4 σ M) (140 + t) (iN (a + (cs.length + 1))) (iN s.length) (iN a) v (iN s.length) (180 + t) σ M = some ((runI fa (c :: cs) s).headD 0, M') ∧ ∀ b j, b ≠ 180 + t → M' b j = M b j := by
        intro v hv
        unfold b_X2_valueOf_109 b_X2_valueOf_113
        rw [if_pos (by rw [is_of c8]; trivial), ln_of c8, if_pos (by rw [iN_in (by omega)]; omega), iN_cl (by omega), e1, e2]
        have hn180 : cd ≠ 180 + t := by omega
        obtain ⟨M', r1, r2⟩ := ih (a + 1) n (g_up M (180 + t) s.length v) (v :: s) (by omega) (by omega) (by simpa using hok) (by simp; omega) (fun j hj => by rw [g_up_ne _ _ (by omega)]; exact hcs j hj) ⟨g_up_eq _ _ ⟨rfl, rfl⟩, hst.keep (fun j hj => g_up_ne _ _ (by omega))⟩ (fun i hi => by rw [g_up_ne _ _ (by omega)]; exact hfa i hi)
        refine ⟨M', ?_, fun b j hb => by rw [r2 b j hb, g_up_ne _ _ (by omega)]⟩
        rw [hlen]
        refine Eq.trans r1 ?_
        rw [runI]
        unfold stepI
        rw [if_neg k1, ← hv]
      by_cases k2 : c < 0
      · have hin : g_in ((-1 : Int32) - c) 5 = true ∧ ((-1 : Int32) - c).toNatClampNeg < 5 := by
          rcases fact_c k1 k2 with rfl | rfl | rfl | rfl | rfl <;> decide
        rw [if_pos k2, if_pos (by rw [is_of c7]; trivial), ln_of c7, if_pos hin.1]
        exact push _ (by rw [if_pos k2]; exact hfa _ hin.2)
      · rw [if_neg k2]
        exact push _ (by rw [if_neg k2])
theorem value_c {σ : gS} {t cd len : Nat} (hc : cnL σ t cd len) {fa : Nat → Int32} {cs : List Int32} {a : Nat} {M : gM} (ha : a + cs.length ≤ len) (hok : okI cs 0 20) (hcode : ∀ j, j < cs.length → M cd (a + j) = cs.getD j 0) (hfa : ∀ i, i < 5 → M (170 + t) i = fa i) : ∃ M', f_X2_valueOf (140 + t) (iN a) (iN (a + cs.length)) σ M = some (valI fa cs, M') ∧ ∀ b j, b ≠ 180 + t → M' b j = M b j := by
  have hl := hc.2.2.2.1
  exact l_value hc cs a g_FU M [] (by unfold g_FU; omega) ha hok (by simp) hcode trivial hfa
theorem clamp_c (q : Int32) : (if (0 : Int32) < (if q < (100 : Int32) then q else (100 : Int32)) then (if q < (100 : Int32) then q else (100 : Int32)) else (0 : Int32)) = clampI q := by
  unfold clampI
  have t0 : (0 : Int32).toInt = 0 := rfl
  have t100 : (100 : Int32).toInt = 100 := rfl
  by_cases h1 : q < 100
  · have a1 := Int32.lt_iff_toInt_lt.mp h1
    rw [if_pos h1, if_neg (show ¬ (100 : Int32) < q from fun h => by have := Int32.lt_iff_toInt_lt.mp h; omega)]
    by_cases h2 : q < 0
    · have a2 := Int32.lt_iff_toInt_lt.mp h2
      rw [if_pos h2, if_neg (fun h => by have := Int32.lt_iff_toInt_lt.mp h; omega)]
    · rw [if_neg h2]
      by_cases h3 : 0 < q
      · rw [if_pos h3]
      · rw [if_neg h3]
        apply Int32.toInt_inj.mp
        have b1 : ¬ q.toInt < (0 : Int32).toInt := fun h => h2 (Int32.lt_iff_toInt_lt.mpr h)
        have b2 : ¬ (0 : Int32).toInt < q.toInt := fun h => h3 (Int32.lt_iff_toInt_lt.mpr h)
        rw [t0] at b1 b2
        omega
  · have a1 : ¬ q.toInt < (100 : Int32).toInt := fun h => h1 (Int32.lt_iff_toInt_lt.mpr h)
    rw [t100] at a1
    rw [if_neg h1, if_pos (by decide), if_neg (show ¬ q < 0 from fun h => by have := Int32.lt_iff_toInt_lt.mp h; omega)]
    by_cases h2 : 100 < q
    · rw [if_pos h2]
    · rw [if_neg h2]
      apply Int32.toInt_inj.mp
      have b1 : ¬ (100 : Int32).toInt < q.toInt := fun h => h2 (Int32.lt_iff_toInt_lt.mpr h)
      rw [t100] at b1 ⊢
      omega
