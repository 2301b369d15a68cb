/-! settle, most: the class's guests and rooms. -/
theorem there_keep {M M0 : gM} {p t : Nat} (h : ∀ a, 41 ≤ a → a ≤ 49 → M a p = M0 a p) : thereB M p t = thereB M0 p t := by
  unfold thereB
  rw [h 47 (by omega) (by omega), h 45 (by omega) (by omega), h 46 (by omega) (by omega)]
def frG (M M0 : gM) : Prop := ∀ a j, ¬ (a = 12 ∧ j = 9) → ¬ (14 ≤ a ∧ a ≤ 17) → M a j = M0 a j
theorem frG.trans {A B C : gM} (h : frG A B) (g : frG B C) : frG A C := fun a j h1 h2 => by rw [h a j h1 h2, g a j h1 h2]
theorem l_gg7 {σ : gS} {M0 : gM} {P T C t : Nat} {R F : Nat → Nat} (hL : Lay σ P T R) (hP : vP M0 P) (hT : vT M0 T C R F) (ht : t < T) : ∀ k i f M, i + k = P → k < f → frG M M0 → M 12 9 = iN (cf (fun p => thereB M0 p t) i) → (∀ p, p < i → thereB M0 p t = true → M 14 (cf (fun p => thereB M0 p t) p) = iN p ∧ M 15 (cf (fun p => thereB M0 p t) p) = M0 57 (10 * t + p) ∧ M 17 (cf (fun p => thereB M0 p t) p) = M0 43 p) → ∃ M', l_X9_gatherGuests_7 f (110 + t) (iN i) σ M = l_X9_gatherGuests_91 g_FU 0 σ M' ∧ frG M' M0 ∧ M' 12 9 = iN (cf (fun p => thereB M0 p t) P) ∧ (∀ p, p < P → thereB M0 p t = true → M' 14 (cf (fun p => thereB M0 p t) p) = iN p ∧ M' 15 (cf (fun p => thereB M0 p t) p) = M0 57 (10 * t + p) ∧ M' 17 (cf (fun p => thereB M0 p t) p) = M0 43 p) := by
  have hP10 := hP.1
  have hT6 := hT.1
  intro k
  induction k with
  | zero =>
    intro i f M hi hf fr h9 hd
    obtain ⟨f, rfl⟩ : ∃ m, f = m + 1 := ⟨f - 1, by omega⟩
    obtain rfl : i = P := by omega
    refine ⟨M, ?_, fr, h9, hd⟩
    rw [l_X9_gatherGuests_7, fr 2 1 (by omega) (by omega), hP.2.1, if_neg (by rw [iN_lt (by omega) (by omega)]; omega)]
  | succ k ih =>
    intro i f M hi hf fr h9 hd
    obtain ⟨f, rfl⟩ : ∃ m, f = m + 1 := ⟨f - 1, by omega⟩
    have hc := cf_le (fun p => thereB M0 p t) i
    obtain ⟨ly1, ly2⟩ := hL.2.1.1 i (by omega)
    obtain ⟨y1, y2⟩ := hL.2.2.1.1 t ht
    have v1 := hT.2.2.2.2.2.2.2.2.2.1 t ht
    have vp1 : vP1 M i := by
      have := hP.2.2.2.1 i (by omega)
      unfold vP1 at *
      simp (disch := omega) only [fr (100 + i) _ (by omega) (by omega), fr 41 _ (by omega) (by omega), fr 42 _ (by omega) (by omega), fr 43 _ (by omega) (by omega), fr 44 _ (by omega) (by omega), fr 45 _ (by omega) (by omega), fr 46 _ (by omega) (by omega), fr 47 _ (by omega) (by omega), fr 48 _ (by omega) (by omega), fr 64 _ (by omega) (by omega)]
      exact this
    have hgi : g_in (iN i) 10 = true := by rw [iN_in (by omega)]; omega
    rw [l_X9_gatherGuests_7, fr 2 1 (by omega) (by omega), hP.2.1, if_pos (by rw [iN_lt (by omega) (by omega)]; omega), if_pos hgi, if_pos (show g_is σ (110 + t) 10 = true by rw [is_of y1.2.1]; trivial), iN_cl (by omega), ly2, if_pos (show g_is σ (100 + i) 6 = true by rw [is_of ly1]; trivial), fr (110 + t) 0 (by omega) (by omega), v1.1, there_c (M := M) hL.2.1 (show i < P by omega) vp1, oB, there_keep (fun a h1 h2 => fr a i (by omega) (by omega))]
    cases e : thereB M0 i t with
    | false =>
      rw [if_pos (show bI false = (0 : Int32) from rfl)]
      unfold b_X9_gatherGuests_83
      rw [eS]
      exact ih (i + 1) f M (by omega) (by omega) fr (by rw [cf_f (f := fun p => thereB M0 p t) e]; exact h9) (fun p hp hpt => by
        by_cases c : p = i
        · rw [c, e] at hpt; cases hpt
        · exact hd p (by omega) hpt)
    | true =>
      have ci : cf (fun p => thereB M0 p t) (i + 1) = cf (fun p => thereB M0 p t) i + 1 := cf_t e
      have gc : g_in (iN (cf (fun p => thereB M0 p t) i)) 10 = true := by rw [iN_in (by omega)]; omega
      rw [if_neg (show ¬ bI true = (0 : Int32) by decide), h9, if_pos gc, iN_cl (by omega)]
      generalize hcg : cf (fun p => thereB M0 p t) i = c at *
      rw [guest_c2 hL.2.2.1 ht (by omega), oB, g_up_ne (a := 14) (b := 12) _ _ (by omega), h9, if_pos gc, if_pos hgi, iN_cl (by omega), g_up_ne (a := 15) (b := 12) _ _ (by omega), g_up_ne (a := 14) (b := 12) _ _ (by omega), h9, if_pos gc, iN_cl (by omega)]
      unfold b_X9_gatherGuests_73 b_X9_gatherGuests_83
      rw [eS, g_up_ne (a := 14) (b := 130 + t) _ _ (by omega), fr (130 + t) i (by omega) (by omega), v1.2.2.2.2 i (by omega), g_up_ne (a := 15) (b := 100 + i) _ _ (by omega), g_up_ne (a := 14) (b := 100 + i) _ _ (by omega), fr (100 + i) 2 (by omega) (by omega), (hP.2.2.2.1 i (by omega)).2.2.1, nar_b (hP.2.2.2.2.1 i (by omega)).2.1, g_up_ne (a := 17) (b := 12) _ _ (by omega), g_up_ne (a := 15) (b := 12) _ _ (by omega), g_up_ne (a := 14) (b := 12) _ _ (by omega), h9, eS]
      obtain ⟨M', q1, q2, q3, q4⟩ := ih (i + 1) f (g_up (g_up (g_up (g_up M 14 c (iN i)) 15 c (M0 57 (10 * t + i))) 17 c (M0 43 i)) 12 9 (iN (c + 1))) (by omega) (by omega) (fun a j h1 h2 => by rw [g_up_ne _ _ h1, g_up_ne _ _ (by omega), g_up_ne _ _ (by omega), g_up_ne _ _ (by omega), fr a j h1 h2]) (by rw [g_up_eq _ _ ⟨rfl, rfl⟩, ci]) (fun p hp hpt => by
        by_cases cp : p = i
        · rw [cp, hcg]
          refine ⟨?_, ?_, ?_⟩
          · rw [g_up_ne _ _ (by omega), g_up_ne _ _ (by omega), g_up_ne _ _ (by omega), g_up_eq _ _ ⟨rfl, rfl⟩]
          · rw [g_up_ne _ _ (by omega), g_up_ne _ _ (by omega), g_up_eq _ _ ⟨rfl, rfl⟩]
          · rw [g_up_ne _ _ (by omega), g_up_eq _ _ ⟨rfl, rfl⟩]
        · obtain ⟨w1, w2, w3⟩ := hd p (by omega) hpt
          have hlt := cf_lt_of (f := fun p => thereB M0 p t) (show p < i by omega) hpt
          refine ⟨?_, ?_, ?_⟩
          · rw [g_up_ne _ _ (by omega), g_up_ne _ _ (by omega), g_up_ne _ _ (by omega), g_up_ne _ _ (by omega)]; exact w1
          · rw [g_up_ne _ _ (by omega), g_up_ne _ _ (by omega), g_up_ne _ _ (by omega), g_up_ne _ _ (by omega)]; exact w2
          · rw [g_up_ne _ _ (by omega), g_up_ne _ _ (by omega), g_up_ne _ _ (by omega), g_up_ne _ _ (by omega)]; exact w3)
      exact ⟨M', q1, q2, q3, q4⟩
theorem l_gg109 {σ : gS} {M0 : gM} {P a m : Nat} {g : Nat → Nat} {K : Int32 → gS → gM → Option gM} (hs : lyP σ P) (hP : vP M0 P) (ha : a < m) (hm : m ≤ 10) (hg : ∀ j, j < m → g j < P) (hlt : ∀ i j, i < j → j < m → g i < g j) : ∀ k j f M, j + k = a → k < f → frG M M0 → (∀ i, i < m → M 14 i = iN (g i)) → M 16 a = iN (setOf (fun b => shareB M0 (g a) (g b)) j) → ∃ M', l_X9_gatherGuests_109 K f (iN a) (iN j) σ M = K (iN (a + 1)) σ M' ∧ M' 16 a = iN (setOf (fun b => shareB M0 (g a) (g b)) a) ∧ ∀ b j, ¬ (b = 16 ∧ j = a) → M' b j = M b j := by
  have hP10 := hP.1
  intro k
  induction k with
  | zero =>
    intro j f M hj hf fr h14 h16
    obtain ⟨f, rfl⟩ : ∃ m, f = m + 1 := ⟨f - 1, by omega⟩
    obtain rfl : j = a := by omega
    refine ⟨M, ?_, h16, fun _ _ _ => rfl⟩
    rw [l_X9_gatherGuests_109, if_neg (by rw [iN_lt (by omega) (by omega)]; omega), eS]
  | succ k ih =>
    intro j f M hj hf fr h14 h16
    obtain ⟨f, rfl⟩ : ∃ m, f = m + 1 := ⟨f - 1, by omega⟩
    have g1 := hg a ha
    have g2 := hg j (by omega)
    have g3 := hlt j a (by omega) ha
    have gia : g_in (iN a) 10 = true := by rw [iN_in (by omega)]; omega
    have gij : g_in (iN j) 10 = true := by rw [iN_in (by omega)]; omega
    have vp : vP M P := hP.keep (fun b j h => fr b j (by omega) (by omega))
    have es : shareB M (g a) (g j) = shareB M0 (g a) (g j) := by
      unfold shareB
      rw [fr 48 _ (by omega) (by omega), fr 48 _ (by omega) (by omega), fr 49 _ (by omega) (by omega), fr 41 _ (by omega) (by omega), fr 41 _ (by omega) (by omega), fr 42 _ (by omega) (by omega), fr 42 _ (by omega) (by omega)]
    have e16 : setOf (fun b => shareB M0 (g a) (g b)) (j + 1) = setOf (fun b => shareB M0 (g a) (g b)) j ||| (if shareB M0 (g a) (g j) then 2 ^ j else 0) := rfl
    rw [l_X9_gatherGuests_109, if_pos (by rw [iN_lt (by omega) (by omega)]; omega), if_pos gia, if_pos gij, iN_cl (by omega), iN_cl (by omega), h14 a ha, h14 j (by omega), share_c hs vp g1 g2 (by omega), oB, es]
    unfold b_X9_gatherGuests_148
    cases e : shareB M0 (g a) (g j) with
    | false =>
      rw [if_pos (show bI false = (0 : Int32) from rfl), eS]
      exact ih (j + 1) f M (by omega) (by omega) fr h14 (by rw [e16, e, if_neg (by decide), Nat.or_zero]; exact h16)
    | true =>
      rw [if_neg (show ¬ bI true = (0 : Int32) by decide), if_pos gia, if_pos gia, eS, h16, show (1 : Int32) <<< (iN j &&& 31) = iN (2 ^ j) from by rw [show (1 : Int32) = iN 1 from rfl, iN_shl (by omega), Nat.one_mul], iN_or]
      obtain ⟨M', q1, q2, q3⟩ := ih (j + 1) f (g_up M 16 a (iN (setOf (fun b => shareB M0 (g a) (g b)) j ||| 2 ^ j))) (by omega) (by omega) (fun b j h1 h2 => by rw [g_up_ne _ _ (by omega), fr b j h1 h2]) (fun i hi => by rw [g_up_ne _ _ (by omega)]; exact h14 i hi) (by rw [g_up_eq _ _ ⟨rfl, rfl⟩, e16, e, if_pos rfl])
      exact ⟨M', q1, q2, fun b j h => by rw [q3 b j h, g_up_ne _ _ h]⟩
theorem l_gg91 {σ : gS} {M0 : gM} {P m : Nat} {g : Nat → Nat} (hs : lyP σ P) (hP : vP M0 P) (hm : m ≤ 10) (hg : ∀ j, j < m → g j < P) (hlt : ∀ i j, i < j → j < m → g i < g j) : ∀ k a f M, a + k = m → k < f → frG M M0 → M 12 9 = iN m → (∀ i, i < m → M 14 i = iN (g i)) → (∀ i, i < a → M 16 i = iN (setOf (fun b => shareB M0 (g i) (g b)) i)) → ∃ M', l_X9_gatherGuests_91 f (iN a) σ M = some M' ∧ (∀ i, i < m → M' 16 i = iN (setOf (fun b => shareB M0 (g i) (g b)) i)) ∧ ∀ b j, b ≠ 16 → M' b j = M b j := by
  intro k
  induction k with
  | zero =>
    intro a f M ha hf fr h9 h14 h16
    obtain ⟨f, rfl⟩ : ∃ m, f = m + 1 := ⟨f - 1, by omega⟩
    obtain rfl : a = m := by omega
    refine ⟨M, ?_, h16, fun _ _ _ => rfl⟩
    rw [l_X9_gatherGuests_91, h9, if_neg (by rw [iN_lt (by omega) (by omega)]; omega)]
  | succ k ih =>
    intro a f M ha hf fr h9 h14 h16
    obtain ⟨f, rfl⟩ : ∃ m, f = m + 1 := ⟨f - 1, by omega⟩
    have fr2 : frG (g_up M 16 a 0) M0 := fun b j h1 h2 => by rw [g_up_ne _ _ (by omega), fr b j h1 h2]
    obtain ⟨M1, q1, q2, q3⟩ := l_gg109 (σ := σ) (K := fun x3 σ M => l_X9_gatherGuests_91 f x3 σ M) hs hP (show a < m by omega) hm hg hlt a 0 g_FU (g_up M 16 a 0) (by omega) (by unfold g_FU; omega) fr2 (fun i hi => by rw [g_up_ne _ _ (by omega)]; exact h14 i hi) (by rw [g_up_eq _ _ ⟨rfl, rfl⟩]; rfl)
    have fr1 : ∀ b j, ¬ (b = 16 ∧ j = a) → M1 b j = M b j := fun b j h => by rw [q3 b j h, g_up_ne _ _ h]
    obtain ⟨M2, u1, u2, u3⟩ := ih (a + 1) f M1 (by omega) (by omega) (fun b j h1 h2 => by rw [fr1 b j (by omega), fr b j h1 h2]) (by rw [fr1 _ _ (by omega)]; exact h9) (fun i hi => by rw [fr1 _ _ (by omega)]; exact h14 i hi) (fun i hi => by
      by_cases c : i = a
      · rw [c]; exact q2
      · rw [fr1 _ _ (by omega)]; exact h16 i (by omega))
    refine ⟨M2, ?_, u2, fun b j h => by rw [u3 b j h, fr1 b j (by omega)]⟩
    rw [l_X9_gatherGuests_91, h9, if_pos (by rw [iN_lt (by omega) (by omega)]; omega), if_pos (by rw [iN_in (by omega)]; omega), iN_cl (by omega)]
    exact q1.trans u1
/-- the class's guests: m of them, the j-th is the person g j -/
def hasG (M M0 : gM) (t m : Nat) (g : Nat → Nat) : Prop := M 12 9 = iN m ∧ ∀ j, j < m → M 14 j = iN (g j) ∧ M 15 j = M0 57 (10 * t + g j) ∧ M 17 j = M0 43 (g j) ∧ M 16 j = iN (setOf (fun b => shareB M0 (g j) (g b)) j)
theorem hasG.keep {M M' M0 : gM} {t m : Nat} {g : Nat → Nat} (h : hasG M M0 t m g) (k : ∀ a j, (a = 12 ∧ j = 9) ∨ (14 ≤ a ∧ a ≤ 17) → M' a j = M a j) : hasG M' M0 t m g := by
  obtain ⟨h1, h2⟩ := h
  refine ⟨by rw [k _ _ (by omega)]; exact h1, fun j hj => ?_⟩
  rw [k _ _ (by omega), k _ _ (by omega), k _ _ (by omega), k _ _ (by omega)]
  exact h2 j hj
theorem gather_c {σ : gS} {M0 : gM} {P T C t : Nat} {R F : Nat → Nat} {g : Nat → Nat} (hL : Lay σ P T R) (hP : vP M0 P) (hT : vT M0 T C R F) (ht : t < T) (hg : nth (fun p => thereB M0 p t) P g) : ∃ M, f_X9_gatherGuests (110 + t) σ M0 = some M ∧ frG M M0 ∧ hasG M M0 t (cf (fun p => thereB M0 p t) P) g := by
  have hP10 := hP.1
  have hm := cf_le (fun p => thereB M0 p t) P
  obtain ⟨M1, q1, q2, q3, q4⟩ := l_gg7 hL hP hT ht P 0 g_FU (g_up M0 12 9 0) (by omega) (by unfold g_FU; omega) (fun a j h1 h2 => g_up_ne _ _ h1) (g_up_eq _ _ ⟨rfl, rfl⟩) (fun p hp => by omega)
  have q4' : ∀ j, j < cf (fun p => thereB M0 p t) P → M1 14 j = iN (g j) ∧ M1 15 j = M0 57 (10 * t + g j) ∧ M1 17 j = M0 43 (g j) := fun j hj => by
    have h := hg j hj
    have := q4 (g j) h.1 h.2.1
    rw [h.2.2] at this
    exact this
  obtain ⟨M2, u1, u2, u3⟩ := l_gg91 (σ := σ) (g := g) hL.2.1 hP (by omega) (fun j hj => (hg j hj).1) (fun i j h1 h2 => hg.lt h1 h2) (cf (fun p => thereB M0 p t) P) 0 g_FU M1 (by omega) (by unfold g_FU; omega) q2 q3 (fun i hi => (q4' i hi).1) (fun i hi => by omega)
  refine ⟨M2, ?_, fun a j h1 h2 => by rw [u3 a j (by omega), q2 a j h1 h2], by rw [u3 _ _ (by omega)]; exact q3, fun j hj => ?_⟩
  · unfold f_X9_gatherGuests b_X9_gatherGuests_0
    exact q1.trans u1
  · rw [u3 _ _ (by omega), u3 _ _ (by omega), u3 _ _ (by omega)]
    obtain ⟨w1, w2, w3⟩ := q4' j hj
    exact ⟨w1, w2, w3, u2 j hj⟩
/-! rooms -/
def bF (M : gM) (t r : Nat) : Nat := (M 53 (10 * t + r)).toNatClampNeg
def prF (M : gM) (t r : Nat) : Nat := (M 55 (10 * t + r)).toNatClampNeg
theorem bF_of {M : gM} {T C t r : Nat} {R F : Nat → Nat} (hT : vT M T C R F) (ht : t < 6) (hr : r < R t) : M 53 (10 * t + r) = iN (bF M t r) ∧ 1 ≤ bF M t r ∧ bF M t r ≤ 2 ∧ M 55 (10 * t + r) = iN (prF M t r) ∧ 1 ≤ prF M t r ∧ prF M t r ≤ 1000 := by
  obtain ⟨_, _, ⟨b, b1, b2, b3⟩, c, c1, c2, c3⟩ := hT.2.2.2.2.2.2.2.2.2.2.2.2.2 t r ht hr
  have e1 : bF M t r = b := by unfold bF; rw [b1, iN_cl (by omega)]
  have e2 : prF M t r = c := by unfold prF; rw [c1, iN_cl (by omega)]
  rw [e1, e2]
  exact ⟨b1, b2, b3, c1, c2, c3⟩
def bsum (h : Nat → Bool) (b : Nat → Nat) : Nat → Nat
  | 0 => 0
  | n + 1 => bsum h b n + if h n then b n else 0
def sE (σ σ' : gS) : Prop := σ'.1 = σ.1 ∧ ∀ a j, a ≠ 18 → σ'.2 a j = σ.2 a j
/-- the class's rooms: q of them, the i-th is the room e i -/
def hasQ (σ : gS) (M : gM) (t q : Nat) (e : Nat → Nat) : Prop := M 12 10 = iN q ∧ ∀ i, i < q → M 19 i = iN (e i) ∧ σ.2 18 i = 200 + 10 * t + e i
theorem l_gr12 {σ : gS} {M0 : gM} {P T C t : Nat} {R F : Nat → Nat} (hL : Lay σ P T R) (hT : vT M0 T C R F) (ht : t < T) : ∀ k i f σ' M, i + k = R t → k < f → sE σ σ' → g_layC σ' → (∀ a j, ¬ (a = 12 ∧ (j = 10 ∨ j = 11)) → a ≠ 19 → M a j = M0 a j) → M 12 10 = iN (cf (heldF M0 t) i) → M 12 11 = iN (bsum (heldF M0 t) (bF M0 t) i) → (∀ r, r < i → heldF M0 t r = true → M 19 (cf (heldF M0 t) r) = iN r ∧ σ'.2 18 (cf (heldF M0 t) r) = 200 + 10 * t + r) → bsum (heldF M0 t) (bF M0 t) i ≤ 2 * i → ∃ σ'' M', l_X9_gatherRooms_12 f (110 + t) (iN i) σ' M = some (σ'', M') ∧ sE σ σ'' ∧ g_layC σ'' ∧ (∀ a j, ¬ (a = 12 ∧ (j = 10 ∨ j = 11)) → a ≠ 19 → M' a j = M0 a j) ∧ M' 12 10 = iN (cf (heldF M0 t) (R t)) ∧ M' 12 11 = iN (bsum (heldF M0 t) (bF M0 t) (R t)) ∧ (∀ r, r < R t → heldF M0 t r = true → M' 19 (cf (heldF M0 t) r) = iN r ∧ σ''.2 18 (cf (heldF M0 t) r) = 200 + 10 * t + r) := by
  have hT6 := hT.1
  have hR := (hL.2.2.2.1.1 t (by omega)).1
  obtain ⟨y1, y2⟩ := hL.2.2.1.1 t ht
  have v1 := hT.2.2.2.2.2.2.2.2.2.1 t ht
  have v3 := hT.2.2.2.2.2.2.2.2.2.2.2.1 t (by omega)
  intro k
  induction k with
  | zero =>
    intro i f σ' M hi hf hs hl fr h10 h11 hd hb
    obtain ⟨f, rfl⟩ : ∃ m, f = m + 1 := ⟨f - 1, by omega⟩
    obtain rfl : i = R t := by omega
    refine ⟨σ', M, ?_, hs, hl, fr, h10, h11, hd⟩
    rw [l_X9_gatherRooms_12, if_pos (show g_is σ' (110 + t) 10 = true by rw [is_of (show σ'.1 (110 + t) = _ by rw [hs.1]; exact y1.2.1)]; trivial), fr (110 + t) 6 (by omega) (by omega), v1.2.2.2.1, v3.1, if_neg (by rw [iN_lt (by omega) (by omega)]; omega)]
  | succ k ih =>
    intro i f σ' M hi hf hs hl fr h10 h11 hd hb
    obtain ⟨f, rfl⟩ : ∃ m, f = m + 1 := ⟨f - 1, by omega⟩
    have hc := cf_le (heldF M0 t) i
    obtain ⟨lr1, lr2⟩ := hL.2.2.2.1.2.1 t i (by omega) (by omega)
    obtain ⟨b1, b2, b3, b4, b5, b6⟩ := bF_of hT (by omega) (show i < R t by omega)
    have w1 := hT.2.2.2.2.2.2.2.2.2.2.2.2.1 t i (by omega) (by omega)
    have s3 : σ'.2 (110 + t) 3 = 120 + t := by rw [hs.2 _ _ (by omega)]; exact y1.2.2.1
    have s18 : σ'.1 (120 + t) = some (18, 10) := by rw [hs.1]; exact y1.2.2.2.2.2.1
    have s120 : σ'.2 (120 + t) i = 200 + 10 * t + i := by rw [hs.2 _ _ (by omega)]; exact lr2
    have gi : g_in (iN i) 10 = true := by rw [iN_in (by omega)]; omega
    have s8 : σ'.1 (200 + 10 * t + i) = some (8, 0) := by rw [hs.1]; exact lr1
    rw [l_X9_gatherRooms_12, if_pos (show g_is σ' (110 + t) 10 = true by rw [is_of (show σ'.1 (110 + t) = _ by rw [hs.1]; exact y1.2.1)]; trivial), fr (110 + t) 6 (by omega) (by omega), v1.2.2.2.1, v3.1, if_pos (by rw [iN_lt (by omega) (by omega)]; omega), s3, if_pos (show g_is σ' (120 + t) 18 = true by rw [is_of s18]; trivial), ln_of s18, if_pos gi, iN_cl (by omega), s120, if_pos (show g_is σ' (200 + 10 * t + i) 8 = true by rw [is_of s8]; trivial), fr (200 + 10 * t + i) 3 (by omega) (by omega), w1.2.2.2]
    have eB : bsum (heldF M0 t) (bF M0 t) (i + 1) = bsum (heldF M0 t) (bF M0 t) i + if heldF M0 t i then bF M0 t i else 0 := rfl
    cases e : heldF M0 t i with
    | false =>
      have e0 : M0 56 (10 * t + i) = 0 := by
        unfold heldF at e
        rw [Bool.not_eq_false'] at e
        exact of_decide_eq_true e
      rw [if_pos e0]
      unfold b_X9_gatherRooms_88
      rw [eS]
      rw [e, if_neg (by decide), Nat.add_zero] at eB
      exact ih (i + 1) f σ' M (by omega) (by omega) hs hl fr (by rw [cf_f e]; exact h10) (by rw [eB]; exact h11) (fun r hr hrt => by
        by_cases c : r = i
        · rw [c, e] at hrt; cases hrt
        · exact hd r (by omega) hrt) (by rw [eB]; omega)
    | true =>
      have e0 : ¬ M0 56 (10 * t + i) = 0 := by
        unfold heldF at e
        rw [Bool.not_eq_true'] at e
        exact of_decide_eq_false e
      rw [e, if_pos rfl] at eB
      have ci : cf (heldF M0 t) (i + 1) = cf (heldF M0 t) i + 1 := cf_t e
      generalize hcg : cf (heldF M0 t) i = c at *
      have gc : g_in (iN c) 10 = true := by rw [iN_in (by omega)]; omega
      have hl2 : g_layC (g_pS σ' 18 c (200 + 10 * t + i)) := layC_pS hl (by omega)
      rw [if_neg e0, if_pos gi, h10, if_pos gc, iN_cl (by omega), if_pos (by rw [layCB_of hl2]; trivial), if_pos gc, g_up_ne (a := 19) (b := 12) _ _ (by omega), h10, if_pos gc, iN_cl (by omega), pS2_eq ⟨rfl, rfl⟩, if_pos (show g_is (g_pS σ' 18 c (200 + 10 * t + i)) (200 + 10 * t + i) 8 = true by rw [is_of (show (g_pS σ' 18 c (200 + 10 * t + i)).1 (200 + 10 * t + i) = some (8, 0) from s8)]; trivial)]
      unfold b_X9_gatherRooms_78 b_X9_gatherRooms_88
      rw [eS, g_up_ne (a := 19) (b := 12) (j := 11) _ _ (by omega), h11, g_up_ne (a := 19) (b := 200 + 10 * t + i) _ _ (by omega), fr (200 + 10 * t + i) 0 (by omega) (by omega), w1.1, b1, iN_add, g_up_ne (a := 12) (b := 12) (k := 11) (j := 10) _ _ (by omega), g_up_ne (a := 19) (b := 12) _ _ (by omega), h10, eS]
      refine ih (i + 1) f _ _ (by omega) (by omega) ⟨hs.1, fun a j h => by rw [pS2_ne (by omega)]; exact hs.2 a j h⟩ hl2 (fun a j h1 h2 => by rw [g_up_ne _ _ (by omega), g_up_ne _ _ (by omega), g_up_ne _ _ (by omega), fr a j h1 h2]) (by rw [g_up_eq _ _ ⟨rfl, rfl⟩, ci]) (by rw [g_up_ne _ _ (by omega), g_up_eq _ _ ⟨rfl, rfl⟩, eB]) (fun r hr hrt => ?_) (by rw [eB]; omega)
      by_cases cr : r = i
      · rw [cr, hcg]
        exact ⟨by rw [g_up_ne _ _ (by omega), g_up_ne _ _ (by omega), g_up_eq _ _ ⟨rfl, rfl⟩], pS2_eq ⟨rfl, rfl⟩⟩
      · obtain ⟨z1, z2⟩ := hd r (by omega) hrt
        have hlt := cf_lt_of (f := heldF M0 t) (show r < i by omega) hrt
        exact ⟨by rw [g_up_ne _ _ (by omega), g_up_ne _ _ (by omega), g_up_ne _ _ (by omega)]; exact z1, by rw [pS2_ne (by omega)]; exact z2⟩
theorem rooms_c {σ : gS} {M0 : gM} {P T C t : Nat} {R F : Nat → Nat} {e : Nat → Nat} (hL : Lay σ P T R) (hT : vT M0 T C R F) (ht : t < T) (he : nth (heldF M0 t) (R t) e) : ∃ σ' M, f_X9_gatherRooms (110 + t) σ M0 = some (σ', M) ∧ sE σ σ' ∧ g_layC σ' ∧ (∀ a j, ¬ (a = 12 ∧ (j = 10 ∨ j = 11)) → a ≠ 19 → M a j = M0 a j) ∧ hasQ σ' M t (cf (heldF M0 t) (R t)) e ∧ M 12 11 = iN (bsum (heldF M0 t) (bF M0 t) (R t)) := by
  obtain ⟨σ', M, q1, q2, q3, q4, q5, q6, q7⟩ := l_gr12 hL hT ht (R t) 0 g_FU σ (g_up (g_up M0 12 10 0) 12 11 0) (by omega) (by unfold g_FU; have := (hL.2.2.2.1.1 t (by have := hT.1; omega)).1; omega) ⟨rfl, fun _ _ _ => rfl⟩ hL.1.1 (fun a j h1 h2 => by rw [g_up_ne _ _ (by omega), g_up_ne _ _ (by omega)]) (by rw [g_up_ne _ _ (by omega), g_up_eq _ _ ⟨rfl, rfl⟩]; rfl) (g_up_eq _ _ ⟨rfl, rfl⟩) (fun r hr => by omega) (Nat.le_refl _)
  refine ⟨σ', M, ?_, q2, q3, q4, ⟨q5, fun i hi => ?_⟩, q6⟩
  · unfold f_X9_gatherRooms b_X9_gatherRooms_0
    exact q1
  · have h := he i hi
    have := q7 (e i) h.1 h.2.1
    rw [h.2.2] at this
    exact this
