/-! settle, most: the class's table. -/
def mvP (M : gM) (t r p : Nat) : Nat := if M 57 (10 * t + p) = iM then 0 else if M 57 (10 * t + p) = iN r then 0 else 1
def mvX (M : gM) (t r p q : Nat) : Nat := mvP M t r p + if p = q then 0 else mvP M t r q
theorem mvP_le (M : gM) (t r p : Nat) : mvP M t r p ≤ 1 := by unfold mvP; split; omega; split <;> omega
theorem mvX_le (M : gM) (t r p q : Nat) : mvX M t r p q ≤ 2 := by
  have h1 := mvP_le M t r p
  have h2 := mvP_le M t r q
  unfold mvX
  split <;> omega
def condP (M : gM) (t r p q : Nat) : Prop := (¬ M 54 (10 * t + r) = iN 0 ∨ (M 43 p = iN 0 ∧ M 43 q = iN 0)) ∧ (p = q ∨ (2 ≤ bF M t r ∧ shareB M p q = true))
def encC (aim c mv : Nat) : Nat := if aim = 0 then 16 * c + mv else if aim = 1 then 16384 * mv + c else 0
def hasW (σ : gS) (M M0 : gM) (t m q : Nat) (g e : Nat → Nat) (aim : Nat) : Prop := hasG M M0 t m g ∧ hasQ σ M t q e ∧ M 12 12 = iN aim ∧ aim ≤ 2 ∧ m ≤ 10 ∧ q ≤ 10 ∧ (∀ i j, i < j → j < m → g i < g j) ∧ (∀ j, j < m → g j < 10) ∧ ∀ i, i < q → e i < 10 ∧ σ.1 (200 + 10 * t + e i) = some (8, 0) ∧ M (200 + 10 * t + e i) 0 = iN (bF M0 t (e i)) ∧ bF M0 t (e i) ≤ 2 ∧ M (200 + 10 * t + e i) 1 = M0 54 (10 * t + e i) ∧ M (200 + 10 * t + e i) 2 = iN (prF M0 t (e i)) ∧ prF M0 t (e i) ≤ 1000
theorem hasW.keep {σ : gS} {M M' M0 : gM} {t m q aim : Nat} {g e : Nat → Nat} (h : hasW σ M M0 t m q g e aim) (ht : t < 6) {ta : Nat} (hta : ta = 36 ∨ 10000 ≤ ta) (k : ∀ a j, a ≠ ta → M' a j = M a j) : hasW σ M' M0 t m q g e aim := by
  obtain ⟨h1, h2, h3, h4, h5, h6, h7, h8, h9⟩ := h
  refine ⟨h1.keep (fun a j h => k a j (by omega)), ⟨by rw [k _ _ (by omega)]; exact h2.1, fun i hi => by rw [k _ _ (by omega)]; exact h2.2 i hi⟩, by rw [k _ _ (by omega)]; exact h3, h4, h5, h6, h7, h8, fun i hi => ?_⟩
  have := h9 i hi
  rw [k _ _ (by omega), k _ _ (by omega), k _ _ (by omega)]
  exact this
theorem moves_c {σ : gS} {M M0 : gM} {t m q aim i a : Nat} {g e : Nat → Nat} (h : hasW σ M M0 t m q g e aim) (hi : i < q) (ha : a < m) : f_X9_movesOf (iN i) (iN a) σ M = some (iN (mvP M0 t (e i) (g a))) := by
  obtain ⟨h1, h2, h3, h4, h5, h6, h7, h8, h9⟩ := h
  have gi : g_in (iN i) 10 = true := by rw [iN_in (by omega)]; omega
  have ga : g_in (iN a) 10 = true := by rw [iN_in (by omega)]; omega
  unfold f_X9_movesOf b_X9_movesOf_0 mvP
  rw [if_pos ga, iN_cl (by omega), (h1.2 a ha).2.1, if_pos ga, if_pos gi, iN_cl (by omega), (h2.2 i hi).1]
  by_cases c : M0 57 (10 * t + g a) = iM
  · rw [if_pos c, if_pos (show M0 57 (10 * t + g a) = -1 from c)]; rfl
  · rw [if_neg c, if_neg (show ¬ M0 57 (10 * t + g a) = -1 from c)]
    by_cases c2 : M0 57 (10 * t + g a) = iN (e i)
    · rw [if_pos c2, if_pos c2]; rfl
    · rw [if_neg c2, if_neg c2]; rfl
theorem weight91 {σ : gS} {M M0 : gM} {t m q aim i mv : Nat} {g e : Nat → Nat} (h : hasW σ M M0 t m q g e aim) (hi : i < q) (hmv : mv ≤ 2) : b_X9_weightOf_91 (200 + 10 * t + e i) (iN mv) σ M = some (iN (encC aim (prF M0 t (e i)) mv)) := by
  obtain ⟨h1, h2, h3, h4, h5, h6, h7, h8, h9⟩ := h
  obtain ⟨k1, k2, k3, k4, k5, k6, k7⟩ := h9 i hi
  have is8 : g_is σ (200 + 10 * t + e i) 8 = true := by rw [is_of k2]; trivial
  unfold b_X9_weightOf_91 encC
  rw [h3, if_pos is8, if_pos is8, k6]
  rcases (show aim = 0 ∨ aim = 1 ∨ aim = 2 by omega) with c | c | c
  · subst c
    rw [if_pos (show iN 0 = (0 : Int32) from rfl), if_pos rfl, show (4 : Int32) = iN 4 from rfl, iN_shl (by omega), iN_or, or_add (n := 4) (by omega), Nat.mul_comm]
  · subst c
    rw [if_neg (by decide), if_pos (show iN 1 = (1 : Int32) from rfl), if_neg (by omega), if_pos rfl, show (14 : Int32) = iN 14 from rfl, iN_shl (by omega), iN_or, or_add (n := 14) (by omega), Nat.mul_comm]
  · subst c
    rw [if_neg (by decide), if_neg (by decide), if_neg (by omega), if_neg (by omega)]; rfl
theorem weight_c {σ : gS} {M M0 : gM} {t m q aim i a b : Nat} {g e : Nat → Nat} (h : hasW σ M M0 t m q g e aim) (hi : i < q) (ha : a < m) (hb : b ≤ a) : f_X9_weightOf (iN i) (iN a) (iN b) σ M = some (if bP (condP M0 t (e i) (g a) (g b)) = true then iN (encC aim (prF M0 t (e i)) (mvX M0 t (e i) (g a) (g b))) else iN 268435456) := by
  have h0 := h
  obtain ⟨h1, h2, h3, h4, h5, h6, h7, h8, h9⟩ := h
  obtain ⟨k1, k2, k3, k4, k5, k6, k7⟩ := h9 i hi
  have gi : g_in (iN i) 10 = true := by rw [iN_in (by omega)]; omega
  have ga : g_in (iN a) 10 = true := by rw [iN_in (by omega)]; omega
  have gb : g_in (iN b) 10 = true := by rw [iN_in (by omega)]; omega
  have is8 : g_is σ (200 + 10 * t + e i) 8 = true := by rw [is_of k2]; trivial
  have gab : (g a = g b) ↔ a = b := ⟨fun q => by
    by_cases c : b = a
    · exact c.symm
    · have := h7 b a (by omega) ha; omega, fun q => by rw [q]⟩
  have e67 : b_X9_weightOf_67 (iN i) (iN a) (iN b) (200 + 10 * t + e i) σ M = some (iN (encC aim (prF M0 t (e i)) (mvX M0 t (e i) (g a) (g b)))) := by
    have m1 := mvP_le M0 t (e i) (g a)
    have m2 := mvP_le M0 t (e i) (g b)
    unfold b_X9_weightOf_67 mvX
    rw [moves_c h0 hi ha, oB]
    by_cases c : a = b
    · rw [if_pos (by rw [c]), if_pos (gab.mpr c), Nat.add_zero, weight91 h0 hi (by omega)]
    · rw [if_neg (by rw [iN_inj (by omega) (by omega)]; exact c), if_neg (fun q => c (gab.mp q)), moves_c h0 hi (show b < m by omega), oB, iN_add, weight91 h0 hi (by omega)]
  have e37 : b_X9_weightOf_37 (iN i) (iN a) (iN b) (200 + 10 * t + e i) σ M = some (if bP (g a = g b ∨ (2 ≤ bF M0 t (e i) ∧ shareB M0 (g a) (g b) = true)) = true then iN (encC aim (prF M0 t (e i)) (mvX M0 t (e i) (g a) (g b))) else iN 268435456) := by
    unfold b_X9_weightOf_37 b_X9_weightOf_64
    by_cases c : a = b
    · rw [if_pos (by rw [c]), e67, if_pos (bP_t (Or.inl (gab.mpr c)))]
    · rw [if_neg (by rw [iN_inj (by omega) (by omega)]; exact c), if_pos is8, k3, if_pos ga, iN_cl (by omega), (h1.2 a ha).2.2.2, iN_bit (Nat.lt_of_lt_of_le (setOf_lt _ a) (Nat.le_trans (Nat.pow_le_pow_right (by omega) (show a ≤ 10 by omega)) (by decide))) (by omega), setOf_bit, decide_eq_true (show b < a by omega), Bool.true_and]
      by_cases c2 : 2 ≤ bF M0 t (e i)
      · rw [if_neg (by rw [show (2 : Int32) = iN 2 from rfl, iN_lt (by omega) (by omega)]; omega)]
        cases sh : shareB M0 (g a) (g b) with
        | true => rw [if_neg (by decide), e67, if_pos (bP_t (Or.inr ⟨c2, rfl⟩))]
        | false => rw [if_pos (by decide), if_neg (by rw [bP_f (fun q => by rcases q with q | q; exact c (gab.mp q); exact absurd q.2 (by decide))]; decide)]; rfl
      · rw [if_pos (by rw [show (2 : Int32) = iN 2 from rfl, iN_lt (by omega) (by omega)]; omega), if_neg (by rw [bP_f (fun q => by rcases q with q | q; exact c (gab.mp q); exact c2 q.1)]; decide)]; rfl
  have fin : (¬ M0 54 (10 * t + e i) = iN 0 ∨ (M0 43 (g a) = iN 0 ∧ M0 43 (g b) = iN 0)) → b_X9_weightOf_37 (iN i) (iN a) (iN b) (200 + 10 * t + e i) σ M = some (if bP (condP M0 t (e i) (g a) (g b)) = true then iN (encC aim (prF M0 t (e i)) (mvX M0 t (e i) (g a) (g b))) else iN 268435456) := fun hl => by
    rw [e37, bP_iff (show (g a = g b ∨ (2 ≤ bF M0 t (e i) ∧ shareB M0 (g a) (g b) = true)) ↔ condP M0 t (e i) (g a) (g b) from ⟨fun q => ⟨hl, q⟩, fun q => q.2⟩)]
  have no : ¬ (¬ M0 54 (10 * t + e i) = iN 0 ∨ (M0 43 (g a) = iN 0 ∧ M0 43 (g b) = iN 0)) → b_X9_weightOf_34 σ M = some (if bP (condP M0 t (e i) (g a) (g b)) = true then iN (encC aim (prF M0 t (e i)) (mvX M0 t (e i) (g a) (g b))) else iN 268435456) := fun hl => by
    rw [if_neg (by rw [bP_f (fun q => hl q.1)]; decide)]; rfl
  unfold f_X9_weightOf b_X9_weightOf_0
  rw [if_pos gi, iN_cl (by omega), (h2.2 i hi).2, if_pos is8, k5, if_pos ga, iN_cl (by omega), (h1.2 a ha).2.2.1, if_pos gb, iN_cl (by omega), (h1.2 b (by omega)).2.2.1]
  by_cases c : M0 54 (10 * t + e i) = iN 0
  · rw [if_pos (show M0 54 (10 * t + e i) = 0 from c)]
    by_cases c2 : M0 43 (g a) = iN 0
    · rw [if_pos (show M0 43 (g a) = 0 from c2)]
      by_cases c3 : M0 43 (g b) = iN 0
      · rw [if_pos (show M0 43 (g b) = 0 from c3)]; exact fin (Or.inr ⟨c2, c3⟩)
      · rw [if_neg (show ¬ M0 43 (g b) = 0 from c3)]; exact no (fun q => by rcases q with q | q; exact q c; exact c3 q.2)
    · rw [if_neg (show ¬ M0 43 (g a) = 0 from c2)]; exact no (fun q => by rcases q with q | q; exact q c; exact c2 q.1)
  · rw [if_neg (show ¬ M0 54 (10 * t + e i) = 0 from c)]; exact fin (Or.inl c)
/-! the table's cells -/
def tabV (M : gM) (ta lo sz : Nat) (V : Nat → Nat) : Prop := ∀ j, lo ≤ j → j < sz → M ta j = iN (V j) ∧ V j ≤ 268435456
theorem l_use {σ : gS} {ta len lo sz w hr bh oth pc : Nat} (hta : σ.2 12 13 = ta) (hlen : σ.1 ta = some (14, len)) (hl : len < 100000) (hsz : sz ≤ len) (hw : w < 1000000) (ho : oth < 1024) (hpc : pc = pcK 10 oth) (hp10 : pc ≤ 10) (h1 : ∀ v, v < 2 ^ pc → (lo ≤ hr + dep 10 oth v ∧ hr + dep 10 oth v < sz) ∧ lo ≤ bh + dep 10 oth v ∧ bh + dep 10 oth v < sz) (h2 : ∀ v v', v < 2 ^ pc → v' < 2 ^ pc → hr + dep 10 oth v ≠ bh + dep 10 oth v') : ∀ v k f M V, v + k + 1 = 2 ^ pc → v + 1 < f → tabV M ta lo sz V → ∃ M' V', l_X9_useRoom_50 f (iN w) (iN hr) (iN bh) (iN oth) (iN (2 ^ pc)) (iN (dep 10 oth v)) (iN k) σ M = some M' ∧ tabV M' ta lo sz V' ∧ (∀ u, u ≤ v → V' (hr + dep 10 oth u) = min (V (hr + dep 10 oth u)) (w + V (bh + dep 10 oth u))) ∧ (∀ j, (∀ u, u ≤ v → j ≠ hr + dep 10 oth u) → V' j = V j) ∧ ∀ a j, a ≠ ta → M' a j = M a j := by
  have hpw : 2 ^ pc ≤ 2 ^ 10 := Nat.pow_le_pow_right (by omega) hp10
  have hpw2 : 2 ^ 10 = 1024 := rfl
  -- one step
  have one : ∀ v k f M V, v + k + 1 = 2 ^ pc → tabV M ta lo sz V → ∃ M1, (∀ j, M1 ta j = if j = hr + dep 10 oth v then iN (min (V (hr + dep 10 oth v)) (w + V (bh + dep 10 oth v))) else M ta j) ∧ (∀ a j, a ≠ ta → M1 a j = M a j) ∧ l_X9_useRoom_50 (f + 1) (iN w) (iN hr) (iN bh) (iN oth) (iN (2 ^ pc)) (iN (dep 10 oth v)) (iN k) σ M = l_X9_useRoom_50 f (iN w) (iN hr) (iN bh) (iN oth) (iN (2 ^ pc)) ((iN (dep 10 oth v) - 1) &&& iN oth) (iN (k + 1)) σ M1 := by
    intro v k f M V hk hV
    obtain ⟨⟨b0, b1⟩, b3, b2⟩ := h1 v (by omega)
    obtain ⟨c1, c2⟩ := hV _ b0 b1
    obtain ⟨d1, d2⟩ := hV _ b3 b2
    have i14 : g_is σ ta 14 = true := by rw [is_of hlen]; trivial
    have gh : g_in (iN (hr + dep 10 oth v)) len = true := by rw [iN_in (by omega)]; omega
    have gb : g_in (iN (bh + dep 10 oth v)) len = true := by rw [iN_in (by omega)]; omega
    have st : l_X9_useRoom_50 (f + 1) (iN w) (iN hr) (iN bh) (iN oth) (iN (2 ^ pc)) (iN (dep 10 oth v)) (iN k) σ M = if w + V (bh + dep 10 oth v) < V (hr + dep 10 oth v) then l_X9_useRoom_50 f (iN w) (iN hr) (iN bh) (iN oth) (iN (2 ^ pc)) ((iN (dep 10 oth v) - 1) &&& iN oth) (iN (k + 1)) σ (g_up M ta (hr + dep 10 oth v) (iN (w + V (bh + dep 10 oth v)))) else l_X9_useRoom_50 f (iN w) (iN hr) (iN bh) (iN oth) (iN (2 ^ pc)) ((iN (dep 10 oth v) - 1) &&& iN oth) (iN (k + 1)) σ M := by
      rw [l_X9_useRoom_50, if_pos (by rw [iN_lt (by omega) (by omega)]; omega), hta, if_pos i14, ln_of hlen, iN_add, if_pos gb, iN_add, if_pos gh, iN_cl (by omega), iN_cl (by omega), c1, d1, iN_add, if_pos gh]
      unfold b_X9_useRoom_98
      rw [eS]
      by_cases c : w + V (bh + dep 10 oth v) < V (hr + dep 10 oth v)
      · rw [if_pos c, if_pos (by rw [iN_lt (by omega) (by omega)]; exact c)]
      · rw [if_neg c, if_neg (by rw [iN_lt (by omega) (by omega)]; exact c)]
    by_cases c : w + V (bh + dep 10 oth v) < V (hr + dep 10 oth v)
    · refine ⟨g_up M ta (hr + dep 10 oth v) (iN (w + V (bh + dep 10 oth v))), fun j => ?_, fun a j h => g_up_ne _ _ (by omega), by rw [st, if_pos c]⟩
      by_cases e : j = hr + dep 10 oth v
      · rw [if_pos e, g_up_eq _ _ ⟨rfl, e⟩, Nat.min_eq_right (by omega)]
      · rw [if_neg e, g_up_ne _ _ (by omega)]
    · refine ⟨M, fun j => ?_, fun a j h => rfl, by rw [st, if_neg c]⟩
      by_cases e : j = hr + dep 10 oth v
      · rw [if_pos e, e, c1, Nat.min_eq_left (by omega)]
      · rw [if_neg e]
  have tab1 : ∀ {v M M1 V}, v < 2 ^ pc → tabV M ta lo sz V → (∀ j, M1 ta j = if j = hr + dep 10 oth v then iN (min (V (hr + dep 10 oth v)) (w + V (bh + dep 10 oth v))) else M ta j) → tabV M1 ta lo sz (fun j => if j = hr + dep 10 oth v then min (V (hr + dep 10 oth v)) (w + V (bh + dep 10 oth v)) else V j) := fun {v M M1 V} hv hV hM j hj0 hj => by
    show M1 ta j = iN (if j = hr + dep 10 oth v then min (V (hr + dep 10 oth v)) (w + V (bh + dep 10 oth v)) else V j) ∧ (if j = hr + dep 10 oth v then min (V (hr + dep 10 oth v)) (w + V (bh + dep 10 oth v)) else V j) ≤ 268435456
    rw [hM j]
    by_cases e : j = hr + dep 10 oth v
    · rw [if_pos e, if_pos e]
      have := (hV _ (h1 v hv).1.1 (h1 v hv).1.2).2
      exact ⟨rfl, by omega⟩
    · rw [if_neg e, if_neg e]; exact hV j hj0 hj
  intro v
  induction v with
  | zero =>
    intro k f M V hk hf hV
    obtain ⟨f, rfl⟩ : ∃ m, f = m + 2 := ⟨f - 2, by omega⟩
    obtain ⟨M1, q1, q2, q3⟩ := one 0 k (f + 1) M V hk hV
    refine ⟨M1, _, ?_, tab1 (by omega) hV q1, fun u hu => ?_, fun j hj => ?_, q2⟩
    · rw [q3, l_X9_useRoom_50, if_neg (by rw [iN_lt (by omega) (by omega)]; omega)]
    · obtain rfl : u = 0 := by omega
      exact if_pos rfl
    · exact if_neg (hj 0 (by omega))
  | succ v ih =>
    intro k f M V hk hf hV
    obtain ⟨f, rfl⟩ : ∃ m, f = m + 1 := ⟨f - 1, by omega⟩
    obtain ⟨M1, q1, q2, q3⟩ := one (v + 1) k f M V hk hV
    have dp := dep_pos 10 oth (v + 1) (by omega) (by rw [← hpc]; omega)
    have ds := dep_step 10 oth (v + 1) (by omega) (by rw [← hpc]; omega)
    obtain ⟨M', V', u1, u2, u3, u4, u5⟩ := ih (k + 1) f M1 _ (by omega) (by omega) (tab1 (by omega) hV q1)
    have beh : ∀ u, u < 2 ^ pc → (if bh + dep 10 oth u = hr + dep 10 oth (v + 1) then min (V (hr + dep 10 oth (v + 1))) (w + V (bh + dep 10 oth (v + 1))) else V (bh + dep 10 oth u)) = V (bh + dep 10 oth u) := fun u hu => if_neg (fun e => h2 (v + 1) u (by omega) hu e.symm)
    refine ⟨M', V', ?_, u2, fun u hu => ?_, fun j hj => ?_, fun a j h => by rw [u5 a j h, q2 a j h]⟩
    · rw [q3, show (1 : Int32) = iN 1 from rfl, iN_sub dp, iN_and, ds, Nat.add_sub_cancel]
      exact u1
    · by_cases c : ∃ x, x ≤ v ∧ hr + dep 10 oth u = hr + dep 10 oth x
      · obtain ⟨x, hx, ex⟩ := c
        have e := u3 x hx
        have ed : dep 10 oth u = dep 10 oth x := by omega
        rw [ed, e, beh x (by omega)]
        by_cases z : hr + dep 10 oth x = hr + dep 10 oth (v + 1)
        · have ez : dep 10 oth x = dep 10 oth (v + 1) := by omega
          rw [if_pos z, ez]; omega
        · rw [if_neg z]
      · have e := u4 (hr + dep 10 oth u) (fun x hx q => c ⟨x, hx, q⟩)
        have : u = v + 1 := by
          by_cases z : u ≤ v
          · exact absurd ⟨u, z, rfl⟩ c
          · omega
        rw [e, this, if_pos rfl]
    · rw [u4 j (fun u hu => hj u (by omega)), if_neg (hj (v + 1) (by omega))]
