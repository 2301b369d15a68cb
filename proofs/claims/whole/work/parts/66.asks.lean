/-! asksFor: a fact that isn't asked for changes no worth. -/
theorem runI_congr {fa fb : Nat → Int32} {f : Nat} (hf : ∀ j, j ≠ f → fa j = fb j) (h5 : f < 5) : ∀ (cs s : List Int32), (∀ c ∈ cs, c ≠ -1 - iN f) → runI fa cs s = runI fb cs s := by
  intro cs
  induction cs with
  | nil => intro s _; rfl
  | cons c cs ih =>
    intro s h
    have e : stepI fa c s = stepI fb c s := by
      unfold stepI
      by_cases h1 : c < -5
      · rw [if_pos h1, if_pos h1]
      · rw [if_neg h1, if_neg h1]
        by_cases h2 : c < 0
        · rw [if_pos h2, if_pos h2, hf]
          have h3 := h c List.mem_cons_self
          rcases fact_c h1 h2 with q | q | q | q | q <;> subst q
          · rw [show (-1 - (-1 : Int32)).toNatClampNeg = 0 from rfl]; rintro rfl; exact h3 rfl
          · rw [show (-1 - (-2 : Int32)).toNatClampNeg = 1 from rfl]; rintro rfl; exact h3 rfl
          · rw [show (-1 - (-3 : Int32)).toNatClampNeg = 2 from rfl]; rintro rfl; exact h3 rfl
          · rw [show (-1 - (-4 : Int32)).toNatClampNeg = 3 from rfl]; rintro rfl; exact h3 rfl
          · rw [show (-1 - (-5 : Int32)).toNatClampNeg = 4 from rfl]; rintro rfl; exact h3 rfl
        · rw [if_neg h2, if_neg h2]
    rw [runI, runI, e]
    exact ih _ (fun x hx => h x (List.mem_cons_of_mem _ hx))
theorem getD_at {l : List Int32} {j : Nat} (h : j < l.length) : l.getD j 0 = l[j] := by simp [List.getD, h]
/-- no rule of the kind asks for the fact -/
def noAsk (kind f : Nat) (rs : List gRule) : Prop := ∀ r ∈ rs, r.1 = kind → (∀ c ∈ r.2.1, c ≠ -1 - iN f) ∧ ∀ c ∈ r.2.2, c ≠ -1 - iN f
theorem worthI_congr {fa fb : Nat → Int32} {f kind : Nat} (hf : ∀ j, j ≠ f → fa j = fb j) (h5 : f < 5) : ∀ rs, noAsk kind f rs → worthI fa kind rs = worthI fb kind rs := by
  intro rs
  induction rs with
  | nil => intro _; rfl
  | cons r rs ih =>
    intro h
    unfold worthI
    rw [ih (fun x hx => h x (List.mem_cons_of_mem _ hx))]
    by_cases k : r.1 = kind
    · obtain ⟨h1, h2⟩ := h r List.mem_cons_self k
      have e1 : valI fa r.2.1 = valI fb r.2.1 := by unfold valI; rw [runI_congr hf h5 _ _ h1]
      have e2 : valI fa r.2.2 = valI fb r.2.2 := by unfold valI; rw [runI_congr hf h5 _ _ h2]
      rw [e1, e2]
    · rw [if_neg (fun q => k q.1), if_neg (fun q => k q.1)]
def ctS (σ : gS) (T t : Nat) (rs : List gRule) : Prop := lyT σ T ∧ lyD σ T ∧ T ≤ 6 ∧ t < T ∧ rs.length ≤ 12 ∧ (∀ r ∈ rs, okRule r) ∧ lenR rs ≤ g_ln σ (σ.2 (140 + t) 4)
def ctR (σ : gS) (M : gM) (t : Nat) (rs : List gRule) : Prop := M (140 + t) 5 = iN rs.length ∧ hasR (M (150 + t)) (M (160 + t)) (M (σ.2 (140 + t) 4)) 0 0 rs
theorem ctR.keep {σ : gS} {M M' : gM} {T t : Nat} {rs : List gRule} (h : ctR σ M t rs) (hs : ctS σ T t rs) (k : ∀ a j, (140 ≤ a ∧ a < 170) ∨ (190 ≤ a ∧ a < 200) ∨ 100000 ≤ a → M' a j = M a j) : ctR σ M' t rs := by
  obtain ⟨s1, s2, s3, s4, _⟩ := hs
  have hd := s2.at s4
  refine ⟨by rw [k _ _ (by omega)]; exact h.1, ?_⟩
  exact hasR.keep rs 0 0 (fun j _ => k _ _ (by omega)) (fun j _ => k _ _ (by omega)) (fun j _ => k _ _ (by omega)) h.2
theorem l_asks40 {σ : gS} {t cd len : Nat} (hc : cnL σ t cd len) {M : gM} {kind f i e : Nat} {k2 : Nat → Int32 → Int32 → Int32 → gS → gM → Option Int32} (hi : i < 12) (hk : M (150 + t) i = iN kind) (he : e ≤ len) : ∀ k p n, p + k = e → k < n → (l_X2_asksFor_40 k2 n (140 + t) (iN kind) (iN f) (iN i) (iN e) (iN p) σ M = some 1) ∨ (l_X2_asksFor_40 k2 n (140 + t) (iN kind) (iN f) (iN i) (iN e) (iN p) σ M = k2 (140 + t) (iN kind) (iN f) (iN (i + 1)) σ M ∧ ∀ q, p ≤ q → q < e → M cd q ≠ -1 - iN f) := by
  obtain ⟨⟨c0, c1, c2, c3, c4, c5, c6, c7, c8⟩, d1, d2, d3, d4, d5⟩ := hc
  have gi : g_in (iN i) 12 = true := by rw [iN_in (by omega)]; omega
  intro k
  induction k with
  | zero =>
    intro p n hp hn
    obtain ⟨n, rfl⟩ : ∃ m, n = m + 1 := ⟨n - 1, by omega⟩
    refine Or.inr ⟨?_, fun q h1 h2 => by omega⟩
    rw [l_X2_asksFor_40, if_pos (by rw [is_of c0]; trivial), c1, if_pos (by rw [is_of c5]; trivial), ln_of c5, if_pos gi, iN_cl (by omega), hk, if_pos rfl, if_neg (by rw [iN_lt (by omega) (by omega)]; omega)]
    unfold b_X2_asksFor_78
    rw [eS]
  | succ k ih =>
    intro p n hp hn
    obtain ⟨n, rfl⟩ : ∃ m, n = m + 1 := ⟨n - 1, by omega⟩
    have gp : g_in (iN p) len = true := by rw [iN_in (by omega)]; omega
    rw [l_X2_asksFor_40, if_pos (by rw [is_of c0]; trivial), c1, if_pos (by rw [is_of c5]; trivial), ln_of c5, if_pos gi, iN_cl (by omega), hk, if_pos rfl, if_pos (by rw [iN_lt (by omega) (by omega)]; omega), d1, if_pos (by rw [is_of d2]; trivial), ln_of d2, if_pos gp, iN_cl (by omega), eS]
    by_cases c : M cd p = -1 - iN f
    · exact Or.inl (if_pos c)
    · rw [if_neg c]
      rcases ih (p + 1) n (by omega) (by omega) with h | ⟨h, h2⟩
      · exact Or.inl h
      · refine Or.inr ⟨h, fun q h3 h4 => ?_⟩
        by_cases c3 : q = p
        · subst c3; exact c
        · exact h2 q (by omega) h4
theorem l_asks2 {σ : gS} {t cd len : Nat} (hc : cnL σ t cd len) {M : gM} {kind f : Nat} (hk3 : kind ≤ 3) : ∀ (rs : List gRule) (i a n : Nat), rs.length < n → M (140 + t) 5 = iN (i + rs.length) → i + rs.length ≤ 12 → a + lenR rs ≤ len → (∀ r ∈ rs, okRule r) → hasR (M (150 + t)) (M (160 + t)) (M cd) i a rs → l_X2_asksFor_2 n (140 + t) (iN kind) (iN f) (iN i) σ M = some 1 ∨ (l_X2_asksFor_2 n (140 + t) (iN kind) (iN f) (iN i) σ M = some 0 ∧ noAsk kind f rs) := by
  have hc0 := hc
  obtain ⟨⟨c0, c1, c2, c3, c4, c5, c6, c7, c8⟩, d1, d2, d3, d4, d5⟩ := hc
  intro rs
  induction rs with
  | nil =>
    intro i a n hn h5 hi ha hok hr
    obtain ⟨n, rfl⟩ : ∃ m, n = m + 1 := ⟨n - 1, by simp at hn; omega⟩
    simp only [List.length_nil, Nat.add_zero] at h5 hi
    refine Or.inr ⟨?_, fun r hr => absurd hr (List.not_mem_nil)⟩
    rw [l_X2_asksFor_2, if_pos (by rw [is_of c0]; trivial), h5, if_neg (by rw [iN_lt (by omega) (by omega)]; omega)]
  | cons r rs ih =>
    intro i a n hn h5 hi ha hok hr
    obtain ⟨n, rfl⟩ : ∃ m, n = m + 1 := ⟨n - 1, by simp at hn; omega⟩
    simp only [List.length_cons, lenR] at hn h5 hi ha
    obtain ⟨r1, r2, r3, r4, r5, r6, r7⟩ := hr
    have o1 := (hok r List.mem_cons_self).1
    have m0 : iN i * (3 : Int32) = iN (3 * i) := by rw [show (3 : Int32) = iN 3 from rfl, iN_mul, Nat.mul_comm]
    have m2 : iN (3 * i) + (2 : Int32) = iN (3 * i + 2) := by rw [show (2 : Int32) = iN 2 from rfl, iN_add]
    have nx := ih (i + 1) (a + r.2.1.length + r.2.2.length) n (by omega) (by rw [h5]; congr 1; omega) (by omega) (by omega) (fun x hx => hok x (List.mem_cons_of_mem _ hx)) r7
    have g2 : g_in (iN (3 * i + 2)) 36 = true := by rw [iN_in (by omega)]; omega
    have g0 : g_in (iN (3 * i)) 36 = true := by rw [iN_in (by omega)]; omega
    have mn : (if Int32.ofNat len < iN (a + r.2.1.length + r.2.2.length) then Int32.ofNat len else iN (a + r.2.1.length + r.2.2.length)) = iN (a + r.2.1.length + r.2.2.length) := if_neg (by rw [show Int32.ofNat len = iN len from rfl, iN_lt (by omega) (by omega)]; omega)
    rw [l_X2_asksFor_2, if_pos (by rw [is_of c0]; trivial), h5, if_pos (by rw [iN_lt (by omega) (by omega)]; omega), c2, if_pos (by rw [is_of c6]; trivial), ln_of c6, m0, m2, if_pos g2, d1, if_pos (by rw [is_of d2]; trivial), if_pos g0, ln_of d2, iN_cl (by omega), iN_cl (by omega), r2, r4, mn]
    by_cases k : r.1 = kind
    · rcases l_asks40 (M := M) (kind := kind) (f := f) (e := a + r.2.1.length + r.2.2.length) (k2 := fun r0 x1 x2 x3 σ M => l_X2_asksFor_2 n r0 x1 x2 x3 σ M) hc0 (show i < 12 by omega) (by rw [r1, k]) (by omega) (r.2.1.length + r.2.2.length) a g_FU (by omega) (by unfold g_FU; omega) with h | ⟨h, h2⟩
      · exact Or.inl h
      · rw [h]
        rcases nx with q | ⟨q, q2⟩
        · exact Or.inl q
        · refine Or.inr ⟨q, fun x hx hx2 => ?_⟩
          rcases List.mem_cons.mp hx with e | e
          · subst e
            refine ⟨fun c hc => ?_, fun c hc => ?_⟩
            · obtain ⟨j, hj, rfl⟩ := List.mem_iff_getElem.mp hc
              have := h2 (a + j) (by omega) (by omega)
              rw [r5 j hj, getD_at hj] at this
              exact this
            · obtain ⟨j, hj, rfl⟩ := List.mem_iff_getElem.mp hc
              have := h2 (a + x.2.1.length + j) (by omega) (by omega)
              rw [r6 j hj, getD_at hj] at this
              exact this
          · exact q2 x e hx2
    · have gi : g_in (iN i) 12 = true := by rw [iN_in (by omega)]; omega
      have e : l_X2_asksFor_40 (fun r0 x1 x2 x3 σ M => l_X2_asksFor_2 n r0 x1 x2 x3 σ M) g_FU (140 + t) (iN kind) (iN f) (iN i) (iN (a + r.2.1.length + r.2.2.length)) (iN a) σ M = l_X2_asksFor_2 n (140 + t) (iN kind) (iN f) (iN (i + 1)) σ M := by
        rw [show g_FU = (g_FU - 1) + 1 from rfl, l_X2_asksFor_40, if_pos (by rw [is_of c0]; trivial), c1, if_pos (by rw [is_of c5]; trivial), ln_of c5, if_pos gi, iN_cl (by omega), r1, if_neg (by rw [iN_inj (by omega) (by omega)]; exact k)]
        unfold b_X2_asksFor_78
        rw [eS]
      rw [e]
      rcases nx with q | ⟨q, q2⟩
      · exact Or.inl q
      · refine Or.inr ⟨q, fun x hx hx2 => ?_⟩
        rcases List.mem_cons.mp hx with e | e
        · subst e; exact absurd hx2 k
        · exact q2 x e hx2
theorem asks_c {σ : gS} {M : gM} {T t kind f : Nat} {rs : List gRule} (hs : ctS σ T t rs) (hr : ctR σ M t rs) (hk : kind ≤ 3) : f_X2_asksFor (140 + t) (iN kind) (iN f) σ M = some 1 ∨ (f_X2_asksFor (140 + t) (iN kind) (iN f) σ M = some 0 ∧ noAsk kind f rs) := by
  obtain ⟨s1, s2, s3, s4, s5, s6, s7⟩ := hs
  obtain ⟨a, n, g1, g2, g3, g4, g5⟩ := s2.1 t s4
  have h5 := hr.2
  rw [g1] at h5 s7
  rw [ln_of g2] at s7
  exact l_asks2 (cd := a) (len := n) ⟨(s1.1 t s4).2, g1, g2, g3, by omega, by omega⟩ hk rs 0 0 g_FU (by unfold g_FU; omega) (by rw [Nat.zero_add]; exact hr.1) (by omega) (by omega) s6 h5
