/-! read: a whole text; what the model tells by it; what the class keeps of it. -/
def mGO (A : gM) (x : Int32) (o : Option (gM × gN)) : tRes → Prop
  | .inl f => ∃ A' N', o = some (A', N') ∧ A' 40 51 = iN f.1 ∧ A' 40 52 = iN f.2 ∧ ∀ a j, ¬ (a = 40 ∧ 47 ≤ j ∧ j ≤ 52) → ¬ (a = 40 ∧ 58 ≤ j ∧ j ≤ 59) → A' a j = A a j
  | .inr rs => ∃ A' N', o = some (A', N') ∧ A' 40 51 = iN 0 ∧ A' 40 58 = iN rs.length ∧ (∀ kind, kind ≤ 3 → x = iN kind → A' 40 59 = foundI (facts A) kind rs) ∧ ∀ a j, ¬ (a = 40 ∧ 47 ≤ j ∧ j ≤ 52) → ¬ (a = 40 ∧ 58 ≤ j ∧ j ≤ 59) → A' a j = A a j
theorem simText {b : Nat → Nat} {n : Nat} (hn : n ≤ 400) : ∃ res, okTT n 0 0 res ∧ (∀ σ M, tapeC M b n → cTT M 0 0 (f_X7_readText σ M) res) ∧ ∀ x σ A N, textM A b n → mGO A x (f_X12_goes x σ A N) res := by
  obtain ⟨res, o1, c1, m1⟩ := textL (b := b) hn n 0 0 (by omega) (by omega) (by omega)
  refine ⟨res, o1, fun σ M ht => ?_, fun x σ A N ht => ?_⟩
  · obtain ⟨S, s1, s2, s3⟩ := split_c (σ := σ) ht
    let B : gM := g_up (g_up (g_up (g_up (g_up S 7 6 0) 7 10 0) 7 7 0) 7 8 0) 7 13 0
    have fS : ∀ a j, ¬ (a = 7 ∧ 6 ≤ j ∧ j ≤ 13 ∧ j ≠ 9) → B a j = S a j := fun a j h => by
      show g_up (g_up (g_up (g_up (g_up S 7 6 0) 7 10 0) 7 7 0) 7 8 0) 7 13 0 a j = _
      rw [g_up_ne _ _ (by omega), g_up_ne _ _ (by omega), g_up_ne _ _ (by omega), g_up_ne _ _ (by omega), g_up_ne _ _ (by omega)]
    have fB : ∀ a j, ¬ (a = 7 ∧ 6 ≤ j ∧ j ≤ 13 ∨ a = 37 ∨ a = 38) → B a j = M a j := fun a j h => by rw [fS a j (by omega), s3 a j (by omega) (by omega) (by omega)]
    have b10 : B 7 10 = iN 0 := by show g_up (g_up (g_up (g_up (g_up S 7 6 0) 7 10 0) 7 7 0) 7 8 0) 7 13 0 7 10 = _; rw [g_up_ne _ _ (by omega), g_up_ne _ _ (by omega), g_up_ne _ _ (by omega), g_up_eq _ _ ⟨rfl, rfl⟩]; rfl
    have b7 : B 7 7 = iN 0 := by show g_up (g_up (g_up (g_up (g_up S 7 6 0) 7 10 0) 7 7 0) 7 8 0) 7 13 0 7 7 = _; rw [g_up_ne _ _ (by omega), g_up_ne _ _ (by omega), g_up_eq _ _ ⟨rfl, rfl⟩]; rfl
    have b8 : B 7 8 = iN 0 := by show g_up (g_up (g_up (g_up (g_up S 7 6 0) 7 10 0) 7 7 0) 7 8 0) 7 13 0 7 8 = _; rw [g_up_ne _ _ (by omega), g_up_eq _ _ ⟨rfl, rfl⟩]; rfl
    have b6 : B 7 6 = iN 0 := by show g_up (g_up (g_up (g_up (g_up S 7 6 0) 7 10 0) 7 7 0) 7 8 0) 7 13 0 7 6 = _; rw [g_up_ne _ _ (by omega), g_up_ne _ _ (by omega), g_up_ne _ _ (by omega), g_up_ne _ _ (by omega), g_up_eq _ _ ⟨rfl, rfl⟩]; rfl
    have b13 : B 7 13 = iN 0 := g_up_eq _ _ ⟨rfl, rfl⟩
    obtain ⟨M1, q1, q2, q3⟩ := take_k (σ := σ) (k := 0) (s2.keep (M' := B) (fun a j h => fS a j (by omega))) (fun i hi => by omega) b10
    have st : f_X7_readText σ M = l_X7_readText_37 g_FU 1 (iN 0) σ M1 := by
      unfold f_X7_readText b_X7_readText_0 b_X7_readText_19
      rw [s1, oB, show f_X7_advance σ (g_up (g_up (g_up (g_up (g_up S 7 6 0) 7 10 0) 7 7 0) 7 8 0) 7 13 0) = some M1 from q1, oB]
      rfl
    have := c1 0 σ M1 g_FU (by omega) (by unfold g_FU; omega) (q2 0 b8) (by rw [q3 _ _ (by omega)]; exact b7) (by rw [q3 _ _ (by omega)]; exact b13) (by rw [q3 _ _ (by omega)]; exact b6)
    rw [st]
    cases res with
    | inl f =>
      obtain ⟨M2, u1, u2, u3⟩ := this
      exact ⟨M2, u1, u2, fun a j h1 h2 h3 h4 => by rw [u3 a j h1 h2 h3 h4, q3 a j (by omega), fB a j (by omega)]⟩
    | inr rs =>
      obtain ⟨M2, u1, u2, u3, u4, u5, u6⟩ := this
      exact ⟨M2, u1, u2, u3, u4, u5, fun a j h1 h2 h3 h4 => by rw [u6 a j h1 h2 h3 h4, q3 a j (by omega), fB a j (by omega)]⟩
  · let B : gM := g_up (g_up (g_up (g_up (g_up A 40 47 0) 40 50 0) 40 51 0) 40 58 0) 40 59 (-1)
    have fB : ∀ a j, ¬ (a = 40 ∧ 47 ≤ j ∧ j ≤ 52) → ¬ (a = 40 ∧ 58 ≤ j ∧ j ≤ 59) → B a j = A a j := fun a j h h2 => by
      show g_up (g_up (g_up (g_up (g_up A 40 47 0) 40 50 0) 40 51 0) 40 58 0) 40 59 (-1) a j = _
      rw [g_up_ne _ _ (by omega), g_up_ne _ _ (by omega), g_up_ne _ _ (by omega), g_up_ne _ _ (by omega), g_up_ne _ _ (by omega)]
    have b7 : B 40 47 = iN 0 := by show g_up (g_up (g_up (g_up (g_up A 40 47 0) 40 50 0) 40 51 0) 40 58 0) 40 59 (-1) 40 47 = _; rw [g_up_ne _ _ (by omega), g_up_ne _ _ (by omega), g_up_ne _ _ (by omega), g_up_ne _ _ (by omega), g_up_eq _ _ ⟨rfl, rfl⟩]; rfl
    have b50 : B 40 50 = iN 0 := by show g_up (g_up (g_up (g_up (g_up A 40 47 0) 40 50 0) 40 51 0) 40 58 0) 40 59 (-1) 40 50 = _; rw [g_up_ne _ _ (by omega), g_up_ne _ _ (by omega), g_up_ne _ _ (by omega), g_up_eq _ _ ⟨rfl, rfl⟩]; rfl
    have b51 : B 40 51 = iN 0 := by show g_up (g_up (g_up (g_up (g_up A 40 47 0) 40 50 0) 40 51 0) 40 58 0) 40 59 (-1) 40 51 = _; rw [g_up_ne _ _ (by omega), g_up_ne _ _ (by omega), g_up_eq _ _ ⟨rfl, rfl⟩]; rfl
    have b58 : B 40 58 = iN 0 := by show g_up (g_up (g_up (g_up (g_up A 40 47 0) 40 50 0) 40 51 0) 40 58 0) 40 59 (-1) 40 58 = _; rw [g_up_ne _ _ (by omega), g_up_eq _ _ ⟨rfl, rfl⟩]; rfl
    have b59 : B 40 59 = -1 := g_up_eq _ _ ⟨rfl, rfl⟩
    have tB : textM B b n := ht.keep (fun a j h => fB a j (by omega) (by omega))
    obtain ⟨A1, N1, q1, q2, q3, q4, q5⟩ := next_m (σ := σ) (N := N) (s := 0) (Nat.zero_le n) tB b7
    have st : f_X12_goes x σ A N = l_X12_goes_29 g_FU x σ A1 N1 := by
      unfold f_X12_goes b_X12_goes_0 b_X12_goes_15
      rw [show f_X12_next σ (g_up (g_up (g_up (g_up (g_up A 40 47 0) 40 50 0) 40 51 0) 40 58 0) 40 59 (-1)) N = some (A1, N1) from q1, oB]
    have fr : ∀ a j, ¬ (a = 40 ∧ 47 ≤ j ∧ j ≤ 52) → ¬ (a = 40 ∧ 58 ≤ j ∧ j ≤ 59) → A1 a j = A a j := fun a j h h2 => by rw [q5 a j (by omega), fB a j h h2]
    have := m1 x σ A1 N1 g_FU (by unfold g_FU; omega) ⟨tB.keep (fun a j h => q5 a j (by omega)), q2, q3, q4, by rw [q5 _ _ (by omega)]; exact b50, by rw [q5 _ _ (by omega)]; exact b51⟩ (by rw [q5 _ _ (by omega)]; exact b58)
    rw [st]
    cases res with
    | inl f =>
      obtain ⟨A2, N2, u1, u2, u3, u4⟩ := this
      exact ⟨A2, N2, u1, u2, u3, fun a j h1 h2 => by rw [u4 a j h1 h2, fr a j h1 h2]⟩
    | inr rs =>
      obtain ⟨A2, N2, u1, u2, u3, u4, u5⟩ := this
      refine ⟨A2, N2, u1, u2, by rw [u3, Nat.zero_add], fun kind hk hx => ?_, fun a j h1 h2 => by rw [u5 a j h1 h2, fr a j h1 h2]⟩
      rw [u4 kind hk hx, if_pos (by rw [q5 _ _ (by omega)]; exact b59), facts_keep (A := A) (fun j hj => fr 40 j (by omega) (by omega))]
theorem l_told {σ : gS} {b : Nat → Nat} {n t : Nat} {x : Int32} {N : gN} (hn : n ≤ 400) (ht : t < 6) : ∀ k i f A, i + k = n → k < f → A 40 46 = iN n → (∀ j, j < n → b j < 256 ∧ A 71 (400 * t + j) = sb (b j)) → (∀ j, j < i → A 74 j = sb (b j)) → ∃ A', l_X12_told_12 f (iN t) x (iN i) σ A N = ((f_X12_goes x σ A' N).bind fun q46 => if (q46.1 40 59) = (-1 : Int32) then some (0, q46.1, q46.2) else some ((q46.1 40 59), q46.1, q46.2)) ∧ textM A' b n ∧ ∀ a j, a ≠ 74 → A' a j = A a j := by
  intro k
  induction k with
  | zero =>
    intro i f A hi hf h46 h71 h74
    obtain ⟨f, rfl⟩ : ∃ m, f = m + 1 := ⟨f - 1, by omega⟩
    refine ⟨A, ?_, ⟨hn, h46, fun j hj => ⟨(h71 j hj).1, h74 j (by omega)⟩⟩, fun _ _ _ => rfl⟩
    rw [l_X12_told_12, h46, if_neg (by rw [iN_lt (by omega) (by omega)]; omega)]
  | succ k ih =>
    intro i f A hi hf h46 h71 h74
    obtain ⟨f, rfl⟩ : ∃ m, f = m + 1 := ⟨f - 1, by omega⟩
    obtain ⟨t1, t2⟩ := h71 i (by omega)
    obtain ⟨A', q1, q2, q3⟩ := ih (i + 1) f (g_up A 74 i (sb (b i))) (by omega) (by omega) (by rw [g_up_ne _ _ (by omega)]; exact h46) (fun j hj => by rw [g_up_ne _ _ (by omega)]; exact h71 j hj) (fun j hj => by
      by_cases c : j = i
      · rw [c, g_up_eq _ _ ⟨rfl, rfl⟩]
      · rw [g_up_ne _ _ (by omega)]; exact h74 j (by omega))
    refine ⟨A', ?_, q2, fun a j h => by rw [q3 a j h, g_up_ne _ _ (by omega)]⟩
    rw [l_X12_told_12, h46, if_pos (by rw [iN_lt (by omega) (by omega)]; omega), show (400 : Int32) * iN t + iN i = iN (400 * t + i) from by rw [show (400 : Int32) = iN 400 from rfl, iN_mul, iN_add], if_pos (by rw [iN_in (by omega)]; omega), if_pos (by rw [iN_in (by omega)]; omega), eS, iN_cl (by omega), iN_cl (by omega), t2, sb_nar _ t1]
    exact q1
theorem tells_of {M : gM} {b : Nat → Nat} {n t : Nat} {rs : List gRule} (hn : n ≤ 400) (ht : t < 6) (hb : ∀ k, k < n → b k < 256 ∧ M 71 (400 * t + k) = sb (b k)) (h72 : M 72 t = iN n) (hg : ∀ x σ A N, textM A b n → mGO A x (f_X12_goes x σ A N) (.inr rs)) : tellsR M t rs := by
  intro σ M' N' h1 h2 kind hk
  have e72 : M' 72 t = iN n := h2.trans h72
  obtain ⟨A, q1, q2, q3⟩ := l_told (σ := σ) (N := N') (b := b) (x := iN kind) hn ht n 0 g_FU (g_up M' 40 46 (iN n)) (by omega) (by unfold g_FU; omega) (g_up_eq _ _ ⟨rfl, rfl⟩) (fun j hj => ⟨(hb j hj).1, by rw [g_up_ne _ _ (by omega), h1 j (by omega)]; exact (hb j hj).2⟩) (fun j hj => by omega)
  obtain ⟨A2, N2, u1, u2, u3, u4, u5⟩ := hg (iN kind) σ A N' q2
  have fe : facts A = facts M' := facts_keep (fun j hj => by rw [q3 _ _ (by omega), g_up_ne _ _ (by omega)])
  have e := u4 kind hk rfl
  rw [fe] at e
  refine ⟨A2, N2, ?_, fun a k g1 g2 g3 => by rw [u5 a k (by omega) (by omega), q3 a k g1, g_up_ne _ _ (by omega)]⟩
  unfold f_X12_told b_X12_told_0
  rw [if_pos (by rw [iN_in (by omega)]; exact ht), iN_cl (by omega), e72]
  rw [show l_X12_told_12 g_FU (iN t) (iN kind) 0 σ (g_up M' 40 46 (iN n)) N' = _ from q1, u1, oB, found_worth, ← e]
  by_cases c : A2 40 59 = -1
  · rw [if_pos c, if_pos c]
  · rw [if_neg c, if_neg c]
theorem cpM_ne {M : gM} {a0 a sp dp n b j : Nat} (h : b ≠ a) : g_cpM M a0 a sp dp n b j = M b j := by unfold g_cpM; rw [if_neg h]
theorem cpM_in {M : gM} {a0 a n j : Nat} (h : j < n) : g_cpM M a0 a 0 0 n a j = M a0 j := by
  unfold g_cpM va_cpy
  rw [if_pos rfl, if_pos ⟨by omega, by omega⟩]
  congr 1
  omega
theorem cp_ok {n a b : Nat} (hn : n < 2147483648) (h1 : n ≤ a) (h2 : n ≤ b) : g_cp (0 : Int32) (0 : Int32) (iN n) a b = true := by
  unfold g_cp
  rw [decide_eq_true_iff, iN_cl hn]
  refine ⟨by decide, by decide, iN_nneg hn, ?_, ?_⟩
  · show 0 + n ≤ a; omega
  · show 0 + n ≤ b; omega
theorem take60 {σ : gS} {M : gM} {N : gN} {t c n a : Nat} (h2 : σ.1 (140 + t) = some (2, 0)) (ha : σ.2 (140 + t) 4 = a) (h14 : σ.1 a = some (14, n)) (hc : M 7 8 = iN c) (hcn : c ≤ n) (hc4 : c ≤ 400) : b_X2_take_60 (140 + t) σ M N = some (σ, g_cpM M 10 a 0 0 c, N) := by
  unfold b_X2_take_60
  rw [ha, hc, if_pos (by rw [is_of h2]; trivial), if_pos (by rw [is_of h14]; trivial), ln_of h14, if_pos (cp_ok (by omega) hc4 hcn), iN_cl (by omega)]
  rfl
theorem take_c {σ : gS} {M : gM} {N : gN} {P T t m c : Nat} {R : Nat → Nat} (hL : Lay σ P T R) (h6 : T ≤ 6) (hP : P ≤ 10) (ht : t < T) (hm : M 7 7 = iN m) (hc : M 7 8 = iN c) (hc4 : c ≤ 400) : ∃ σ1 M1 N1, f_X2_take (140 + t) σ M N = some (σ1, M1, N1) ∧ Lay σ1 P T R ∧ M1 (140 + t) 5 = iN m ∧ (∀ j, j < 12 → M1 (150 + t) j = M 8 j) ∧ (∀ j, j < 36 → M1 (160 + t) j = M 9 j) ∧ (∀ j, j < c → M1 (σ1.2 (140 + t) 4) j = M 10 j) ∧ c ≤ g_ln σ1 (σ1.2 (140 + t) 4) ∧ (σ1.2 (140 + t) 4 = 190 + t ∨ (100000 + 1000 * t ≤ σ1.2 (140 + t) 4 ∧ σ1.2 (140 + t) 4 ≤ 100400 + 1000 * t)) ∧ (∀ a j, ¬ (a = 140 + t ∧ j = 5) → a ≠ 150 + t → a ≠ 160 + t → a ≠ σ1.2 (140 + t) 4 → M1 a j = M a j) ∧ ∀ u, u < T → u ≠ t → σ1.2 (140 + u) 4 = σ.2 (140 + u) 4 ∧ σ1.1 (σ.2 (140 + u) 4) = σ.1 (σ.2 (140 + u) 4) := by
  obtain ⟨l0, lP, lT, lR, lD, lB⟩ := hL
  obtain ⟨k1, k2, k3, k4, k5, k6, k7, k8, k9⟩ := (lT.1 t ht).2
  obtain ⟨a, n, d1, d2, d3, d4, d5⟩ := lD.1 t ht
  let M0 : gM := g_cpM (g_cpM (g_up M (140 + t) 5 (iN m)) 8 (150 + t) 0 0 12) 9 (160 + t) 0 0 36
  have fM : ∀ a j, ¬ (a = 140 + t ∧ j = 5) → a ≠ 150 + t → a ≠ 160 + t → M0 a j = M a j := fun a j h1 h2 h3 => by
    show g_cpM (g_cpM (g_up M (140 + t) 5 (iN m)) 8 (150 + t) 0 0 12) 9 (160 + t) 0 0 36 a j = _
    rw [cpM_ne h3, cpM_ne h2, g_up_ne _ _ h1]
  have m5 : M0 (140 + t) 5 = iN m := by
    show g_cpM (g_cpM (g_up M (140 + t) 5 (iN m)) 8 (150 + t) 0 0 12) 9 (160 + t) 0 0 36 (140 + t) 5 = _
    rw [cpM_ne (by omega), cpM_ne (by omega), g_up_eq _ _ ⟨rfl, rfl⟩]
  have m8 : ∀ j, j < 12 → M0 (150 + t) j = M 8 j := fun j hj => by
    show g_cpM (g_cpM (g_up M (140 + t) 5 (iN m)) 8 (150 + t) 0 0 12) 9 (160 + t) 0 0 36 (150 + t) j = _
    rw [cpM_ne (by omega), cpM_in hj, g_up_ne _ _ (by omega)]
  have m9 : ∀ j, j < 36 → M0 (160 + t) j = M 9 j := fun j hj => by
    show g_cpM (g_cpM (g_up M (140 + t) 5 (iN m)) 8 (150 + t) 0 0 12) 9 (160 + t) 0 0 36 (160 + t) j = _
    rw [cpM_in hj, cpM_ne (by omega), g_up_ne _ _ (by omega)]
  have m6 : M0 7 8 = iN c := by rw [fM _ _ (by omega) (by omega) (by omega)]; exact hc
  have z0 : (0 : Int32).toNatClampNeg = 0 := rfl
  have z12 : (12 : Int32).toNatClampNeg = 12 := rfl
  have z36 : (36 : Int32).toNatClampNeg = 36 := rfl
  have start : f_X2_take (140 + t) σ M N = if iN n < iN c then if g_fr σ (100000 + 1000 * t + c) = true then if g_nn (iN c) 400 = true then if g_layCB (g_nS σ (100000 + 1000 * t + c) 14 c) = true then if g_is (g_nS σ (100000 + 1000 * t + c) 14 c) (140 + t) 2 = true then if g_layCB (g_pS (g_nS σ (100000 + 1000 * t + c) 14 c) (140 + t) 4 (100000 + 1000 * t + c)) = true then b_X2_take_60 (140 + t) (g_pS (g_nS σ (100000 + 1000 * t + c) 14 c) (140 + t) 4 (100000 + 1000 * t + c)) (g_z M0 (100000 + 1000 * t + c) 0) (g_z N (100000 + 1000 * t + c) 0) else none else none else none else none else none else b_X2_take_60 (140 + t) σ M0 N := by
    unfold f_X2_take b_X2_take_0
    rw [k2, k3, d1, hm, z0, z12, z36, Nat.add_sub_cancel_left]
    rw [show g_cpM (g_cpM (g_up M (140 + t) 5 (iN m)) 8 (150 + t) 0 0 12) 9 (160 + t) 0 0 36 = M0 from rfl, m6, iN_cl (by omega)]
    rw [if_pos (by rw [is_of k1]; trivial), if_pos (by rw [is_of k6]; trivial), ln_of k6, if_pos (show g_cp (0 : Int32) (0 : Int32) (12 : Int32) 12 12 = true from cp_ok (n := 12) (by omega) (by omega) (by omega)), if_pos (by rw [is_of k7]; trivial), ln_of k7, if_pos (show g_cp (0 : Int32) (0 : Int32) (36 : Int32) 36 36 = true from cp_ok (n := 36) (by omega) (by omega) (by omega)), if_pos (by rw [is_of d2]; trivial), ln_of d2]
    rfl
  by_cases big : n < c
  · let a' : Nat := 100000 + 1000 * t + c
    have ea : a' = 100000 + 1000 * t + c := rfl
    let S : gS := g_pS (g_nS σ a' 14 c) (140 + t) 4 a'
    have s1 : ∀ b, b ≠ a' → S.1 b = σ.1 b := fun b h => by show (g_nS σ a' 14 c).1 b = _; exact nS1_ne h
    have s1e : S.1 a' = some (14, c) := nS1_eq rfl
    have s2 : ∀ b k, b ≠ a' → ¬ (b = 140 + t ∧ k = 4) → S.2 b k = σ.2 b k := fun b k h1 h2 => by show (g_pS (g_nS σ a' 14 c) (140 + t) 4 a').2 b k = _; rw [pS2_ne h2, nS2_ne h1]
    have s2e : S.2 (140 + t) 4 = a' := pS2_eq ⟨rfl, rfl⟩
    have hl1 : g_layL (g_nS σ a' 14 c) := layL_nS l0 (by omega)
    have hl2 : g_layL S := layL_pS hl1 (by omega)
    have free : σ.1 a' = none := d5 c big hc4
    have lay : Lay S P T R := by
      refine ⟨hl2, lP.keep hP (fun b h1 h2 => s1 b (by omega)) (fun k => s2 _ _ (by omega) (by omega)), lT.keep h6 (fun b h1 h2 => s1 b (by omega)) (fun b k h => s2 b k (by omega) (by omega)), lR.keep (fun b h1 h2 => s1 b (by omega)) (fun b k h1 h2 => s2 b k (by omega) (by omega)), ⟨fun u hu => ?_, fun u h1 h2 q hq => ?_⟩, lB.keep (fun b h => s1 b (by omega)) (s2 _ _ (by omega) (by omega))⟩
      · by_cases e : u = t
        · subst e
          refine ⟨a', c, s2e, s1e, hc4, Or.inr ea, fun q h1 h2 => ?_⟩
          rw [s1 _ (by omega)]; exact d5 q (by omega) h2
        · obtain ⟨x, y, e1, e2, e3, e4, e5⟩ := lD.1 u hu
          refine ⟨x, y, by rw [s2 _ _ (by omega) (by omega)]; exact e1, by rw [s1 _ (by omega)]; exact e2, e3, e4, fun q h1 h2 => by rw [s1 _ (by omega)]; exact e5 q h1 h2⟩
      · rw [s1 _ (by omega)]; exact lD.2 u h1 h2 q hq
    refine ⟨S, g_cpM (g_z M0 a' 0) 10 a' 0 0 c, g_z N a' 0, ?_, lay, ?_, ?_, ?_, ?_, ?_, ?_, ?_, ?_⟩
    · rw [start, if_pos (by rw [iN_lt (by omega) (by omega)]; exact big), if_pos (by rw [fr_of (by omega) (by omega) free]; trivial), if_pos (show g_nn (iN c) 400 = true by unfold g_nn; rw [decide_eq_true (iN_nneg (by omega)), iN_cl (by omega), decide_eq_true hc4]; rfl), if_pos (by rw [layCB_of hl1.1]; trivial), if_pos (by rw [is_of (show (g_nS σ (100000 + 1000 * t + c) 14 c).1 (140 + t) = some (2, 0) by rw [nS1_ne (by omega)]; exact k1)]; trivial), if_pos (by rw [layCB_of (show g_layC (g_pS (g_nS σ (100000 + 1000 * t + c) 14 c) (140 + t) 4 (100000 + 1000 * t + c)) from hl2.1)]; trivial)]
      exact take60 (a := a') (n := c) (by rw [s1 _ (by omega)]; exact k1) s2e s1e (by rw [g_z_ne _ _ _ (by omega)]; exact m6) (by omega) hc4
    · rw [cpM_ne (by omega), g_z_ne _ _ _ (by omega)]; exact m5
    · intro j hj; rw [cpM_ne (by omega), g_z_ne _ _ _ (by omega)]; exact m8 j hj
    · intro j hj; rw [cpM_ne (by omega), g_z_ne _ _ _ (by omega)]; exact m9 j hj
    · intro j hj; rw [s2e, cpM_in hj, g_z_ne _ _ _ (by omega), fM _ _ (by omega) (by omega) (by omega)]
    · rw [s2e, ln_of s1e]; omega
    · rw [s2e]; omega
    · intro b j h1 h2 h3 h4
      rw [s2e] at h4
      rw [cpM_ne h4, g_z_ne _ _ _ h4, fM _ _ h1 h2 h3]
    · intro u hu hne
      obtain ⟨x, y, e1, e2, e3, e4, e5⟩ := lD.1 u hu
      exact ⟨s2 _ _ (by omega) (by omega), by rw [e1]; exact s1 _ (by omega)⟩
  · refine ⟨σ, g_cpM M0 10 a 0 0 c, N, ?_, ⟨l0, lP, lT, lR, lD, lB⟩, ?_, ?_, ?_, ?_, ?_, ?_, ?_, fun u hu hne => ⟨rfl, rfl⟩⟩
    · rw [start, if_neg (by rw [iN_lt (by omega) (by omega)]; exact big)]
      exact take60 k1 d1 d2 m6 (by omega) hc4
    · rw [cpM_ne (by omega)]; exact m5
    · intro j hj; rw [cpM_ne (by omega)]; exact m8 j hj
    · intro j hj; rw [cpM_ne (by omega)]; exact m9 j hj
    · intro j hj; rw [d1, cpM_in hj, fM _ _ (by omega) (by omega) (by omega)]
    · rw [d1, ln_of d2]; omega
    · rw [d1]; omega
    · intro b j h1 h2 h3 h4
      rw [d1] at h4
      rw [cpM_ne h4, fM _ _ h1 h2 h3]
