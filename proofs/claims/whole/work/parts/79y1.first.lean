/-! settle: the class's first set of a row; its plan. -/
def goodC (ok : Nat → Nat → Prop) (w : Nat → Nat → Nat) (Ti Tn : Nat → Nat) (s a b : Nat) : Prop := ok a b ∧ bd (2 ^ a ||| 2 ^ b) s = 0 ∧ w a b + Tn (bd s (2 ^ a ||| 2 ^ b)) = Ti s
/-- the k-th partner of a: itself, then 0, 1 .. -/
def bO (a k : Nat) : Nat := if k = 0 then a else k - 1
def hasT (M : gM) (ta m q : Nat) (T : Nat → Nat → Nat) : Prop := ∀ i s, i ≤ q → s < 2 ^ m → M ta (i * 2 ^ m + s) = iN (T i s)
theorem l_fs54 {σ : gS} {M M0 : gM} {t m q aim i a s ta len : Nat} {g e : Nat → Nat} {T : Nat → Nat → Nat} {K : Int32 → Int32 → Int32 → Int32 → Int32 → gS → gM → Option Int32} (hW : hasW σ M M0 t m q g e aim) (hi : i < q) (ha : a < m) (hs : s < 2 ^ m) (hta : σ.2 12 13 = ta) (hlen : σ.1 ta = some (14, len)) (hl : len < 100000) (hsz : (q + 1) * 2 ^ m ≤ len) (hT : isTab m q (okW M0 t g e) (wW M0 t g e aim) T) (hV : hasT M ta m q T) : ∀ d k f, k + d = a + 1 → d < f → (∀ k', k' < k → ¬ goodC (okW M0 t g e i) (wW M0 t g e aim i) (T i) (T (i + 1)) s a (bO a k')) → (∃ k0, k0 ≤ a ∧ goodC (okW M0 t g e i) (wW M0 t g e aim i) (T i) (T (i + 1)) s a (bO a k0) ∧ (∀ k', k' < k0 → ¬ goodC (okW M0 t g e i) (wW M0 t g e aim i) (T i) (T (i + 1)) s a (bO a k')) ∧ l_X9_firstSetOf_54 K f (iN i) (iN s) (iN (T i s)) (iN ((i + 1) * 2 ^ m)) (iN a) (iN k) σ M = some (iN (2 ^ a ||| 2 ^ bO a k0))) ∨ ((∀ k', k' ≤ a → ¬ goodC (okW M0 t g e i) (wW M0 t g e aim i) (T i) (T (i + 1)) s a (bO a k')) ∧ l_X9_firstSetOf_54 K f (iN i) (iN s) (iN (T i s)) (iN ((i + 1) * 2 ^ m)) (iN a) (iN k) σ M = K (iN i) (iN s) (iN (T i s)) (iN ((i + 1) * 2 ^ m)) (iN (a + 1)) σ M) := by
  have hm := hW.2.2.2.2.1
  have hq := hW.2.2.2.2.2.1
  have hW1 : 2 ^ m ≤ 2 ^ 10 := Nat.pow_le_pow_right (by omega) hm
  have hW2 : 2 ^ 10 = 1024 := rfl
  have m2 : (i + 1) * 2 ^ m + 2 ^ m ≤ (q + 1) * 2 ^ m := by
    rw [← Nat.succ_mul]
    exact Nat.mul_le_mul_right _ (by omega)
  have sh : ∀ p, p < 10 → (1 : Int32) <<< (iN p &&& 31) = iN (2 ^ p) := fun p hp => by rw [show (1 : Int32) = iN 1 from rfl, iN_shl (by omega), Nat.one_mul]
  intro d
  induction d with
  | zero =>
    intro k f hk hf hno
    obtain ⟨f, rfl⟩ : ∃ m, f = m + 1 := ⟨f - 1, by omega⟩
    refine Or.inr ⟨fun k' hk' => hno k' (by omega), ?_⟩
    rw [l_X9_firstSetOf_54, if_pos (by rw [iN_lt (by omega) (by omega)]; omega), eS]
  | succ d ih =>
    intro k f hk hf hno
    obtain ⟨f, rfl⟩ : ∃ m, f = m + 1 := ⟨f - 1, by omega⟩
    have hb : bO a k ≤ a := by unfold bO; split <;> omega
    have Ti := hT.2.1 i s (by omega) hs
    have hbs : bd s (2 ^ a ||| 2 ^ bO a k) < 2 ^ m := bd_ltp hs
    have Tn := hT.2.1 (i + 1) (bd s (2 ^ a ||| 2 ^ bO a k)) (by omega) hbs
    have hset : 2 ^ a ||| 2 ^ bO a k < 2 ^ m := pair_lt ha (by omega)
    have hpw := hW.2.2.2.2.2.2.2.2 i hi
    have hw := encC_lt (aim := aim) hpw.2.2.2.2.2.2 (mvX_le M0 t (e i) (g a) (g (bO a k)))
    have hbx : bd (2 ^ a ||| 2 ^ bO a k) s < 2 ^ m := bd_ltp hset
    -- one look
    have look : l_X9_firstSetOf_54 K (f + 1) (iN i) (iN s) (iN (T i s)) (iN ((i + 1) * 2 ^ m)) (iN a) (iN k) σ M = b_X9_firstSetOf_75 K (fun x1 x2 x3 x4 x5 x6 σ M => l_X9_firstSetOf_54 K f x1 x2 x3 x4 x5 x6 σ M) (iN i) (iN s) (iN (T i s)) (iN ((i + 1) * 2 ^ m)) (iN a) (iN k) (iN (bO a k)) σ M := by
      rw [l_X9_firstSetOf_54, if_neg (by rw [iN_lt (by omega) (by omega)]; omega)]
      unfold bO
      by_cases c : k = 0
      · rw [if_pos c, if_pos (show iN k = (0 : Int32) by rw [c]; rfl)]
      · rw [if_neg c, if_neg (show ¬ iN k = (0 : Int32) by rw [show (0 : Int32) = iN 0 from rfl, iN_inj (by omega) (by omega)]; exact c), show iN k - (1 : Int32) = iN (k - 1) from iN_sub (b := 1) (by omega)]
    have e111 : ∀ wt, wt ≤ 268435456 → b_X9_firstSetOf_111 K (fun x1 x2 x3 x4 x5 x6 σ M => l_X9_firstSetOf_54 K f x1 x2 x3 x4 x5 x6 σ M) (iN i) (iN s) (iN (T i s)) (iN ((i + 1) * 2 ^ m)) (iN a) (iN k) (iN (2 ^ a ||| 2 ^ bO a k)) (iN wt) σ M = if wt < 268435456 then if wt + T (i + 1) (bd s (2 ^ a ||| 2 ^ bO a k)) = T i s then some (iN (2 ^ a ||| 2 ^ bO a k)) else l_X9_firstSetOf_54 K f (iN i) (iN s) (iN (T i s)) (iN ((i + 1) * 2 ^ m)) (iN a) (iN (k + 1)) σ M else l_X9_firstSetOf_54 K f (iN i) (iN s) (iN (T i s)) (iN ((i + 1) * 2 ^ m)) (iN a) (iN (k + 1)) σ M := fun wt hwt => by
      unfold b_X9_firstSetOf_111 b_X9_firstSetOf_144
      rw [show (-1 : Int32) = iM from rfl, iN_bd, iN_add, eS, hta, if_pos (show g_is σ ta 14 = true by rw [is_of hlen]; trivial), ln_of hlen, if_pos (show g_in (iN ((i + 1) * 2 ^ m + bd s (2 ^ a ||| 2 ^ bO a k))) len = true by rw [iN_in (by omega)]; omega), iN_cl (by omega), hV (i + 1) _ (by omega) hbs, iN_add]
      by_cases c1 : wt < 268435456
      · rw [if_pos c1, if_pos (show iN wt < (268435456 : Int32) by rw [show (268435456 : Int32) = iN 268435456 from rfl, iN_lt (by omega) (by omega)]; exact c1)]
        by_cases c2 : wt + T (i + 1) (bd s (2 ^ a ||| 2 ^ bO a k)) = T i s
        · rw [if_pos c2, if_pos (by rw [c2])]
        · rw [if_neg c2, if_neg (by rw [iN_inj (by omega) (by omega)]; exact c2)]
      · rw [if_neg c1, if_neg (show ¬ iN wt < (268435456 : Int32) by rw [show (268435456 : Int32) = iN 268435456 from rfl, iN_lt (by omega) (by omega)]; exact c1)]
    have e75 : l_X9_firstSetOf_54 K (f + 1) (iN i) (iN s) (iN (T i s)) (iN ((i + 1) * 2 ^ m)) (iN a) (iN k) σ M = b_X9_firstSetOf_111 K (fun x1 x2 x3 x4 x5 x6 σ M => l_X9_firstSetOf_54 K f x1 x2 x3 x4 x5 x6 σ M) (iN i) (iN s) (iN (T i s)) (iN ((i + 1) * 2 ^ m)) (iN a) (iN k) (iN (2 ^ a ||| 2 ^ bO a k)) (iN (if bd (2 ^ a ||| 2 ^ bO a k) s = 0 then (if bP (condP M0 t (e i) (g a) (g (bO a k))) = true then encC aim (prF M0 t (e i)) (mvX M0 t (e i) (g a) (g (bO a k))) else 268435456) else 268435456)) σ M := by
      rw [look]
      unfold b_X9_firstSetOf_75
      rw [sh a (by omega), sh (bO a k) (by omega), iN_or, show (-1 : Int32) = iM from rfl, iN_bd, weight_c hW hi ha hb, oB]
      by_cases c1 : bd (2 ^ a ||| 2 ^ bO a k) s = 0
      · rw [if_pos (show iN (bd (2 ^ a ||| 2 ^ bO a k) s) = (0 : Int32) by rw [c1]; rfl), if_pos c1]
        by_cases c2 : bP (condP M0 t (e i) (g a) (g (bO a k))) = true
        · rw [if_pos c2, if_pos c2]
        · rw [if_neg c2, if_neg c2]
      · rw [if_neg (show ¬ iN (bd (2 ^ a ||| 2 ^ bO a k) s) = (0 : Int32) by rw [show (0 : Int32) = iN 0 from rfl, iN_inj (by omega) (by omega)]; exact c1), if_neg c1]
        rfl
    have next : ¬ goodC (okW M0 t g e i) (wW M0 t g e aim i) (T i) (T (i + 1)) s a (bO a k) → l_X9_firstSetOf_54 K (f + 1) (iN i) (iN s) (iN (T i s)) (iN ((i + 1) * 2 ^ m)) (iN a) (iN k) σ M = l_X9_firstSetOf_54 K f (iN i) (iN s) (iN (T i s)) (iN ((i + 1) * 2 ^ m)) (iN a) (iN (k + 1)) σ M := fun hn => by
      rw [e75]
      by_cases c1 : bd (2 ^ a ||| 2 ^ bO a k) s = 0
      · rw [if_pos c1]
        by_cases c2 : condP M0 t (e i) (g a) (g (bO a k))
        · rw [if_pos (bP_t c2), e111 _ (by omega), if_pos (by omega), if_neg (show ¬ encC aim (prF M0 t (e i)) (mvX M0 t (e i) (g a) (g (bO a k))) + T (i + 1) (bd s (2 ^ a ||| 2 ^ bO a k)) = T i s from fun q => hn ⟨c2, c1, q⟩)]
        · rw [if_neg (show ¬ bP (condP M0 t (e i) (g a) (g (bO a k))) = true by rw [bP_f c2]; decide), e111 _ (by omega), if_neg (by omega)]
      · rw [if_neg c1, e111 _ (by omega), if_neg (by omega)]
    by_cases gd : goodC (okW M0 t g e i) (wW M0 t g e aim i) (T i) (T (i + 1)) s a (bO a k)
    · refine Or.inl ⟨k, by omega, gd, hno, ?_⟩
      obtain ⟨c2, c1, c3⟩ := gd
      rw [e75, if_pos c1, if_pos (bP_t (show condP M0 t (e i) (g a) (g (bO a k)) from c2)), e111 _ (by omega), if_pos (by omega), if_pos (show encC aim (prF M0 t (e i)) (mvX M0 t (e i) (g a) (g (bO a k))) + T (i + 1) (bd s (2 ^ a ||| 2 ^ bO a k)) = T i s from c3)]
    · rw [next gd]
      exact ih (k + 1) f (by omega) (by omega) (fun k' hk' => by
        by_cases c : k' = k
        · rw [c]; exact gd
        · exact hno k' (by omega))
theorem bO_all {a b : Nat} (h : b ≤ a) : ∃ k, k ≤ a ∧ bO a k = b := by
  by_cases c : b = a
  · exact ⟨0, by omega, by unfold bO; rw [if_pos rfl, c]⟩
  · exact ⟨b + 1, by omega, by unfold bO; rw [if_neg (by omega)]; omega⟩
theorem l_fs42 {σ : gS} {M M0 : gM} {t m q aim i s ta len : Nat} {g e : Nat → Nat} {T : Nat → Nat → Nat} (hW : hasW σ M M0 t m q g e aim) (hi : i < q) (hs : s < 2 ^ m) (hta : σ.2 12 13 = ta) (hlen : σ.1 ta = some (14, len)) (hl : len < 100000) (hsz : (q + 1) * 2 ^ m ≤ len) (hT : isTab m q (okW M0 t g e) (wW M0 t g e aim) T) (hV : hasT M ta m q T) (hex : ∃ a b, b ≤ a ∧ a < m ∧ goodC (okW M0 t g e i) (wW M0 t g e aim i) (T i) (T (i + 1)) s a b) : ∀ d a f, a + d = m → d < f → (∀ a' b', a' < a → b' ≤ a' → ¬ goodC (okW M0 t g e i) (wW M0 t g e aim i) (T i) (T (i + 1)) s a' b') → ∃ a0 k0, a0 < m ∧ k0 ≤ a0 ∧ goodC (okW M0 t g e i) (wW M0 t g e aim i) (T i) (T (i + 1)) s a0 (bO a0 k0) ∧ (∀ k', k' < k0 → ¬ goodC (okW M0 t g e i) (wW M0 t g e aim i) (T i) (T (i + 1)) s a0 (bO a0 k')) ∧ (∀ a' b', a' < a0 → b' ≤ a' → ¬ goodC (okW M0 t g e i) (wW M0 t g e aim i) (T i) (T (i + 1)) s a' b') ∧ l_X9_firstSetOf_42 f (iN i) (iN s) (iN (T i s)) (iN ((i + 1) * 2 ^ m)) (iN a) σ M = some (iN (2 ^ a0 ||| 2 ^ bO a0 k0)) := by
  have hm := hW.2.2.2.2.1
  intro d
  induction d with
  | zero =>
    intro a f ha hf hno
    obtain ⟨a1, b1, h1, h2, h3⟩ := hex
    exact absurd h3 (hno a1 b1 (by omega) h1)
  | succ d ih =>
    intro a f ha hf hno
    obtain ⟨f, rfl⟩ : ∃ m, f = m + 1 := ⟨f - 1, by omega⟩
    have st : l_X9_firstSetOf_42 (f + 1) (iN i) (iN s) (iN (T i s)) (iN ((i + 1) * 2 ^ m)) (iN a) σ M = l_X9_firstSetOf_54 (fun x1 x2 x3 x4 x5 σ M => l_X9_firstSetOf_42 f x1 x2 x3 x4 x5 σ M) g_FU (iN i) (iN s) (iN (T i s)) (iN ((i + 1) * 2 ^ m)) (iN a) (iN 0) σ M := by
      rw [l_X9_firstSetOf_42, hW.1.1, if_pos (by rw [iN_lt (by omega) (by omega)]; omega)]
      rfl
    rcases l_fs54 (K := fun x1 x2 x3 x4 x5 σ M => l_X9_firstSetOf_42 f x1 x2 x3 x4 x5 σ M) hW hi (show a < m by omega) hs hta hlen hl hsz hT hV (a + 1) 0 g_FU (by omega) (by unfold g_FU; omega) (fun k' hk' => by omega) with ⟨k0, q1, q2, q3, q4⟩ | ⟨q1, q2⟩
    · exact ⟨a, k0, by omega, q1, q2, q3, hno, by rw [st]; exact q4⟩
    · obtain ⟨a0, k0, r1, r2, r3, r4, r5, r6⟩ := ih (a + 1) f (by omega) (by omega) (fun a' b' h1 h2 => by
        by_cases c : a' = a
        · obtain ⟨k, hk, e⟩ := bO_all h2
          rw [← e, c]
          rw [c] at hk
          exact q1 k hk
        · exact hno a' b' (by omega) h2)
      exact ⟨a0, k0, r1, r2, r3, r4, r5, by rw [st, q2]; exact r6⟩
/-- the class's first set of a row -/
theorem first_c {σ : gS} {M M0 : gM} {t m q aim i s ta len : Nat} {g e : Nat → Nat} {T : Nat → Nat → Nat} (hW : hasW σ M M0 t m q g e aim) (hi : i < q) (hs : s < 2 ^ m) (hta : σ.2 12 13 = ta) (hlen : σ.1 ta = some (14, len)) (hl : len < 100000) (hsz : (q + 1) * 2 ^ m ≤ len) (hT : isTab m q (okW M0 t g e) (wW M0 t g e aim) T) (hV : hasT M ta m q T) : (T (i + 1) s = T i s ∧ f_X9_firstSetOf (iN i) (iN s) σ M = some (iN 0)) ∨ (T (i + 1) s ≠ T i s ∧ ∃ a0 k0, a0 < m ∧ k0 ≤ a0 ∧ goodC (okW M0 t g e i) (wW M0 t g e aim i) (T i) (T (i + 1)) s a0 (bO a0 k0) ∧ (∀ k', k' < k0 → ¬ goodC (okW M0 t g e i) (wW M0 t g e aim i) (T i) (T (i + 1)) s a0 (bO a0 k')) ∧ (∀ a' b', a' < a0 → b' ≤ a' → ¬ goodC (okW M0 t g e i) (wW M0 t g e aim i) (T i) (T (i + 1)) s a' b') ∧ f_X9_firstSetOf (iN i) (iN s) σ M = some (iN (2 ^ a0 ||| 2 ^ bO a0 k0))) := by
  have hm := hW.2.2.2.2.1
  have hq := hW.2.2.2.2.2.1
  have hW1 : 2 ^ m ≤ 2 ^ 10 := Nat.pow_le_pow_right (by omega) hm
  have hW2 : 2 ^ 10 = 1024 := rfl
  have m1 : (i + 1) * 2 ^ m = i * 2 ^ m + 2 ^ m := Nat.succ_mul i _
  have m2 : (i + 1) * 2 ^ m + 2 ^ m ≤ (q + 1) * 2 ^ m := by
    rw [← Nat.succ_mul]
    exact Nat.mul_le_mul_right _ (by omega)
  have Ti := hT.2.1 i s (by omega) hs
  have Tn := hT.2.1 (i + 1) s (by omega) hs
  have st : f_X9_firstSetOf (iN i) (iN s) σ M = if iN (T (i + 1) s) = iN (T i s) then some 0 else l_X9_firstSetOf_42 g_FU (iN i) (iN s) (iN (T i s)) (iN ((i + 1) * 2 ^ m)) (iN 0) σ M := by
    unfold f_X9_firstSetOf b_X9_firstSetOf_0
    rw [hta, if_pos (show g_is σ ta 14 = true by rw [is_of hlen]; trivial), hW.1.1, eS, show iN i <<< (iN m &&& 31) = iN (i * 2 ^ m) from iN_shl (by omega), show iN (i + 1) <<< (iN m &&& 31) = iN ((i + 1) * 2 ^ m) from iN_shl (by omega), iN_add, iN_add, ln_of hlen, if_pos (show g_in (iN (i * 2 ^ m + s)) len = true by rw [iN_in (by omega)]; omega), if_pos (show g_in (iN ((i + 1) * 2 ^ m + s)) len = true by rw [iN_in (by omega)]; omega), iN_cl (by omega), iN_cl (by omega), hV i s (by omega) hs, hV (i + 1) s (by omega) hs]
    rfl
  by_cases c : T (i + 1) s = T i s
  · exact Or.inl ⟨c, by rw [st, if_pos (by rw [c])]; rfl⟩
  · refine Or.inr ⟨c, ?_⟩
    obtain ⟨z1, z2, z3⟩ := hT.2.2 i s hi hs
    have hex : ∃ a b, b ≤ a ∧ a < m ∧ goodC (okW M0 t g e i) (wW M0 t g e aim i) (T i) (T (i + 1)) s a b := by
      rcases z3 with z3 | ⟨a, b, a1, a2, a3, a4, a5⟩
      · exact absurd z3.symm c
      · exact ⟨a, b, a1, a2, a3, a4, a5.symm⟩
    obtain ⟨a0, k0, r1, r2, r3, r4, r5, r6⟩ := l_fs42 hW hi hs hta hlen hl hsz hT hV hex m 0 g_FU (by omega) (by unfold g_FU; omega) (fun a' b' h => by omega)
    exact ⟨a0, k0, r1, r2, r3, r4, r5, by rw [st, if_neg (by rw [iN_inj (by omega) (by omega)]; exact c)]; exact r6⟩
/-- the class writes a row's room -/
theorem l_rp50 {σ : gS} {M0 : gM} {t m q aim i x s : Nat} {g e : Nat → Nat} {K : Int32 → Int32 → gS → gM → Option gM} (hi : i < q) (hx : x < 1024) : ∀ k j f M, j + k = m → k < f → hasW σ M M0 t m q g e aim → ∃ M', l_X9_readPlan_50 K f (iN s) (iN i) (iN x) (iN j) σ M = K (iN (bd s x)) (iN (i + 1)) σ M' ∧ (∀ u, j ≤ u → u < m → x.testBit u = true → M' 13 (g u) = iN (e i)) ∧ (∀ p, (∀ u, j ≤ u → u < m → x.testBit u = true → g u ≠ p) → M' 13 p = M 13 p) ∧ ∀ a j, a ≠ 13 → M' a j = M a j := by
  intro k
  induction k with
  | zero =>
    intro j f M hj hf hW
    obtain ⟨f, rfl⟩ : ∃ m, f = m + 1 := ⟨f - 1, by omega⟩
    have hm := hW.2.2.2.2.1
    refine ⟨M, ?_, fun u h1 h2 => by omega, fun _ _ => rfl, fun _ _ _ => rfl⟩
    rw [l_X9_readPlan_50, hW.1.1, if_neg (by rw [iN_lt (by omega) (by omega)]; omega), show (-1 : Int32) = iM from rfl, iN_bd, eS]
  | succ k ih =>
    intro j f M hj hf hW
    obtain ⟨f, rfl⟩ : ∃ m, f = m + 1 := ⟨f - 1, by omega⟩
    have hm := hW.2.2.2.2.1
    have hq := hW.2.2.2.2.2.1
    have hg := hW.2.2.2.2.2.2.2.1 j (by omega)
    rw [l_X9_readPlan_50, hW.1.1, if_pos (by rw [iN_lt (by omega) (by omega)]; omega)]
    unfold b_X9_readPlan_86
    rw [eS]
    cases c : x.testBit j with
    | false =>
      rw [if_pos (by rw [iN_bit0 (by omega) (by omega)]; exact c)]
      obtain ⟨M', q1, q2, q3, q4⟩ := ih (j + 1) f M (by omega) (by omega) hW
      refine ⟨M', q1, fun u h1 h2 h3 => ?_, fun p hp => q3 p (fun u h1 h2 h3 => hp u (by omega) h2 h3), q4⟩
      by_cases e1 : u = j
      · rw [e1, c] at h3; cases h3
      · exact q2 u (by omega) h2 h3
    | true =>
      rw [if_neg (by rw [iN_bit0 (by omega) (by omega), c]; decide), if_pos (by rw [iN_in (by omega)]; omega), if_pos (by rw [iN_in (by omega)]; omega), iN_cl (by omega), (hW.1.2 j (by omega)).1, if_pos (by rw [iN_in (by omega)]; exact hg), iN_cl (by omega), iN_cl (by omega), (hW.2.1.2 i hi).1]
      have keep : hasW σ (g_up M 13 (g j) (iN (e i))) M0 t m q g e aim := by
        obtain ⟨h1, h2, h3, h4, h5, h6, h7, h8, h9⟩ := hW
        refine ⟨h1.keep (fun a j h => g_up_ne _ _ (by omega)), ⟨by rw [g_up_ne _ _ (by omega)]; exact h2.1, fun i hi => by rw [g_up_ne _ _ (by omega)]; exact h2.2 i hi⟩, by rw [g_up_ne _ _ (by omega)]; exact h3, h4, h5, h6, h7, h8, fun i hi => ?_⟩
        have := h9 i hi
        rw [g_up_ne _ _ (by omega), g_up_ne _ _ (by omega), g_up_ne _ _ (by omega)]
        exact this
      obtain ⟨M', q1, q2, q3, q4⟩ := ih (j + 1) f (g_up M 13 (g j) (iN (e i))) (by omega) (by omega) keep
      have glt := hW.2.2.2.2.2.2.1
      refine ⟨M', q1, fun u h1 h2 h3 => ?_, fun p hp => ?_, fun a j h => by rw [q4 a j h, g_up_ne _ _ (by omega)]⟩
      · by_cases e1 : u = j
        · rw [e1, q3 (g j) (fun u' h1' h2' _ => by have := glt j u' (by omega) h2'; omega), g_up_eq _ _ ⟨rfl, rfl⟩]
        · exact q2 u (by omega) h2 h3
      · rw [q3 p (fun u h1 h2 h3 => hp u (by omega) h2 h3), g_up_ne _ _ (by have := hp j (Nat.le_refl _) (by omega) c; omega)]
