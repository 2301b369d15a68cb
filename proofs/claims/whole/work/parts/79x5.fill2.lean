/-! settle, most: the class's table, all rows. -/
theorem Zr.congr {m i : Nat} {ok : Nat → Nat → Prop} {w : Nat → Nat → Nat} {V V' : Nat → Nat} (h : Zr m i ok w V (fun s => V ((i + 1) * 2 ^ m + s)) (fun _ _ => True)) (k : ∀ j, i * 2 ^ m ≤ j → V' j = V j) : Zr m i ok w V' (fun s => V' ((i + 1) * 2 ^ m + s)) (fun _ _ => True) := by
  have m1 : (i + 1) * 2 ^ m = i * 2 ^ m + 2 ^ m := Nat.succ_mul i _
  have hW0 : 1 ≤ 2 ^ m := Nat.one_le_two_pow
  have e1 : ∀ s, V' (i * 2 ^ m + s) = V (i * 2 ^ m + s) := fun s => k _ (by omega)
  have e2 : ∀ s, V' ((i + 1) * 2 ^ m + s) = V ((i + 1) * 2 ^ m + s) := fun s => k _ (by omega)
  intro s hs
  simp only [e1, e2]
  exact h s hs
theorem l_ft75 {σ : gS} {M0 : gM} {t m q aim ta len : Nat} {g e : Nat → Nat} {N : gN} (ht : t < 6) (hta36 : ta = 36 ∨ 10000 ≤ ta) (hta : σ.2 12 13 = ta) (hlen : σ.1 ta = some (14, len)) (hl : len < 100000) (hsz : (q + 1) * 2 ^ m ≤ len) : ∀ k f M V, k ≤ q → k < f → hasW σ M M0 t m q g e aim → tabV M ta (k * 2 ^ m) ((q + 1) * 2 ^ m) V → (∀ i, k ≤ i → i < q → Zr m i (okW M0 t g e i) (wW M0 t g e aim i) V (fun s => V ((i + 1) * 2 ^ m + s)) (fun _ _ => True)) → ∃ M' V', l_X9_fillTable_75 f (iN k - 1) σ M N = some (σ, M', N) ∧ tabV M' ta 0 ((q + 1) * 2 ^ m) V' ∧ (∀ i, i < q → Zr m i (okW M0 t g e i) (wW M0 t g e aim i) V' (fun s => V' ((i + 1) * 2 ^ m + s)) (fun _ _ => True)) ∧ (∀ j, q * 2 ^ m ≤ j → V' j = V j) ∧ ∀ a j, a ≠ ta → M' a j = M a j := by
  intro k
  induction k with
  | zero =>
    intro f M V hk hf hW hV hZ
    obtain ⟨f, rfl⟩ : ∃ m, f = m + 1 := ⟨f - 1, by omega⟩
    refine ⟨M, V, ?_, by rw [Nat.zero_mul] at hV; exact hV, fun i hi => hZ i (by omega) hi, fun _ _ => rfl, fun _ _ _ => rfl⟩
    rw [l_X9_fillTable_75, if_pos (by decide)]
  | succ k ih =>
    intro f M V hk hf hW hV hZ
    obtain ⟨f, rfl⟩ : ∃ m, f = m + 1 := ⟨f - 1, by omega⟩
    have hq := hW.2.2.2.2.2.1
    obtain ⟨M1, V1, u1, u2, u3, u4, u5⟩ := fillRow_c (i := k) ht hta36 (by omega) hta hlen hl hsz hW hV
    have m1 : (k + 1) * 2 ^ m = k * 2 ^ m + 2 ^ m := Nat.succ_mul k _
    obtain ⟨M', V', q1, q2, q3, q4, q5⟩ := ih f M1 V1 (by omega) (by omega) (hW.keep ht hta36 u5) u2 (fun i h1 h2 => by
      by_cases c : i = k
      · rw [c]; exact u3
      · have : (k + 1) * 2 ^ m ≤ i * 2 ^ m := Nat.mul_le_mul_right _ (by omega)
        exact (hZ i (by omega) h2).congr (fun j hj => u4 j (by omega)))
    have hqk : (k + 1) * 2 ^ m ≤ q * 2 ^ m := Nat.mul_le_mul_right _ (by omega)
    refine ⟨M', V', ?_, q2, q3, fun j hj => by rw [q4 j hj, u4 j (by omega)], fun a j h => by rw [q5 a j h, u5 a j h]⟩
    rw [l_X9_fillTable_75, show iN (k + 1) - (1 : Int32) = iN k from iN_sub (b := 1) (by omega), if_neg (iN_nneg (by omega)), u1, oB, show iN k + (-1 : Int32) = iN k - 1 from (Int32.sub_eq_add_neg _ _).symm]
    exact q1
theorem l_ft49 {σ : gS} {m q sz ta len : Nat} {N : gN} (hta : σ.2 12 13 = ta) (hlen : σ.1 ta = some (14, len)) (hl : len < 100000) (hsz : sz ≤ len) (h12 : ta ≠ 12) : ∀ k j f M, j + k = sz → k < f → q * 2 ^ m < j → M ta (q * 2 ^ m) = iN 0 → (∀ i, q * 2 ^ m < i → i < j → M ta i = iN 268435456) → ∃ M', l_X9_fillTable_49 f (iN sz) (iN j) σ M N = l_X9_fillTable_75 g_FU (M 12 10 - 1) σ M' N ∧ M' ta (q * 2 ^ m) = iN 0 ∧ (∀ i, q * 2 ^ m < i → i < sz → M' ta i = iN 268435456) ∧ ∀ a j, a ≠ ta → M' a j = M a j := by
  intro k
  induction k with
  | zero =>
    intro j f M hj hf hq h0 hN
    obtain ⟨f, rfl⟩ : ∃ m, f = m + 1 := ⟨f - 1, by omega⟩
    refine ⟨M, ?_, h0, fun i h1 h2 => hN i h1 (by omega), fun _ _ _ => rfl⟩
    rw [l_X9_fillTable_49, if_neg (by rw [iN_lt (by omega) (by omega)]; omega)]
  | succ k ih =>
    intro j f M hj hf hq h0 hN
    obtain ⟨f, rfl⟩ : ∃ m, f = m + 1 := ⟨f - 1, by omega⟩
    obtain ⟨M', q1, q2, q3, q4⟩ := ih (j + 1) f (g_up M ta j (iN 268435456)) (by omega) (by omega) (by omega) (by rw [g_up_ne _ _ (by omega)]; exact h0) (fun i h1 h2 => by
      by_cases c : i = j
      · exact g_up_eq _ _ ⟨rfl, c⟩
      · rw [g_up_ne _ _ (by omega)]; exact hN i h1 (by omega))
    refine ⟨M', ?_, q2, q3, fun a j h => by rw [q4 a j h, g_up_ne _ _ (by omega)]⟩
    rw [g_up_ne (b := 12) _ _ (by omega)] at q1
    rw [l_X9_fillTable_49, if_pos (by rw [iN_lt (by omega) (by omega)]; omega), hta, if_pos (show g_is σ ta 14 = true by rw [is_of hlen]; trivial), ln_of hlen, if_pos (by rw [iN_in (by omega)]; omega), eS, iN_cl (by omega)]
    exact q1
/-- the class's table: row i at the set s -/
def isTab (m q : Nat) (ok : Nat → Nat → Nat → Prop) (w : Nat → Nat → Nat → Nat) (T : Nat → Nat → Nat) : Prop := (∀ s, s < 2 ^ m → T q s = if s = 0 then 0 else 268435456) ∧ (∀ i s, i ≤ q → s < 2 ^ m → T i s ≤ 268435456) ∧ ∀ i s, i < q → s < 2 ^ m → T i s ≤ T (i + 1) s ∧ (∀ a b, b ≤ a → a < m → ok i a b → bd (2 ^ a ||| 2 ^ b) s = 0 → T i s ≤ w i a b + T (i + 1) (bd s (2 ^ a ||| 2 ^ b))) ∧ (T i s = T (i + 1) s ∨ ∃ a b, b ≤ a ∧ a < m ∧ ok i a b ∧ bd (2 ^ a ||| 2 ^ b) s = 0 ∧ T i s = w i a b + T (i + 1) (bd s (2 ^ a ||| 2 ^ b)))
theorem fill28 {σ : gS} {M M0 : gM} {t m q aim ta len : Nat} {g e : Nat → Nat} {N : gN} (ht : t < 6) (hta36 : ta = 36 ∨ 10000 ≤ ta) (hta : σ.2 12 13 = ta) (hlen : σ.1 ta = some (14, len)) (hl : len < 100000) (hsz : (q + 1) * 2 ^ m ≤ len) (hW : hasW σ M M0 t m q g e aim) : ∃ M' T, b_X9_fillTable_28 (iN ((q + 1) * 2 ^ m)) σ M N = some (σ, M', N) ∧ (∀ i s, i ≤ q → s < 2 ^ m → M' ta (i * 2 ^ m + s) = iN (T i s)) ∧ isTab m q (okW M0 t g e) (wW M0 t g e aim) T ∧ ∀ a j, a ≠ ta → M' a j = M a j := by
  have hm := hW.2.2.2.2.1
  have hq := hW.2.2.2.2.2.1
  have hW0 : 1 ≤ 2 ^ m := Nat.one_le_two_pow
  have m1 : (q + 1) * 2 ^ m = q * 2 ^ m + 2 ^ m := Nat.succ_mul q _
  have p2 : iN q <<< (iN m &&& 31) = iN (q * 2 ^ m) := iN_shl (by omega)
  obtain ⟨M1, u1, u2, u3, u4⟩ := l_ft49 (σ := σ) (N := N) (q := q) (m := m) hta hlen hl hsz (by omega) ((q + 1) * 2 ^ m - (q * 2 ^ m + 1)) (q * 2 ^ m + 1) g_FU (g_up M ta (q * 2 ^ m) (iN 0)) (by omega) (by unfold g_FU; omega) (by omega) (g_up_eq _ _ ⟨rfl, rfl⟩) (fun i h1 h2 => by omega)
  have fr1 : ∀ a j, a ≠ ta → M1 a j = M a j := fun a j h => by rw [u4 a j h, g_up_ne _ _ (by omega)]
  have hW' := hW.keep ht hta36 fr1
  obtain ⟨M2, V, w1, w2, w3, w4, w5⟩ := l_ft75 (N := N) ht hta36 hta hlen hl hsz q g_FU M1 (fun j => if j = q * 2 ^ m then 0 else 268435456) (Nat.le_refl _) (by unfold g_FU; omega) hW' (fun j h1 h2 => by
    show M1 ta j = iN (if j = q * 2 ^ m then 0 else 268435456) ∧ (if j = q * 2 ^ m then 0 else 268435456) ≤ 268435456
    by_cases c : j = q * 2 ^ m
    · rw [if_pos c, c]; exact ⟨u2, by omega⟩
    · rw [if_neg c]; exact ⟨u3 j (by omega) h2, Nat.le_refl _⟩) (fun i h1 h2 => by omega)
  have idx : ∀ i s, i ≤ q → s < 2 ^ m → i * 2 ^ m + s < (q + 1) * 2 ^ m := fun i s h1 h2 => by
    have : i * 2 ^ m ≤ q * 2 ^ m := Nat.mul_le_mul_right _ h1
    omega
  refine ⟨M2, fun i s => V (i * 2 ^ m + s), ?_, fun i s h1 h2 => (w2 _ (Nat.zero_le _) (idx i s h1 h2)).1, ⟨fun s hs => ?_, fun i s h1 h2 => (w2 _ (Nat.zero_le _) (idx i s h1 h2)).2, fun i s hi hs => ?_⟩, fun a j h => by rw [w5 a j h, fr1 a j h]⟩
  · unfold b_X9_fillTable_28
    rw [hta, if_pos (show g_is σ ta 14 = true by rw [is_of hlen]; trivial), hW.2.1.1, hW.1.1, p2, ln_of hlen, if_pos (by rw [iN_in (by omega)]; omega), eS, iN_cl (by omega)]
    refine (show l_X9_fillTable_49 g_FU (iN ((q + 1) * 2 ^ m)) (iN (q * 2 ^ m + 1)) σ (g_up M ta (q * 2 ^ m) 0) N = _ from u1).trans ?_
    rw [g_up_ne (b := 12) _ _ (by omega), hW.2.1.1]
    exact w1
  · show V (q * 2 ^ m + s) = _
    rw [w4 _ (by omega)]
    by_cases c : s = 0
    · rw [if_pos c, if_pos (by omega)]
    · rw [if_neg c, if_neg (by omega)]
  · obtain ⟨z1, z2, z3⟩ := w3 i hi s hs
    exact ⟨z1, fun a b h1 h2 h3 h4 => z2 a b trivial h1 h2 h3 h4, z3⟩
theorem fill_c {σ : gS} {M M0 : gM} {N : gN} {t m q aim : Nat} {g e : Nat → Nat} (ht : t < 6) (hB : lyB σ) (hC : g_layC σ) (hW : hasW σ M M0 t m q g e aim) : ∃ σ1 M1 N1 ta len T, f_X9_fillTable σ M N = some (σ1, M1, N1) ∧ lyB σ1 ∧ g_layC σ1 ∧ (∀ a, ¬ (10000 ≤ a ∧ a ≤ 21264) → σ1.1 a = σ.1 a) ∧ (∀ a j, ¬ (10000 ≤ a ∧ a ≤ 21264) → ¬ (a = 12 ∧ j = 13) → σ1.2 a j = σ.2 a j) ∧ σ1.2 12 13 = ta ∧ σ1.1 ta = some (14, len) ∧ (ta = 36 ∨ (10000 ≤ ta ∧ ta ≤ 21264)) ∧ (q + 1) * 2 ^ m ≤ len ∧ len ≤ 11264 ∧ (∀ i s, i ≤ q → s < 2 ^ m → M1 ta (i * 2 ^ m + s) = iN (T i s)) ∧ isTab m q (okW M0 t g e) (wW M0 t g e aim) T ∧ hasW σ1 M1 M0 t m q g e aim ∧ ∀ a j, ¬ (a = 36 ∨ (10000 ≤ a ∧ a ≤ 21264)) → M1 a j = M a j := by
  have hm := hW.2.2.2.2.1
  have hq := hW.2.2.2.2.2.1
  have hW1 : 2 ^ m ≤ 2 ^ 10 := Nat.pow_le_pow_right (by omega) hm
  have hW0 : 1 ≤ 2 ^ m := Nat.one_le_two_pow
  have hW2 : 2 ^ 10 = 1024 := rfl
  obtain ⟨ta, len, b1, b2, b3, b4, b5⟩ := hB
  have hsz : (q + 1) * 2 ^ m ≤ 11264 := by
    have : (q + 1) * 2 ^ m ≤ 11 * 1024 := Nat.mul_le_mul (by omega) (by omega)
    omega
  have hs1 : 1 ≤ (q + 1) * 2 ^ m := by
    have : (0 + 1) * 1 ≤ (q + 1) * 2 ^ m := Nat.mul_le_mul (by omega) hW0
    omega
  have p3 : iN (q + 1) <<< (iN m &&& 31) = iN ((q + 1) * 2 ^ m) := iN_shl (by omega)
  generalize hsg : (q + 1) * 2 ^ m = sz at *
  have start : f_X9_fillTable σ M N = if iN len < iN sz then if g_fr σ (10000 + sz) = true then if g_nn (iN sz) 11264 = true then if g_layCB (g_nS σ (10000 + sz) 14 sz) = true then if g_layCB (g_pS (g_nS σ (10000 + sz) 14 sz) 12 13 (10000 + sz)) = true then b_X9_fillTable_28 (iN sz) (g_pS (g_nS σ (10000 + sz) 14 sz) 12 13 (10000 + sz)) (g_z M (10000 + sz) 0) (g_z N (10000 + sz) 0) else none else none else none else none else b_X9_fillTable_28 (iN sz) σ M N := by
    unfold f_X9_fillTable b_X9_fillTable_0
    rw [b1, if_pos (show g_is σ ta 14 = true by rw [is_of b2]; trivial), ln_of b2, hW.2.1.1, hW.1.1, eS, p3, iN_cl (by omega)]
    rfl
  by_cases big : len < sz
  · let S : gS := g_pS (g_nS σ (10000 + sz) 14 sz) 12 13 (10000 + sz)
    have s1 : ∀ b, b ≠ 10000 + sz → S.1 b = σ.1 b := fun b h => by show (g_nS σ (10000 + sz) 14 sz).1 b = _; exact nS1_ne h
    have s1e : S.1 (10000 + sz) = some (14, sz) := nS1_eq rfl
    have s2 : ∀ b k, b ≠ 10000 + sz → ¬ (b = 12 ∧ k = 13) → S.2 b k = σ.2 b k := fun b k h1 h2 => by show (g_pS (g_nS σ (10000 + sz) 14 sz) 12 13 (10000 + sz)).2 b k = _; rw [pS2_ne h2, nS2_ne h1]
    have s2e : S.2 12 13 = 10000 + sz := pS2_eq ⟨rfl, rfl⟩
    have hl1 : g_layC (g_nS σ (10000 + sz) 14 sz) := layC_nS hC (by omega)
    have hl2 : g_layC S := layC_pS hl1 (by omega)
    have free : σ.1 (10000 + sz) = none := b5 sz big hsz
    have hWS : hasW S (g_z M (10000 + sz) 0) M0 t m q g e aim := by
      have := hW.keep (M' := g_z M (10000 + sz) 0) ht (Or.inr (show 10000 ≤ 10000 + sz by omega)) (fun a j h => g_z_ne _ _ _ h)
      obtain ⟨h1, h2, h3, h4, h5, h6, h7, h8, h9⟩ := this
      exact ⟨h1, ⟨h2.1, fun i hi => by rw [s2 _ _ (by omega) (by omega)]; exact h2.2 i hi⟩, h3, h4, h5, h6, h7, h8, fun i hi => by have := h9 i hi; rw [s1 _ (by omega)]; exact this⟩
    obtain ⟨M', T, u1, u2, u3, u4⟩ := fill28 (N := g_z N (10000 + sz) 0) ht (Or.inr (show 10000 ≤ 10000 + sz by omega)) s2e s1e (by omega) (by omega) hWS
    refine ⟨S, M', g_z N (10000 + sz) 0, 10000 + sz, sz, T, ?_, ⟨10000 + sz, sz, s2e, s1e, hsz, Or.inr rfl, fun k h1 h2 => by rw [s1 _ (by omega)]; exact b5 k (by omega) h2⟩, hl2, fun a h => s1 a (by omega), fun a j h1 h2 => s2 a j (by omega) h2, s2e, s1e, by omega, Nat.le_refl _, hsz, u2, u3, hWS.keep ht (Or.inr (show 10000 ≤ 10000 + sz by omega)) u4, fun a j h => by rw [u4 a j (by omega), g_z_ne _ _ _ (by omega)]⟩
    rw [start, if_pos (by rw [iN_lt (by omega) (by omega)]; exact big), if_pos (by rw [fr_of (by omega) (by omega) free]; trivial), if_pos (show g_nn (iN sz) 11264 = true by unfold g_nn; rw [decide_eq_true (iN_nneg (by omega)), iN_cl (by omega), decide_eq_true hsz]; rfl), if_pos (by rw [layCB_of hl1]; trivial), if_pos (by rw [layCB_of (show g_layC (g_pS (g_nS σ (10000 + sz) 14 sz) 12 13 (10000 + sz)) from hl2)]; trivial), ← hsg]
    rw [hsg]
    have := u1
    rw [hsg] at this
    exact this
  · obtain ⟨M', T, u1, u2, u3, u4⟩ := fill28 (N := N) ht (show ta = 36 ∨ 10000 ≤ ta by omega) b1 b2 (by omega) (by omega) hW
    refine ⟨σ, M', N, ta, len, T, ?_, ⟨ta, len, b1, b2, b3, b4, b5⟩, hC, fun _ _ => rfl, fun _ _ _ _ => rfl, b1, b2, by omega, by omega, b3, u2, u3, hW.keep ht (show ta = 36 ∨ 10000 ≤ ta by omega) u4, fun a j h => u4 a j (by omega)⟩
    rw [start, if_neg (by rw [iN_lt (by omega) (by omega)]; exact big)]
    have := u1
    rw [hsg] at this
    exact this
