/-! settle: the model's table. -/
def stepL (rest : Nat → Nat) (w : Nat → Nat) (S best x : Nat) : Nat := if bd x S = 0 then (if rest (bd S x) = 1073741824 then best else if rest (bd S x) + w x < best then rest (bd S x) + w x else best) else best
def LFs (mo : Nat → List Nat) (w : Nat → Nat → Nat) (n : Nat) : Nat → Nat → Nat
  | 0, S => if S = 0 then 0 else 1073741824
  | k + 1, S => (mo (n - 1 - k)).foldl (stepL (LFs mo w n k) (w (n - 1 - k)) S) 1073741824
noncomputable def LT (M0 : gM) (P t n how r S : Nat) : Nat := LFs (mlist M0 P t) (wM M0 P t how) n (n - r) S
theorem stepL_le (rest : Nat → Nat) (w : Nat → Nat) (S best x : Nat) : stepL rest w S best x ≤ best := by
  unfold stepL
  split
  · split
    · omega
    · split <;> omega
  · omega
theorem foldL (rest : Nat → Nat) (w : Nat → Nat) (S : Nat) : ∀ (l : List Nat) (b : Nat), l.foldl (stepL rest w S) b ≤ b ∧ (∀ x, x ∈ l → bd x S = 0 → rest (bd S x) ≠ 1073741824 → l.foldl (stepL rest w S) b ≤ rest (bd S x) + w x) ∧ (l.foldl (stepL rest w S) b = b ∨ ∃ x, x ∈ l ∧ bd x S = 0 ∧ rest (bd S x) ≠ 1073741824 ∧ l.foldl (stepL rest w S) b = rest (bd S x) + w x) := by
  intro l
  induction l with
  | nil => intro b; exact ⟨Nat.le_refl _, fun x hx => absurd hx (List.not_mem_nil), Or.inl rfl⟩
  | cons y l ih =>
    intro b
    obtain ⟨h1, h2, h3⟩ := ih (stepL rest w S b y)
    have hb := stepL_le rest w S b y
    rw [List.foldl_cons]
    refine ⟨by omega, fun x hx e1 e2 => ?_, ?_⟩
    · rcases List.mem_cons.mp hx with e | e
      · have : stepL rest w S b y ≤ rest (bd S x) + w x := by
          unfold stepL
          rw [← e, if_pos e1, if_neg e2]
          split <;> omega
        omega
      · exact h2 x e e1 e2
    · rcases h3 with h3 | ⟨x, e1, e2, e3, e4⟩
      · by_cases c : bd y S = 0 ∧ rest (bd S y) ≠ 1073741824 ∧ rest (bd S y) + w y < b
        · refine Or.inr ⟨y, List.mem_cons_self, c.1, c.2.1, ?_⟩
          rw [h3]
          unfold stepL
          rw [if_pos c.1, if_neg c.2.1, if_pos c.2.2]
        · refine Or.inl ?_
          rw [h3]
          unfold stepL
          by_cases c1 : bd y S = 0
          · rw [if_pos c1]
            by_cases c2 : rest (bd S y) = 1073741824
            · rw [if_pos c2]
            · rw [if_neg c2, if_neg (fun q => c ⟨c1, c2, q⟩)]
          · rw [if_neg c1]
      · exact Or.inr ⟨x, List.mem_cons_of_mem _ e1, e2, e3, e4⟩
theorem mlist_mem {M0 : gM} {P t r X : Nat} : X ∈ mlist M0 P t r ↔ X < 1024 ∧ moB M0 P t r X = true := by
  unfold mlist
  rw [List.mem_filter, List.mem_range]
theorem LT_n {M0 : gM} {P t n how S : Nat} : LT M0 P t n how n S = if S = 0 then 0 else 1073741824 := by
  unfold LT
  rw [Nat.sub_self]; rfl
theorem LT_r {M0 : gM} {P t n how r S : Nat} (hr : r < n) : LT M0 P t n how r S = (mlist M0 P t r).foldl (stepL (LT M0 P t n how (r + 1)) (wM M0 P t how r) S) 1073741824 := by
  unfold LT
  obtain ⟨k, hk⟩ : ∃ k, n - r = k + 1 := ⟨n - r - 1, by omega⟩
  rw [hk, LFs, show n - 1 - k = r by omega]
  have : (fun S => LFs (mlist M0 P t) (wM M0 P t how) n (n - (r + 1)) S) = LFs (mlist M0 P t) (wM M0 P t how) n k := by
    rw [show n - (r + 1) = k by omega]
  show _ = List.foldl (stepL (fun S => LFs (mlist M0 P t) (wM M0 P t how) n (n - (r + 1)) S) (wM M0 P t how r) S) 1073741824 (mlist M0 P t r)
  rw [this]
theorem LT_is {M0 : gM} {P t n how r S : Nat} (hr : r < n) : LT M0 P t n how r S ≤ 1073741824 ∧ (∀ X, X < 1024 → moB M0 P t r X = true → bd X S = 0 → LT M0 P t n how (r + 1) (bd S X) ≠ 1073741824 → LT M0 P t n how r S ≤ LT M0 P t n how (r + 1) (bd S X) + wM M0 P t how r X) ∧ (LT M0 P t n how r S = 1073741824 ∨ ∃ X, X < 1024 ∧ moB M0 P t r X = true ∧ bd X S = 0 ∧ LT M0 P t n how (r + 1) (bd S X) ≠ 1073741824 ∧ LT M0 P t n how r S = LT M0 P t n how (r + 1) (bd S X) + wM M0 P t how r X) := by
  obtain ⟨h1, h2, h3⟩ := foldL (LT M0 P t n how (r + 1)) (wM M0 P t how r) S (mlist M0 P t r) 1073741824
  rw [← LT_r hr] at h1 h2 h3
  refine ⟨h1, fun X x1 x2 x3 x4 => h2 X (mlist_mem.mpr ⟨x1, x2⟩) x3 x4, ?_⟩
  rcases h3 with h3 | ⟨x, e1, e2, e3, e4⟩
  · exact Or.inl h3
  · exact Or.inr ⟨x, (mlist_mem.mp e1).1, (mlist_mem.mp e1).2, e2, e3, e4⟩
theorem LT_le {M0 : gM} {P t n how r S : Nat} (hr : r ≤ n) : LT M0 P t n how r S ≤ 1073741824 := by
  by_cases c : r = n
  · rw [c, LT_n]; split <;> omega
  · exact (LT_is (show r < n by omega)).1
theorem l_s109 {σ : gS} {M M0 : gM} {P t n how r S : Nat} {x3 : Int32} {K86 : Int32 → Int32 → Int32 → Int32 → gS → gM → Option (Int32 × gM)} {K94 : Int32 → Int32 → Int32 → Int32 → Int32 → gS → gM → Option (Int32 × gM)} (hC : mCx M0 P t n) (hr : r < n) (hS : S < 1024) (hh : how ≤ 1) (fr : frM M M0) (hs : hasS M M0 P t n) (h67 : ∀ S, S < 1024 → M 67 (1024 * (r + 1) + S) = iN (LT M0 P t n how (r + 1) S)) : ∀ k j f best, j + k = (mlist M0 P t r).length → k < f → best ≤ 1073741824 → l_X12_settle_109 K86 K94 f (iN t) (iN how) x3 (iN r) (iN S) (iN best) (iN j) σ M = K94 (iN t) (iN how) x3 (iN r) (iN (S + 1)) σ (g_up M 67 (1024 * r + S) (iN (((mlist M0 P t r).drop j).foldl (stepL (LT M0 P t n how (r + 1)) (wM M0 P t how r) S) best))) := by
  have hC' := hC
  obtain ⟨c1, c2, c3, c4, c5, c6⟩ := hC'
  have gr : g_in (iN r) 10 = true := by rw [iN_in (by omega)]; omega
  obtain ⟨s1, s2⟩ := hs r hr
  have hl := mo_len hC hr (Nat.le_refl 1024)
  have hl' : (mlist M0 P t r).length ≤ 56 := hl
  intro k
  induction k with
  | zero =>
    intro j f best hj hf hb
    obtain ⟨f, rfl⟩ : ∃ m, f = m + 1 := ⟨f - 1, by omega⟩
    rw [l_X12_settle_109, if_pos gr, iN_cl (by omega), s1, if_neg (by rw [iN_lt (by omega) (by omega)]; omega), show (1024 : Int32) * iN r + iN S = iN (1024 * r + S) from by rw [show (1024 : Int32) = iN 1024 from rfl, iN_mul, iN_add], if_pos (by rw [iN_in (by omega)]; omega), iN_cl (by omega), eS, List.drop_of_length_le (by omega), List.foldl_nil]
  | succ k ih =>
    intro j f best hj hf hb
    obtain ⟨f, rfl⟩ : ∃ m, f = m + 1 := ⟨f - 1, by omega⟩
    have hjl : j < (mlist M0 P t r).length := by omega
    have eX : (mlist M0 P t r).getD j 0 = (mlist M0 P t r)[j] := by simp [List.getD, List.getElem?_eq_getElem hjl]
    have eD : (mlist M0 P t r).drop j = (mlist M0 P t r).getD j 0 :: (mlist M0 P t r).drop (j + 1) := by rw [eX]; exact List.drop_eq_getElem_cons hjl
    have hX : (mlist M0 P t r).getD j 0 < 1024 := by rw [eX]; exact (mlist_mem.mp (List.getElem_mem hjl)).1
    clear eX
    have s2j := s2 j hjl
    rw [eD, List.foldl_cons]
    obtain ⟨X, hXe⟩ : ∃ X, (mlist M0 P t r).getD j 0 = X := ⟨_, rfl⟩
    rw [hXe] at s2j hX ⊢
    have hbd : bd S X < 1024 := bd_ltp (n := 10) hS
    have hbx : bd X S < 1024 := bd_ltp (n := 10) hX
    have hL := LT_le (M0 := M0) (P := P) (t := t) (how := how) (S := bd S X) (show r + 1 ≤ n by omega)
    have hw := wM_lt (how := how) (X := X) hC hr
    have sb' := stepL_le (LT M0 P t n how (r + 1)) (wM M0 P t how r) S best X
    have e := ih (j + 1) f (stepL (LT M0 P t n how (r + 1)) (wM M0 P t how r) S best X) (by omega) (by omega) (by omega)
    have i1 : (1024 : Int32) * iN (r + 1) + iN (bd S X) = iN (1024 * (r + 1) + bd S X) := by rw [show (1024 : Int32) = iN 1024 from rfl, iN_mul, iN_add]
    rw [l_X12_settle_109, if_pos gr, iN_cl (by omega), s1, if_pos (by rw [iN_lt (by omega) (by omega)]; omega), show (64 : Int32) * iN r + iN j = iN (64 * r + j) from by rw [show (64 : Int32) = iN 64 from rfl, iN_mul, iN_add], if_pos (by rw [iN_in (by omega)]; omega), iN_cl (by omega), s2j, show (-1 : Int32) = iM from rfl, iN_bd, eS, iN_bd, i1, if_pos (show g_in (iN (1024 * (r + 1) + bd S X)) 11264 = true by rw [iN_in (by omega)]; omega), iN_cl (by omega), h67 _ hbd, weight_m hC hr hX hh fr, oB, iN_add]
    unfold b_X12_settle_211 b_X12_settle_213
    rw [eS]
    unfold stepL at e
    unfold stepL
    by_cases d1 : bd X S = 0
    · rw [if_pos d1] at e
      rw [if_pos (show iN (bd X S) = (0 : Int32) by rw [d1]; rfl), if_pos d1]
      by_cases d2 : LT M0 P t n how (r + 1) (bd S X) = 1073741824
      · rw [if_pos d2] at e
        rw [if_pos (show iN (LT M0 P t n how (r + 1) (bd S X)) = (1073741824 : Int32) by rw [d2]; rfl), if_pos d2]
        exact e
      · rw [if_neg d2] at e
        rw [if_neg (show ¬ iN (LT M0 P t n how (r + 1) (bd S X)) = (1073741824 : Int32) by rw [show (1073741824 : Int32) = iN 1073741824 from rfl, iN_inj (by omega) (by omega)]; exact d2), if_neg d2]
        by_cases d3 : LT M0 P t n how (r + 1) (bd S X) + wM M0 P t how r X < best
        · rw [if_pos d3] at e
          rw [if_pos (by rw [iN_lt (by omega) (by omega)]; exact d3), if_pos d3]
          exact e
        · rw [if_neg d3] at e
          rw [if_neg (by rw [iN_lt (by omega) (by omega)]; exact d3), if_neg d3]
          exact e
    · rw [if_neg d1] at e
      rw [if_neg (show ¬ iN (bd X S) = (0 : Int32) by rw [show (0 : Int32) = iN 0 from rfl, iN_inj (by omega) (by omega)]; exact d1), if_neg d1]
      exact e
def hasL (M M0 : gM) (P t n how r : Nat) : Prop := ∀ u S, r ≤ u → u ≤ n → S < 1024 → M 67 (1024 * u + S) = iN (LT M0 P t n how u S)
theorem l_s94 {σ : gS} {M0 : gM} {P t n how r : Nat} {x3 : Int32} {K86 : Int32 → Int32 → Int32 → Int32 → gS → gM → Option (Int32 × gM)} (hC : mCx M0 P t n) (hr : r < n) (hh : how ≤ 1) : ∀ k S f M, S + k = 1024 → k < f → frM M M0 → hasS M M0 P t n → hasL M M0 P t n how (r + 1) → (∀ S', S' < S → M 67 (1024 * r + S') = iN (LT M0 P t n how r S')) → ∃ M', l_X12_settle_94 K86 f (iN t) (iN how) x3 (iN r) (iN S) σ M = K86 (iN t) (iN how) x3 (iN r - 1) σ M' ∧ hasL M' M0 P t n how r ∧ ∀ a j, a ≠ 67 → M' a j = M a j := by
  intro k
  induction k with
  | zero =>
    intro S f M hS hf fr hs hL hd
    obtain ⟨f, rfl⟩ : ∃ m, f = m + 1 := ⟨f - 1, by omega⟩
    obtain rfl : S = 1024 := by omega
    refine ⟨M, ?_, fun u S h1 h2 h3 => ?_, fun _ _ _ => rfl⟩
    · rw [l_X12_settle_94, if_neg (by decide), show iN r + (-1 : Int32) = iN r - 1 from (Int32.sub_eq_add_neg _ _).symm]
    · by_cases c : u = r
      · rw [c]; exact hd S h3
      · exact hL u S (by omega) h2 h3
  | succ k ih =>
    intro S f M hS hf fr hs hL hd
    obtain ⟨f, rfl⟩ : ∃ m, f = m + 1 := ⟨f - 1, by omega⟩
    have hl' : (mlist M0 P t r).length ≤ 56 := mo_len hC hr (Nat.le_refl 1024)
    have e := l_s109 (σ := σ) (x3 := x3) (K86 := K86) (K94 := fun x1 x2 x3 x5 x6 σ M => l_X12_settle_94 K86 f x1 x2 x3 x5 x6 σ M) hC hr (show S < 1024 by omega) hh fr hs (fun S hS => hL (r + 1) S (by omega) (by omega) hS) (mlist M0 P t r).length 0 g_FU 1073741824 (by omega) (by unfold g_FU; omega) (Nat.le_refl _)
    rw [List.drop_zero, ← LT_r hr] at e
    obtain ⟨M', q1, q2, q3⟩ := ih (S + 1) f (g_up M 67 (1024 * r + S) (iN (LT M0 P t n how r S))) (by omega) (by omega) (fun a j h1 h2 h3 => by rw [g_up_ne _ _ (by omega), fr a j h1 h2 h3]) (fun r hr => ⟨by rw [g_up_ne _ _ (by omega)]; exact (hs r hr).1, fun j hj => by rw [g_up_ne _ _ (by omega)]; exact (hs r hr).2 j hj⟩) (fun u S' h1 h2 h3 => by rw [g_up_ne _ _ (by omega)]; exact hL u S' h1 h2 h3) (fun S' hS' => by
      by_cases c : S' = S
      · rw [c, g_up_eq _ _ ⟨rfl, rfl⟩]
      · rw [g_up_ne _ _ (by omega)]; exact hd S' (by omega))
    refine ⟨M', ?_, q2, fun a j h => by rw [q3 a j h, g_up_ne _ _ (by omega)]⟩
    rw [l_X12_settle_94, if_pos (show iN S < (1024 : Int32) by rw [show (1024 : Int32) = iN 1024 from rfl, iN_lt (by omega) (by omega)]; omega)]
    exact (show l_X12_settle_109 K86 (fun x1 x2 x3 x5 x6 σ M => l_X12_settle_94 K86 f x1 x2 x3 x5 x6 σ M) g_FU (iN t) (iN how) x3 (iN r) (iN S) 1073741824 0 σ M = _ from e).trans q1
theorem l_s86 {σ : gS} {M0 : gM} {P t n how A : Nat} (hC : mCx M0 P t n) (hh : how ≤ 1) (hA : A < 1024) : ∀ k f M, k ≤ n → k < f → frM M M0 → hasS M M0 P t n → hasL M M0 P t n how k → ∃ M', l_X12_settle_86 f (iN t) (iN how) (iN A) (iN k - 1) σ M = (if LT M0 P t n how 0 A = 1073741824 then some (-1, M') else (f_X12_takes (iN t) (iN how) (iN A) σ M').bind fun q264 => some (q264.1, q264.2)) ∧ hasL M' M0 P t n how 0 ∧ ∀ a j, a ≠ 67 → M' a j = M a j := by
  intro k
  induction k with
  | zero =>
    intro f M hk hf fr hs hL
    obtain ⟨f, rfl⟩ : ∃ m, f = m + 1 := ⟨f - 1, by omega⟩
    have hl := LT_le (M0 := M0) (P := P) (t := t) (how := how) (S := A) (Nat.zero_le n)
    have e := hL 0 A (Nat.le_refl _) (Nat.zero_le _) hA
    rw [show 1024 * 0 + A = A by omega] at e
    refine ⟨M, ?_, hL, fun _ _ _ => rfl⟩
    rw [l_X12_settle_86, if_pos (by decide), if_pos (by rw [iN_in (by omega)]; omega), iN_cl (by omega), e]
    by_cases c : LT M0 P t n how 0 A = 1073741824
    · rw [if_pos c, if_pos (by rw [c]; rfl)]
    · rw [if_neg c, if_neg (by rw [show (1073741824 : Int32) = iN 1073741824 from rfl, iN_inj (by omega) (by omega)]; exact c)]
  | succ k ih =>
    intro f M hk hf fr hs hL
    obtain ⟨f, rfl⟩ : ∃ m, f = m + 1 := ⟨f - 1, by omega⟩
    have hn := hC.2.2.1
    obtain ⟨M1, u1, u2, u3⟩ := l_s94 (σ := σ) (x3 := iN A) (K86 := fun x1 x2 x3 x5 σ M => l_X12_settle_86 f x1 x2 x3 x5 σ M) hC (show k < n by omega) hh 1024 0 g_FU M (by omega) (by unfold g_FU; omega) fr hs hL (fun S hS => by omega)
    obtain ⟨M', q1, q2, q3⟩ := ih f M1 (by omega) (by omega) (fun a j h1 h2 h3 => by rw [u3 a j (by omega), fr a j h1 h2 h3]) (fun r hr => ⟨by rw [u3 _ _ (by omega)]; exact (hs r hr).1, fun j hj => by rw [u3 _ _ (by omega)]; exact (hs r hr).2 j hj⟩) u2
    refine ⟨M', ?_, q2, fun a j h => by rw [q3 a j h, u3 a j h]⟩
    rw [l_X12_settle_86, show iN (k + 1) - (1 : Int32) = iN k from iN_sub (b := 1) (by omega), if_neg (iN_nneg (by omega))]
    exact u1.trans q1
theorem l_s41 {σ : gS} {M0 : gM} {P t n how : Nat} {x3 : Int32} (hC : mCx M0 P t n) : ∀ k S f M, S + k = 1024 → k < f → (∀ S', S' < S → M 67 (1024 * n + S') = iN (LT M0 P t n how n S')) → ∃ M', l_X12_settle_41 f (iN t) (iN how) x3 (iN n) (iN S) σ M = l_X12_settle_86 g_FU (iN t) (iN how) x3 (iN n - 1) σ M' ∧ hasL M' M0 P t n how n ∧ ∀ a j, a ≠ 67 → M' a j = M a j := by
  have hn := hC.2.2.1
  intro k
  induction k with
  | zero =>
    intro S f M hS hf hd
    obtain ⟨f, rfl⟩ : ∃ m, f = m + 1 := ⟨f - 1, by omega⟩
    obtain rfl : S = 1024 := by omega
    refine ⟨M, ?_, fun u S h1 h2 h3 => ?_, fun _ _ _ => rfl⟩
    · rw [l_X12_settle_41, if_neg (by decide)]
    · rw [show u = n by omega]; exact hd S h3
  | succ k ih =>
    intro S f M hS hf hd
    obtain ⟨f, rfl⟩ : ∃ m, f = m + 1 := ⟨f - 1, by omega⟩
    obtain ⟨M', q1, q2, q3⟩ := ih (S + 1) f (g_up M 67 (1024 * n + S) (iN (LT M0 P t n how n S))) (by omega) (by omega) (fun S' hS' => by
      by_cases c : S' = S
      · rw [c, g_up_eq _ _ ⟨rfl, rfl⟩]
      · rw [g_up_ne _ _ (by omega)]; exact hd S' (by omega))
    refine ⟨M', ?_, q2, fun a j h => by rw [q3 a j h, g_up_ne _ _ (by omega)]⟩
    rw [l_X12_settle_41, if_pos (show iN S < (1024 : Int32) by rw [show (1024 : Int32) = iN 1024 from rfl, iN_lt (by omega) (by omega)]; omega), show (1024 : Int32) * iN n + iN S = iN (1024 * n + S) from by rw [show (1024 : Int32) = iN 1024 from rfl, iN_mul, iN_add]]
    unfold b_X12_settle_73
    have gi : g_in (iN (1024 * n + S)) 11264 = true := by rw [iN_in (by omega)]; omega
    rw [eS, if_pos gi, if_pos gi, iN_cl (by omega)]
    rw [LT_n] at q1
    by_cases c : S = 0
    · rw [if_pos c] at q1
      rw [if_pos (show iN S = (0 : Int32) by rw [c]; rfl)]
      exact q1
    · rw [if_neg c] at q1
      rw [if_neg (show ¬ iN S = (0 : Int32) by rw [show (0 : Int32) = iN 0 from rfl, iN_inj (by omega) (by omega)]; exact c)]
      exact q1
/-- the model's settle, up to its taking -/
theorem settle_m1 {σ : gS} {M M0 : gM} {P t n how : Nat} (hC : mCx M0 P t n) (hh : how ≤ 1) (fr : frM M M0) (ho : f_X12_isOpen (iN t) σ M = some (iN 1)) : ∃ M', f_X12_settle (iN t) (iN how) σ M = (if LT M0 P t n how 0 (allS M0 P t) = 1073741824 then some (-1, M') else (f_X12_takes (iN t) (iN how) (iN (allS M0 P t)) σ M').bind fun q264 => some (q264.1, q264.2)) ∧ hasS M' M0 P t n ∧ hasL M' M0 P t n how 0 ∧ ∀ a j, ¬ (65 ≤ a ∧ a ≤ 67) → M' a j = M a j := by
  have hC' := hC
  obtain ⟨c1, c2, c3, c4, c5, c6⟩ := hC'
  have hA : allS M0 P t < 1024 := Nat.lt_of_lt_of_le (setOf_lt _ P) (Nat.le_trans (Nat.pow_le_pow_right (by omega) c1) (by decide))
  obtain ⟨M1, u1, u2, u3⟩ := sets_m (σ := σ) hC fr
  have fr1 : frM M1 M0 := fun a j h1 h2 h3 => by rw [u3 a j (by omega), fr a j h1 h2 h3]
  obtain ⟨M2, v1, v2, v3⟩ := l_s41 (σ := σ) (how := how) (x3 := iN (allS M0 P t)) hC 1024 0 g_FU M1 (by omega) (by unfold g_FU; omega) (fun S hS => by omega)
  obtain ⟨M3, w1, w2, w3⟩ := l_s86 (σ := σ) hC hh hA n g_FU M2 (Nat.le_refl _) (by unfold g_FU; omega) (fun a j h1 h2 h3 => by rw [v3 a j (by omega), fr1 a j h1 h2 h3]) (fun r hr => ⟨by rw [v3 _ _ (by omega)]; exact (u2 r hr).1, fun j hj => by rw [v3 _ _ (by omega)]; exact (u2 r hr).2 j hj⟩) v2
  refine ⟨M3, ?_, fun r hr => ⟨by rw [w3 _ _ (by omega), v3 _ _ (by omega)]; exact (u2 r hr).1, fun j hj => by rw [w3 _ _ (by omega), v3 _ _ (by omega)]; exact (u2 r hr).2 j hj⟩, w2, fun a j h => by rw [w3 a j (by omega), v3 a j (by omega), u3 a j (by omega)]⟩
  have hin : f_X12_in (iN how) 0 1 = some (iN 1) := by
    rcases (show how = 0 ∨ how = 1 by omega) with e | e <;> (rw [e]; rfl)
  unfold f_X12_settle b_X12_settle_0
  rw [ho, oB, if_neg (show ¬ iN 1 = (0 : Int32) by decide), hin, oB, if_neg (show ¬ iN 1 = (0 : Int32) by decide), u1, oB, thereS_m c1 (by rw [fr1 _ _ (by omega) (by omega) (by omega)]; exact c4), oB, allS_fr fr1, if_pos (by rw [iN_in (by omega)]; exact c2), iN_cl (by omega), fr1 52 _ (by omega) (by omega) (by omega), c5]
  exact v1.trans w1
