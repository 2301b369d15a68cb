/-! read: the model's next token. -/
set_option maxRecDepth 100000 in
theorem sbq_cmp : ∀ x, x < 256 → ((sb x = 32) = (x = 32)) ∧ ((sb x = 10) = (x = 10)) ∧ ((sb x < 97) = (x < 97 ∨ 128 ≤ x)) ∧ ((122 < sb x) = (122 < x ∧ x < 128)) ∧ ((sb x < 48) = (x < 48 ∨ 128 ≤ x)) ∧ ((57 < sb x) = (57 < x ∧ x < 128)) := by
  have : ∀ x, x < 256 → ((sb x = 32) ↔ (x = 32)) ∧ ((sb x = 10) ↔ (x = 10)) ∧ ((sb x < 97) ↔ (x < 97 ∨ 128 ≤ x)) ∧ ((122 < sb x) ↔ (122 < x ∧ x < 128)) ∧ ((sb x < 48) ↔ (x < 48 ∨ 128 ≤ x)) ∧ ((57 < sb x) ↔ (57 < x ∧ x < 128)) := by decide +kernel
  intro x hx
  obtain ⟨h1, h2, h3, h4, h5, h6⟩ := this x hx
  exact ⟨propext h1, propext h2, propext h3, propext h4, propext h5, propext h6⟩
set_option maxRecDepth 100000 in
theorem sb_sgn : ∀ x, x < 256 → ((sb x).toInt64 = 59 ↔ x = 59) ∧ ((sb x).toInt64 = 40 ↔ x = 40) ∧ ((sb x).toInt64 = 41 ↔ x = 41) ∧ ((sb x).toInt64 = 60 ↔ x = 60) ∧ ((sb x).toInt64 = 61 ↔ x = 61) ∧ ((sb x).toInt64 = 43 ↔ x = 43) ∧ ((sb x).toInt64 = 45 ↔ x = 45) := by decide +kernel
set_option maxRecDepth 100000 in
theorem sb_64 : ∀ x, x < 128 → (sb x).toInt64 = Int64.ofNat x ∧ (iN x).toInt64 = Int64.ofNat x := by decide +kernel
theorem cmp0 (x y : Int64) : (lg_cmp x y = 0) = (x = y) := by
  apply propext
  unfold lg_cmp
  by_cases c : x > y
  · rw [if_pos c]
    refine ⟨fun h => absurd h (by decide), fun h => ?_⟩
    rw [h] at c
    exact absurd c (Int64.lt_irrefl)
  · rw [if_neg c]
    by_cases e : x = y
    · rw [if_pos e]; exact ⟨fun _ => e, fun _ => rfl⟩
    · rw [if_neg e]; exact ⟨fun h => absurd h (by decide), fun h => absurd h e⟩
theorem i64_inj {a b : Nat} (ha : a < 9223372036854775808) (hb : b < 9223372036854775808) : (Int64.ofNat a = Int64.ofNat b) ↔ a = b := ⟨fun h => by
  have := congrArg Int64.toInt h
  rw [Int64.toInt_ofNat_of_lt ha, Int64.toInt_ofNat_of_lt hb] at this
  omega, fun h => by rw [h]⟩
def textM (A : gM) (b : Nat → Nat) (n : Nat) : Prop := n ≤ 400 ∧ A 40 46 = iN n ∧ ∀ k, k < n → b k < 256 ∧ A 74 k = sb (b k)
theorem textM.keep {M M' : gM} {b : Nat → Nat} {n : Nat} (h : textM M b n) (k : ∀ a j, (a = 40 ∧ j = 46) ∨ a = 74 → M' a j = M a j) : textM M' b n := by
  obtain ⟨h1, h2, h3⟩ := h
  exact ⟨h1, by rw [k _ _ (by omega)]; exact h2, fun j hj => by rw [k _ _ (by omega)]; exact h3 j hj⟩
theorem l_next0 {σ : gS} {b : Nat → Nat} {n : Nat} {N : gN} : ∀ k p f A, p + k = n → k < f → textM A b n → A 40 47 = iN p → l_X12_next_0 f σ A N = b_X12_next_52 σ (g_up A 40 47 (iN (endR blankB b n k p))) N := by
  intro k
  induction k with
  | zero =>
    intro p f M hp hf ht h8
    obtain ⟨f, rfl⟩ : ∃ m, f = m + 1 := ⟨f - 1, by omega⟩
    have h1 := ht.1
    rw [l_X12_next_0, h8, ht.2.1, if_neg (by rw [iN_lt (by omega) (by omega)]; omega), endR, ← h8, g_up_self]
  | succ k ih =>
    intro p f M hp hf ht h8
    obtain ⟨f, rfl⟩ : ∃ m, f = m + 1 := ⟨f - 1, by omega⟩
    have h1 := ht.1
    obtain ⟨t1, t2⟩ := ht.2.2 p (by omega)
    have gi : g_in (iN p) 400 = true := by rw [iN_in (by omega)]; omega
    obtain ⟨s1, s2, _⟩ := sbq_cmp (b p) t1
    have go : l_X12_next_0 f σ (g_up M 40 47 (iN (p + 1))) N = b_X12_next_52 σ (g_up M 40 47 (iN (endR blankB b n k (p + 1)))) N := by
      rw [ih (p + 1) f (g_up M 40 47 (iN (p + 1))) (by omega) (by omega) (ht.keep (fun a j h => g_up_ne _ _ (by omega))) (g_up_eq _ _ ⟨rfl, rfl⟩)]
      congr 1
      funext a j
      by_cases q : a = 40 ∧ j = 47
      · rw [g_up_eq _ _ q, g_up_eq _ _ q]
      · rw [g_up_ne _ _ q, g_up_ne _ _ q, g_up_ne _ _ q]
    rw [l_X12_next_0, h8, ht.2.1, if_pos (by rw [iN_lt (by omega) (by omega)]; omega), if_pos gi, iN_cl (by omega), t2, endR]
    unfold b_X12_next_39
    rw [h8, eS]
    by_cases c : b p = 32
    · rw [if_pos (s1.mpr c), if_pos ⟨by omega, decide_eq_true (Or.inl c)⟩]; exact go
    · rw [if_neg (fun q => c (s1.mp q)), if_pos gi]
      by_cases c2 : b p = 10
      · rw [if_pos (s2.mpr c2), if_pos ⟨by omega, decide_eq_true (Or.inr c2)⟩]; exact go
      · rw [if_neg (fun q => c2 (s2.mp q)), if_neg (fun q => by have := of_decide_eq_true q.2; omega), ← h8, g_up_self]
theorem small_m {σ : gS} {b : Nat → Nat} {n q : Nat} {A : gM} (ht : textM A b n) (h : A 40 47 = iN q) (hq : q ≤ n) : f_X12_isSmall σ A = some (bI (decide (q < n) && letB (b q))) := by
  have h1 := ht.1
  unfold f_X12_isSmall b_X12_isSmall_0
  rw [h, ht.2.1]
  by_cases c : q < n
  · obtain ⟨t1, t2⟩ := ht.2.2 q c
    have gi : g_in (iN q) 400 = true := by rw [iN_in (by omega)]; omega
    obtain ⟨_, _, s3, s4, _, _⟩ := sbq_cmp (b q) t1
    rw [if_pos (by rw [iN_lt (by omega) (by omega)]; exact c), if_pos gi, iN_cl (by omega), t2, decide_eq_true c, Bool.true_and]
    unfold letB
    by_cases c1 : b q < 97 ∨ 128 ≤ b q
    · rw [if_pos (s3.mpr c1), decide_eq_false (fun q => by omega)]; rfl
    · rw [if_neg (fun q => c1 (s3.mp q)), if_pos gi]
      by_cases c2 : 122 < b q ∧ b q < 128
      · rw [if_pos (s4.mpr c2), decide_eq_false (fun q => by omega)]; rfl
      · rw [if_neg (fun q => c2 (s4.mp q)), decide_eq_true (by omega)]; rfl
  · rw [if_neg (by rw [iN_lt (by omega) (by omega)]; exact c), decide_eq_false c]; rfl
theorem digit_m {σ : gS} {b : Nat → Nat} {n q : Nat} {A : gM} (ht : textM A b n) (h : A 40 47 = iN q) (hq : q ≤ n) : f_X12_isDigit σ A = some (bI (decide (q < n) && digB (b q))) := by
  have h1 := ht.1
  unfold f_X12_isDigit b_X12_isDigit_0
  rw [h, ht.2.1]
  by_cases c : q < n
  · obtain ⟨t1, t2⟩ := ht.2.2 q c
    have gi : g_in (iN q) 400 = true := by rw [iN_in (by omega)]; omega
    obtain ⟨_, _, _, _, s3, s4⟩ := sbq_cmp (b q) t1
    rw [if_pos (by rw [iN_lt (by omega) (by omega)]; exact c), if_pos gi, iN_cl (by omega), t2, decide_eq_true c, Bool.true_and]
    unfold digB
    by_cases c1 : b q < 48 ∨ 128 ≤ b q
    · rw [if_pos (s3.mpr c1), decide_eq_false (fun q => by omega)]; rfl
    · rw [if_neg (fun q => c1 (s3.mp q)), if_pos gi]
      by_cases c2 : 57 < b q ∧ b q < 128
      · rw [if_pos (s4.mpr c2), decide_eq_false (fun q => by omega)]; rfl
      · rw [if_neg (fun q => c2 (s4.mp q)), decide_eq_true (by omega)]; rfl
  · rw [if_neg (by rw [iN_lt (by omega) (by omega)]; exact c), decide_eq_false c]; rfl
/-- the model's number of a word -/
def valW (b : Nat → Nat) (p : Nat) : Nat → Nat
  | 0 => 0
  | k + 1 => if k < 7 then 27 * valW b p k + (b (p + k) - 96) else 0
theorem valW_le {b : Nat → Nat} {p : Nat} : ∀ k, k ≤ 7 → (∀ j, j < k → letB (b (p + j)) = true) → valW b p k + 1 ≤ 27 ^ k := by
  intro k
  induction k with
  | zero => intro _ _; exact Nat.le_refl _
  | succ k ih =>
    intro hk h
    have h1 := ih (by omega) (fun j hj => h j (by omega))
    have h2 := of_decide_eq_true (h k (by omega))
    rw [valW, if_pos (by omega), Nat.pow_succ]
    omega
theorem valW_lt {b : Nat → Nat} {p k : Nat} (h : ∀ j, j < k → letB (b (p + j)) = true) : valW b p k < 10460353203 := by
  by_cases c : k ≤ 7
  · have h1 := valW_le k c h
    have h2 : 27 ^ k ≤ 27 ^ 7 := Nat.pow_le_pow_right (by omega) c
    have h3 : 27 ^ 7 = 10460353203 := rfl
    omega
  · obtain ⟨k, rfl⟩ : ∃ m, k = m + 1 := ⟨k - 1, by omega⟩
    rw [valW, if_neg (by omega)]; omega
theorem valW_inj {b w : Nat → Nat} {p q : Nat} : ∀ k m, k ≤ 7 → m ≤ 7 → (∀ j, j < k → letB (b (p + j)) = true) → (∀ j, j < m → letB (w (q + j)) = true) → valW b p k = valW w q m → k = m ∧ ∀ j, j < k → b (p + j) = w (q + j) := by
  intro k
  induction k with
  | zero =>
    intro m _ hm _ hw e
    cases m with
    | zero => exact ⟨rfl, fun j hj => by omega⟩
    | succ m =>
      have h2 := of_decide_eq_true (hw m (by omega))
      rw [valW, valW, if_pos (by omega)] at e
      omega
  | succ k ih =>
    intro m hk hm hb hw e
    have h2 := of_decide_eq_true (hb k (by omega))
    cases m with
    | zero =>
      rw [valW, valW, if_pos (by omega)] at e
      omega
    | succ m =>
      have h3 := of_decide_eq_true (hw m (by omega))
      rw [valW, valW, if_pos (by omega), if_pos (by omega)] at e
      obtain ⟨e1, e2⟩ := ih m (by omega) (by omega) (fun j hj => hb j (by omega)) (fun j hj => hw j (by omega)) (by omega)
      subst e1
      refine ⟨rfl, fun j hj => ?_⟩
      by_cases c : j = k
      · subst c; omega
      · exact e2 j (by omega)
theorem valW_congr {b w : Nat → Nat} {p q : Nat} : ∀ k, (∀ j, j < k → b (p + j) = w (q + j)) → valW b p k = valW w q k := by
  intro k
  induction k with
  | zero => intro _; rfl
  | succ k ih =>
    intro h
    rw [valW, valW, ih (fun j hj => h j (by omega)), h k (by omega)]
def wdV (e : Nat) : Nat := valW (fun j => (wdN e).getD j 0) 0 (wdN e).length
theorem wdV_c : ∀ e, e < 11 → 0 < wdV e ∧ wdV e < 10460353203 ∧ (wdN e).length ≤ 6 ∧ 0 < (wdN e).length ∧ ∀ j, j < (wdN e).length → letB ((wdN e).getD (0 + j) 0) = true := by decide +kernel
theorem wdV_inj : ∀ e, e < 11 → ∀ f, f < 11 → wdV e = wdV f → e = f := by decide +kernel
theorem wdV_0 : (4514 : Int64) = Int64.ofNat (wdV 0) ∧ (40187 : Int64) = Int64.ofNat (wdV 1) ∧ (261071320 : Int64) = Int64.ofNat (wdV 2) ∧ (131360 : Int64) = Int64.ofNat (wdV 3) ∧ (458690 : Int64) = Int64.ofNat (wdV 4) ∧ (1111 : Int64) = Int64.ofNat (wdV 5) ∧ (240023 : Int64) = Int64.ofNat (wdV 6) ∧ (161437 : Int64) = Int64.ofNat (wdV 7) ∧ (427333 : Int64) = Int64.ofNat (wdV 8) ∧ (232546955 : Int64) = Int64.ofNat (wdV 9) ∧ (275320391 : Int64) = Int64.ofNat (wdV 10) := by decide +kernel
theorem isW_val {b : Nat → Nat} {p q e : Nat} (he : e < 11) (h : isW b p q (wdN e)) : valW b p (q - p) = wdV e := by
  rw [← h.1]
  exact valW_congr _ (fun j hj => by rw [Nat.zero_add]; exact h.2 j hj)
theorem isW_iff {b : Nat → Nat} {p q e : Nat} (he : e < 11) (hl : ∀ j, j < q - p → letB (b (p + j)) = true) : isW b p q (wdN e) ↔ valW b p (q - p) = wdV e := by
  refine ⟨isW_val he, fun h => ?_⟩
  obtain ⟨v1, v2, v3, v4, v5⟩ := wdV_c e he
  by_cases c : q - p ≤ 7
  · obtain ⟨e1, e2⟩ := valW_inj (w := fun j => (wdN e).getD j 0) (q := 0) (q - p) (wdN e).length c (by omega) hl v5 h
    exact ⟨e1.symm, fun j hj => by have := e2 j (by omega); rw [this, Nat.zero_add]⟩
  · obtain ⟨k, hk⟩ : ∃ m, q - p = m + 1 := ⟨q - p - 1, by omega⟩
    rw [hk, valW, if_neg (by omega)] at h
    omega
theorem wordT_is {b : Nat → Nat} {p q : Nat} : ∀ k e, wordT b p q k e ≠ 13 → isW b p q (wdN (wordT b p q k e)) := by
  intro k
  induction k with
  | zero => intro e h; exact absurd rfl h
  | succ k ih =>
    intro e h
    unfold wordT at h ⊢
    by_cases c : isW b p q (wdN e)
    · rw [if_pos c]; exact c
    · rw [if_neg c] at h ⊢; exact ih (e + 1) h
theorem wordT_hit {b : Nat → Nat} {p q e : Nat} (he : e < 11) (h : isW b p q (wdN e)) : ∀ k f, f ≤ e → e < f + k → wordT b p q k f = e := by
  intro k
  induction k with
  | zero => intro f h1 h2; omega
  | succ k ih =>
    intro f h1 h2
    unfold wordT
    by_cases c : isW b p q (wdN f)
    · rw [if_pos c]
      exact wdV_inj f (by omega) e he ((isW_val (by omega) c).symm.trans (isW_val he h))
    · rw [if_neg c]
      have : f ≠ e := fun x => c (by rw [x]; exact h)
      exact ih (f + 1) (by omega) (by omega)
theorem wordT_iff {b : Nat → Nat} {p q e : Nat} (he : e < 11) (hl : ∀ j, j < q - p → letB (b (p + j)) = true) : (Int64.ofNat (valW b p (q - p)) = Int64.ofNat (wdV e)) ↔ wordT b p q 11 0 = e := by
  have h1 := valW_lt hl
  have h2 := (wdV_c e he).2.1
  rw [i64_inj (by omega) (by omega), ← isW_iff he hl]
  refine ⟨fun h => wordT_hit he h 11 0 (by omega) (by omega), fun h => ?_⟩
  have := wordT_is (b := b) (p := p) (q := q) 11 0 (by omega)
  rw [h] at this
  exact this
