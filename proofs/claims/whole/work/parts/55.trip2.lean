/-! trip: a step of each search. -/
/-- driving w behind φ: tired, or not -/
def tiN (φ w : Nat) (x : Nat) : Nat := if 270 < φ + w then x else 0
def tiS (φ w : Nat) : Nat := if 270 < φ + w then w else φ + w
theorem g68 {rec : Int32 → Int32 → Int32 → Int32 → Int32 → Int32 → Int32 → gS → gM → Option (gM)} {k10 : Int32 → Int32 → Int32 → Int32 → Int32 → Int32 → Int32 → Int32 → gS → gM → Option (gM)} {x1 x2 x7 x8 : Int32} {τ φ δ ρ w : Nat} {σ : gS} {M : gM} (h1 : φ ≤ 1000) (h2 : w ≤ 1000) : (if (270 : Int32) < (iN φ + iN w) then b_X1_goOn_68 rec k10 x1 x2 (iN τ) (iN φ) (iN δ) (iN ρ) x7 x8 (iN w) 1 σ M else b_X1_goOn_68 rec k10 x1 x2 (iN τ) (iN φ) (iN δ) (iN ρ) x7 x8 (iN w) 0 σ M) = b_X1_goOn_119 rec k10 x1 x2 (iN τ) (iN φ) (iN δ) (iN ρ) x7 x8 (iN w) (iN (τ + w + tiN φ w 45)) (iN (tiS φ w)) (iN (ρ + tiN φ w 1)) σ M := by
  unfold b_X1_goOn_68 b_X1_goOn_85 b_X1_goOn_103 tiN tiS
  by_cases h : 270 < φ + w
  · simp (disch := omega) only [li_0, li_1, li_2, li_3, li_4, li_5, li_6, li_7, li_8, li_9, li_10, li_11, li_12, li_13, li_14, li_15, li_16, li_18, li_19, li_20, li_24, li_28, li_29, li_30, li_31, li_32, li_36, li_40, li_41, li_42, li_43, li_45, li_48, li_49, li_50, li_56, li_57, li_59, li_60, li_61, li_62, li_63, li_64, li_97, li_99, li_100, li_120, li_121, li_122, li_255, li_270, li_300, li_400, li_500, li_540, li_1000, li_1024, li_1440, li_9999, li_11264, li_32768, li_268435456, li_1073741824, li_m, li_o, iN_add, iN_mul, iN_lt, iN_in, iN_cl, iN_inj, iM_ne, iM_ne', iN_or, iN_xor, iN_bd, sh31n, iN_shl2, iN_shr2, iN_bit2, Nat.one_mul, oB, iff_t, iff_f, if_true, if_false, g_up_ne, g_up_eq, g_z_ne, g_z_eq, n10]
  · simp (disch := omega) only [li_0, li_1, li_2, li_3, li_4, li_5, li_6, li_7, li_8, li_9, li_10, li_11, li_12, li_13, li_14, li_15, li_16, li_18, li_19, li_20, li_24, li_28, li_29, li_30, li_31, li_32, li_36, li_40, li_41, li_42, li_43, li_45, li_48, li_49, li_50, li_56, li_57, li_59, li_60, li_61, li_62, li_63, li_64, li_97, li_99, li_100, li_120, li_121, li_122, li_255, li_270, li_300, li_400, li_500, li_540, li_1000, li_1024, li_1440, li_9999, li_11264, li_32768, li_268435456, li_1073741824, li_m, li_o, iN_add, iN_mul, iN_lt, iN_in, iN_cl, iN_inj, iM_ne, iM_ne', iN_or, iN_xor, iN_bd, sh31n, iN_shl2, iN_shr2, iN_bit2, Nat.one_mul, oB, iff_t, iff_f, if_true, if_false, g_up_ne, g_up_eq, g_z_ne, g_z_eq, Nat.add_zero]
theorem c_step0 {rec : Int32 → Int32 → Int32 → Int32 → Int32 → Int32 → Int32 → gS → gM → Option (gM)} {x1 x7 : Int32} {f τ φ δ ρ w s n : Nat} {σ : gS} {A : gM} (hs : s ≤ 6) (hA : A 24 0 = iN s) (hf : f < 7) (hw : A 28 (7 * f) = iN w) (hw2 : w ≤ 270) (hφ : φ ≤ 270) (hδ : δ ≤ 540) : l_X1_goOn_10 rec (n + 1) x1 (iN f) (iN τ) (iN φ) (iN δ) (iN ρ) x7 (iN 0) σ A = if w = 0 ∨ 540 < δ + w then l_X1_goOn_10 rec n x1 (iN f) (iN τ) (iN φ) (iN δ) (iN ρ) x7 (iN 1) σ A else (f_X1_comeHome x1 (iN (τ + w + tiN φ w 45)) (iN (δ + w)) (iN (ρ + tiN φ w 1)) σ A).bind fun q => l_X1_goOn_10 rec n x1 (iN f) (iN τ) (iN φ) (iN δ) (iN ρ) x7 (iN 1) σ q := by
  have e7 : f * 7 + 0 = 7 * f := by omega
  rw [l_X1_goOn_10]
  rw [hA, if_neg (by rw [iN_lt (by omega) (by omega)]; omega), show (iN f * (7 : Int32)) + iN 0 = iN (7 * f) by rw [show (7 : Int32) = iN 7 from rfl, iN_mul, iN_add, e7], if_pos (by rw [iN_in (by omega)]; omega), iN_cl (by omega), hw, g68 (by omega) (by omega)]
  have e1 : (iN 0 : Int32) + 1 = iN 1 := rfl
  by_cases k1 : w = 0
  · rw [if_pos (Or.inl k1), if_pos (by rw [k1]; rfl)]
    unfold b_X1_goOn_258
    rw [e1]
  · rw [if_neg (by rw [show (0 : Int32) = iN 0 from rfl, iN_inj (by omega) (by omega)]; exact k1), show iN δ + iN w = iN (δ + w) from iN_add _ _]
    by_cases k2 : 540 < δ + w
    · rw [if_pos (Or.inr k2), if_pos (by rw [show (540 : Int32) = iN 540 from rfl, iN_lt (by omega) (by omega)]; exact k2)]
      unfold b_X1_goOn_258
      rw [e1]
    · rw [if_neg (show ¬ (w = 0 ∨ 540 < δ + w) by omega), if_neg (by rw [show (540 : Int32) = iN 540 from rfl, iN_lt (by omega) (by omega)]; exact k2)]
      unfold b_X1_goOn_119 b_X1_goOn_258
      rw [if_pos (show (iN 0 : Int32) = 0 from rfl), iN_add]
      rfl
/-- when the stay begins -/
def begN (c o : Nat) : Nat := if c < o then o else c
theorem begN_le {c o b : Nat} (h1 : c ≤ b) (h2 : o ≤ b) : begN c o ≤ b := by unfold begN; split <;> omega
theorem begN_ge (c o : Nat) : c ≤ begN c o := by unfold begN; split <;> omega
/-- driving since the last rest, behind a stay -/
def keptN (st y c b φ w : Nat) : Nat := if b + y - c < 45 then st else 0
theorem c_step {rec : Int32 → Int32 → Int32 → Int32 → Int32 → Int32 → Int32 → gS → gM → Option (gM)} {d f τ φ δ ρ w s n i S o h y : Nat} {σ : gS} {A : gM} (hs : s ≤ 6) (hi1 : 1 ≤ i) (hi : i ≤ s) (hA : A 24 0 = iN s) (hd : d ≤ 6) (hf : f < 7) (hw : A 28 (7 * f + i) = iN w) (hw2 : w ≤ 270) (hφ : φ ≤ 270) (hδ : δ ≤ 540) (hτ : τ ≤ 1440) (hS : S < 128) (ho : A 25 i = iN o) (hh : A 26 i = iN h) (hy : A 27 i = iN y) (ho2 : o ≤ 1440) (hh2 : h ≤ 1440) (hy2 : y ≤ 300) :
    l_X1_goOn_10 rec (n + 1) (iN d) (iN f) (iN τ) (iN φ) (iN δ) (iN ρ) (iN S) (iN i) σ A = if w = 0 ∨ 540 < δ + w ∨ S.testBit i = true ∨ h < begN (τ + w + tiN φ w 45) o + y ∨ ¬ d < 6 then l_X1_goOn_10 rec n (iN d) (iN f) (iN τ) (iN φ) (iN δ) (iN ρ) (iN S) (iN (i + 1)) σ A else (rec (iN (d + 1)) (iN i) (iN (begN (τ + w + tiN φ w 45) o + y)) (iN (keptN (tiS φ w) y (τ + w + tiN φ w 45) (begN (τ + w + tiN φ w 45) o) φ w)) (iN (δ + w)) (iN (ρ + tiN φ w 1)) (iN (S ||| 2 ^ i)) σ (g_up (g_up A 29 d (iN i)) 30 d (iN (begN (τ + w + tiN φ w 45) o)))).bind fun q => l_X1_goOn_10 rec n (iN d) (iN f) (iN τ) (iN φ) (iN δ) (iN ρ) (iN S) (iN (i + 1)) σ q := by
  have e7 : f * 7 + i = 7 * f + i := by omega
  rw [l_X1_goOn_10]
  rw [hA, if_neg (by rw [iN_lt (by omega) (by omega)]; omega), show (iN f * (7 : Int32)) + iN i = iN (7 * f + i) by rw [show (7 : Int32) = iN 7 from rfl, iN_mul, iN_add, e7], if_pos (by rw [iN_in (by omega)]; omega), iN_cl (by omega), hw, g68 (by omega) (by omega)]
  have e1 : (iN i : Int32) + 1 = iN (i + 1) := by rw [show (1 : Int32) = iN 1 from rfl, iN_add]
  have hti : tiN φ w 45 ≤ 45 := by unfold tiN; split <;> omega
  have hb := begN_le (c := τ + w + tiN φ w 45) (o := o) (b := 1755) (by omega) (by omega)
  have hb2 := begN_ge (τ + w + tiN φ w 45) o
  by_cases k1 : w = 0
  · rw [if_pos (Or.inl k1), if_pos (by rw [k1]; rfl)]
    unfold b_X1_goOn_258
    rw [e1]
  · rw [if_neg (by rw [show (0 : Int32) = iN 0 from rfl, iN_inj (by omega) (by omega)]; exact k1), show iN δ + iN w = iN (δ + w) from iN_add _ _]
    by_cases k2 : 540 < δ + w
    · rw [if_pos (Or.inr (Or.inl k2)), if_pos (by rw [show (540 : Int32) = iN 540 from rfl, iN_lt (by omega) (by omega)]; exact k2)]
      unfold b_X1_goOn_258
      rw [e1]
    · rw [if_neg (by rw [show (540 : Int32) = iN 540 from rfl, iN_lt (by omega) (by omega)]; exact k2)]
      have hmx : (if iN (τ + w + tiN φ w 45) < iN o then iN o else iN (τ + w + tiN φ w 45)) = iN (begN (τ + w + tiN φ w 45) o) := by
        unfold begN
        by_cases q : τ + w + tiN φ w 45 < o
        · rw [if_pos (by rw [iN_lt (by omega) (by omega)]; exact q), if_pos q]
        · rw [if_neg (by rw [iN_lt (by omega) (by omega)]; exact q), if_neg q]
      have ig : g_in (iN i) 7 = true := by rw [iN_in (by omega)]; omega
      have hsh : iN S ||| ((1 : Int32) <<< (iN i &&& 31)) = iN (S ||| 2 ^ i) := by
        rw [show (1 : Int32) = iN 1 from rfl, iN_shl (by omega), Nat.one_mul, iN_or]
      have ed : (iN d : Int32) + 1 = iN (d + 1) := by rw [show (1 : Int32) = iN 1 from rfl, iN_add]
      unfold b_X1_goOn_119 b_X1_goOn_229 b_X1_goOn_258
      rw [if_neg (show ¬ (iN i : Int32) = 0 by rw [show (0 : Int32) = iN 0 from rfl, iN_inj (by omega) (by omega)]; omega)]
      by_cases k3 : S.testBit i = true
      · rw [if_neg (by rw [iN_bit0 (by omega) (by omega), k3]; simp), if_pos (Or.inr (Or.inr (Or.inl k3))), e1]
      · have k3' : S.testBit i = false := by simpa using k3
        rw [if_pos (by rw [iN_bit0 (by omega) (by omega)]; exact k3'), if_pos ig, if_pos ig, if_pos ig, iN_cl (by omega), ho, hh, hy, hmx, show iN (begN (τ + w + tiN φ w 45) o) + iN y = iN (begN (τ + w + tiN φ w 45) o + y) from iN_add _ _, show iN δ + iN w = iN (δ + w) from iN_add _ _, hsh, ed, e1]
        by_cases k4 : h < begN (τ + w + tiN φ w 45) o + y
        · rw [if_pos (show iN h < iN (begN (τ + w + tiN φ w 45) o + y) by rw [iN_lt (by omega) (by omega)]; exact k4), if_pos (Or.inr (Or.inr (Or.inr (Or.inl k4))))]
        · rw [if_neg (show ¬ iN h < iN (begN (τ + w + tiN φ w 45) o + y) by rw [iN_lt (by omega) (by omega)]; exact k4)]
          by_cases k5 : d < 6
          · have igd : g_in (iN d) 6 = true := by rw [iN_in (by omega)]; omega
            rw [if_pos (show iN d < 6 by rw [show (6 : Int32) = iN 6 from rfl, iN_lt (by omega) (by omega)]; exact k5), if_pos igd, if_pos igd, iN_cl (by omega), iN_sub (by omega)]
            rw [if_neg (show ¬ (w = 0 ∨ 540 < δ + w ∨ S.testBit i = true ∨ h < begN (τ + w + tiN φ w 45) o + y ∨ ¬ d < 6) from fun hh => by
              rcases hh with q | q | q | q | q
              · exact k1 q
              · exact k2 q
              · exact k3 q
              · exact k4 q
              · exact q k5)]
            unfold keptN
            by_cases k6 : begN (τ + w + tiN φ w 45) o + y - (τ + w + tiN φ w 45) < 45
            · rw [if_pos (show iN (begN (τ + w + tiN φ w 45) o + y - (τ + w + tiN φ w 45)) < 45 by rw [show (45 : Int32) = iN 45 from rfl, iN_lt (by omega) (by omega)]; exact k6), if_pos k6]
            · rw [if_neg (show ¬ iN (begN (τ + w + tiN φ w 45) o + y - (τ + w + tiN φ w 45)) < 45 by rw [show (45 : Int32) = iN 45 from rfl, iN_lt (by omega) (by omega)]; exact k6), if_neg k6]
              rfl
          · rw [if_neg (show ¬ iN d < 6 by rw [show (6 : Int32) = iN 6 from rfl, iN_lt (by omega) (by omega)]; exact k5), if_pos (Or.inr (Or.inr (Or.inr (Or.inr k5))))]
/-- the model's step to a sight -/
theorem m85 {rec : Int32 → Int32 → Int32 → Int32 → Int32 → Int32 → Int32 → gS → gM → Option (gM)} {k17 : Int32 → Int32 → Int32 → Int32 → Int32 → Int32 → Int32 → Int32 → gS → gM → Option (gM)} {d f τ φ δ ρ w i S o h y : Nat} {σ : gS} {B : gM} (hi1 : 1 ≤ i) (hi : i ≤ 6) (hd : d ≤ 6) (hw2 : w ≤ 270) (hφ : φ ≤ 270) (hδ : δ ≤ 540) (hτ : τ ≤ 1440) (ho : B 77 i = iN o) (hh : B 78 i = iN h) (hy : B 79 i = iN y) (ho2 : o ≤ 1440) (hh2 : h ≤ 1440) (hy2 : y ≤ 300) :
    (if (270 : Int32) < (iN φ + iN w) then b_X12_goesOn_85 rec k17 (iN d) (iN f) (iN S) (iN τ) (iN φ) (iN δ) (iN ρ) (iN i) (iN w) 1 σ B else b_X12_goesOn_85 rec k17 (iN d) (iN f) (iN S) (iN τ) (iN φ) (iN δ) (iN ρ) (iN i) (iN w) 0 σ B) = if h < begN (τ + w + tiN φ w 45) o + y then k17 (iN d) (iN f) (iN S) (iN τ) (iN φ) (iN δ) (iN ρ) (iN (i + 1)) σ B else (rec (iN (d + 1)) (iN i) (iN (S ||| 2 ^ i)) (iN (begN (τ + w + tiN φ w 45) o + y)) (iN (keptN (tiS φ w) y (τ + w + tiN φ w 45) (begN (τ + w + tiN φ w 45) o) φ w)) (iN (δ + w)) (iN (ρ + tiN φ w 1)) σ (g_up (g_up B 81 d (iN i)) 82 d (iN (begN (τ + w + tiN φ w 45) o)))).bind fun q => k17 (iN d) (iN f) (iN S) (iN τ) (iN φ) (iN δ) (iN ρ) (iN (i + 1)) σ q := by
  have e1 : (iN i : Int32) + 1 = iN (i + 1) := by rw [show (1 : Int32) = iN 1 from rfl, iN_add]
  have ed : (iN d : Int32) + 1 = iN (d + 1) := by rw [show (1 : Int32) = iN 1 from rfl, iN_add]
  have hsh : iN S ||| ((1 : Int32) <<< (iN i &&& 31)) = iN (S ||| 2 ^ i) := by
    rw [show (1 : Int32) = iN 1 from rfl, iN_shl (by omega), Nat.one_mul, iN_or]
  have ig : g_in (iN i) 7 = true := by rw [iN_in (by omega)]; omega
  have igd : g_in (iN d) 7 = true := by rw [iN_in (by omega)]; omega
  have hti : tiN φ w 45 ≤ 45 := by unfold tiN; split <;> omega
  have hb := begN_le (c := τ + w + tiN φ w 45) (o := o) (b := 1755) (by omega) (by omega)
  have hb2 := begN_ge (τ + w + tiN φ w 45) o
  have key : ∀ (tb : Int32) (st rr : Nat), (tb = 0 → st = φ + w ∧ rr = ρ) → (¬ tb = 0 → st = w ∧ rr = ρ + 1) → ∀ c, c ≤ 1755 → (hbc : begN c o ≤ 1755) → c ≤ begN c o → b_X12_goesOn_103 rec k17 (iN d) (iN f) (iN S) (iN τ) (iN φ) (iN δ) (iN ρ) (iN i) (iN w) tb (iN 0) (iN c) σ B = if h < begN c o + y then k17 (iN d) (iN f) (iN S) (iN τ) (iN φ) (iN δ) (iN ρ) (iN (i + 1)) σ B else (rec (iN (d + 1)) (iN i) (iN (S ||| 2 ^ i)) (iN (begN c o + y)) (iN (keptN st y c (begN c o) φ w)) (iN (δ + w)) (iN rr) σ (g_up (g_up B 81 d (iN i)) 82 d (iN (begN c o)))).bind fun q => k17 (iN d) (iN f) (iN S) (iN τ) (iN φ) (iN δ) (iN ρ) (iN (i + 1)) σ q := by
    intro tb st rr h0 h1 c hc hbc hcb
    have e130 : b_X12_goesOn_130 rec k17 (iN d) (iN f) (iN S) (iN τ) (iN φ) (iN δ) (iN ρ) (iN i) (iN w) tb (iN c) (iN (begN c o)) σ B = if h < begN c o + y then k17 (iN d) (iN f) (iN S) (iN τ) (iN φ) (iN δ) (iN ρ) (iN (i + 1)) σ B else (rec (iN (d + 1)) (iN i) (iN (S ||| 2 ^ i)) (iN (begN c o + y)) (iN (keptN st y c (begN c o) φ w)) (iN (δ + w)) (iN rr) σ (g_up (g_up B 81 d (iN i)) 82 d (iN (begN c o)))).bind fun q => k17 (iN d) (iN f) (iN S) (iN τ) (iN φ) (iN δ) (iN ρ) (iN (i + 1)) σ q := by
      unfold b_X12_goesOn_130
      rw [if_pos ig, if_pos ig, iN_cl (by omega), hh, hy, show iN (begN c o) + iN y = iN (begN c o + y) from iN_add _ _]
      by_cases k4 : h < begN c o + y
      · rw [if_pos (show iN h < iN (begN c o + y) by rw [iN_lt (by omega) (by omega)]; exact k4), if_pos k4]
        unfold b_X12_goesOn_243
        rw [e1]
      · rw [if_neg (show ¬ iN h < iN (begN c o + y) by rw [iN_lt (by omega) (by omega)]; exact k4), if_neg k4, if_pos igd, if_pos igd, iN_cl (by omega)]
        unfold b_X12_goesOn_190 b_X12_goesOn_222 b_X12_goesOn_239 b_X12_goesOn_243 keptN
        rw [hsh, ed, e1, iN_sub (by omega), show iN φ + iN w = iN (φ + w) from iN_add _ _, show iN δ + iN w = iN (δ + w) from iN_add _ _, show iN ρ + 1 = iN (ρ + 1) from iN_add ρ 1, show iN ρ + 0 = iN ρ from zI _]
        have h45 : (iN (begN c o + y - c) < 45) = (begN c o + y - c < 45) := by rw [show (45 : Int32) = iN 45 from rfl, iN_lt (by omega) (by omega)]
        by_cases kt : tb = 0
        · obtain ⟨rfl, rfl⟩ := h0 kt
          rw [if_pos kt]
          by_cases k6 : begN c o + y - c < 45
          · rw [if_pos (by rw [h45]; exact k6), if_pos k6, if_pos kt]
          · rw [if_neg (by rw [h45]; exact k6), if_neg k6, if_pos kt]; rfl
        · obtain ⟨rfl, rfl⟩ := h1 kt
          rw [if_neg kt]
          by_cases k6 : begN c o + y - c < 45
          · rw [if_pos (by rw [h45]; exact k6), if_pos k6, if_neg kt]
          · rw [if_neg (by rw [h45]; exact k6), if_neg k6, if_neg kt]; rfl
    unfold b_X12_goesOn_103
    rw [if_pos ig, iN_cl (by omega), ho, zI]
    by_cases q : c < o
    · rw [if_pos (show iN c < iN o by rw [iN_lt (by omega) (by omega)]; exact q), if_pos ig]
      have : begN c o = o := by unfold begN; rw [if_pos q]
      rw [this] at e130 ⊢
      exact e130
    · rw [if_neg (show ¬ iN c < iN o by rw [iN_lt (by omega) (by omega)]; exact q)]
      have : begN c o = c := by unfold begN; rw [if_neg q]
      rw [this] at e130 ⊢
      exact e130
  have h270 : ((270 : Int32) < (iN φ + iN w)) = (270 < φ + w) := by rw [show (270 : Int32) = iN 270 from rfl, iN_add, iN_lt (by omega) (by omega)]
  by_cases kt : 270 < φ + w
  · rw [if_pos (by rw [h270]; exact kt)]
    unfold b_X12_goesOn_85
    have e45 : tiN φ w 45 = 45 := by unfold tiN; rw [if_pos kt]
    have es : tiS φ w = w := by unfold tiS; rw [if_pos kt]
    have er : tiN φ w 1 = 1 := by unfold tiN; rw [if_pos kt]
    rw [e45] at hb hb2
    rw [e45, es, er, if_neg (by decide)]
    have := key 1 w (ρ + 1) (fun h => absurd h (by decide)) (fun _ => ⟨rfl, rfl⟩) (τ + w + 45) (by omega) hb hb2
    unfold b_X12_goesOn_103 at this ⊢
    rw [show iN (τ + w + 45) + iN 0 = (iN τ + iN w) + 45 from by rw [zI, show (45 : Int32) = iN 45 from rfl, iN_add, iN_add]] at this
    exact this
  · rw [if_neg (by rw [h270]; exact kt)]
    unfold b_X12_goesOn_85
    have e45 : tiN φ w 45 = 0 := by unfold tiN; rw [if_neg kt]
    have es : tiS φ w = φ + w := by unfold tiS; rw [if_neg kt]
    have er : tiN φ w 1 = 0 := by unfold tiN; rw [if_neg kt]
    rw [e45] at hb hb2
    rw [e45, es, er, if_pos rfl]
    have := key 0 (φ + w) ρ (fun _ => ⟨rfl, rfl⟩) (fun h => absurd rfl h) (τ + w + 0) (by omega) hb hb2
    rw [show (iN τ + iN w) = iN (τ + w + 0) from iN_add _ _]
    exact this
