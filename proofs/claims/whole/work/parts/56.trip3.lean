/-! trip: the searches, and the call. -/
theorem homeM_eq {σ : gS} {B : gM} {d f τ φ δ ρ w m e0 v0 : Nat} (hd1 : 1 ≤ d) (hd : d ≤ 6) (hf : f < 7) (hw : B 80 (7 * f) = iN w) (hw2 : w ≤ 270) (hφ : φ ≤ 270) (hδ : δ ≤ 540) (hτ : τ ≤ 1440) (b1 : B 40 71 = iN m) (b2 : B 40 72 = iN e0) (b3 : B 40 73 = iN v0) (hm : m ≤ 6) (he0 : e0 ≤ 2000) (hv0 : v0 ≤ 540) : f_X12_home (iN d) (iN f) (iN τ) (iN φ) (iN δ) (iN ρ) σ B = if w = 0 ∨ 540 < δ + w then some B else if 1440 < τ + w + tiN φ w 45 then some B else if d < (B 40 71).toNatClampNeg ∨ (d = (B 40 71).toNatClampNeg ∧ ((B 40 72).toNatClampNeg < τ + w + tiN φ w 45 ∨ (τ + w + tiN φ w 45 = (B 40 72).toNatClampNeg ∧ ¬ δ + w < (B 40 73).toNatClampNeg))) then some B else l_X12_home_176 g_FU (iN d) (iN 0) σ (g_up (g_up (g_up (g_up B 40 71 (iN d)) 40 72 (iN (τ + w + tiN φ w 45))) 40 73 (iN (δ + w))) 40 74 (iN (ρ + tiN φ w 1))) := by
  have e89 : ∀ (tb : Int32) (e r : Nat), e ≤ 2000 → (tb = 0 → r = ρ) → (¬ tb = 0 → r = ρ + 1) → b_X12_home_89 (iN d) (iN δ) (iN ρ) (iN w) tb (iN e) σ B = if d < m ∨ (d = m ∧ (e0 < e ∨ (e = e0 ∧ ¬ δ + w < v0))) then some B else l_X12_home_176 g_FU (iN d) (iN 0) σ (g_up (g_up (g_up (g_up B 40 71 (iN d)) 40 72 (iN e)) 40 73 (iN (δ + w))) 40 74 (iN r)) := by
    intro tb e r he h0 h1
    have e136 : b_X12_home_136 (iN d) (iN δ) (iN ρ) (iN w) tb (iN e) σ B = l_X12_home_176 g_FU (iN d) (iN 0) σ (g_up (g_up (g_up (g_up B 40 71 (iN d)) 40 72 (iN e)) 40 73 (iN (δ + w))) 40 74 (iN r)) := by
      unfold b_X12_home_136 b_X12_home_156 b_X12_home_169
      rw [iN_add]
      by_cases kt : tb = 0
      · rw [if_pos kt, h0 kt, show iN ρ + 0 = iN ρ from zI _]; rfl
      · rw [if_neg kt, h1 kt, show iN ρ + 1 = iN (ρ + 1) from iN_add ρ 1]; rfl
    unfold b_X12_home_89
    rw [b1, b2, b3, iN_add, e136]
    have c1 : (iN d < iN m) = (d < m) := iN_lt (by omega) (by omega)
    have c2 : (iN d = iN m) = (d = m) := iN_inj (by omega) (by omega)
    have c3 : (iN e0 < iN e) = (e0 < e) := iN_lt (by omega) (by omega)
    have c4 : (iN e = iN e0) = (e = e0) := iN_inj (by omega) (by omega)
    have c5 : (iN (δ + w) < iN v0) = (δ + w < v0) := iN_lt (by omega) (by omega)
    by_cases k1 : d < m
    · rw [if_pos (by rw [c1]; exact k1), if_pos (Or.inl k1)]
    · rw [if_neg (by rw [c1]; exact k1)]
      by_cases k2 : d = m
      · rw [if_pos (by rw [c2]; exact k2)]
        by_cases k3 : e0 < e
        · rw [if_pos (by rw [c3]; exact k3), if_pos (Or.inr ⟨k2, Or.inl k3⟩)]
        · rw [if_neg (by rw [c3]; exact k3)]
          by_cases k4 : e = e0
          · rw [if_pos (by rw [c4]; exact k4)]
            by_cases k5 : δ + w < v0
            · rw [if_pos (by rw [c5]; exact k5), if_neg (by omega)]
            · rw [if_neg (by rw [c5]; exact k5), if_pos (Or.inr ⟨k2, Or.inr ⟨k4, k5⟩⟩)]
          · rw [if_neg (by rw [c4]; exact k4), if_neg (by omega)]
      · rw [if_neg (by rw [c2]; exact k2), if_neg (by omega)]
  have h0d : ((0 : Int32) < iN d) = True := by rw [show (0 : Int32) = iN 0 from rfl, iN_lt (by omega) (by omega)]; simp; omega
  have hti : tiN φ w 45 ≤ 45 := by unfold tiN; split <;> omega
  rw [b1, b2, b3, iN_cl (by omega), iN_cl (by omega), iN_cl (by omega)]
  unfold f_X12_home b_X12_home_0
  rw [if_neg (show ¬ (iN d : Int32) = 0 by rw [show (0 : Int32) = iN 0 from rfl, iN_inj (by omega) (by omega)]; omega), show (7 : Int32) * iN f = iN (7 * f) from iN_mul 7 f, if_pos (by rw [iN_in (by omega)]; omega), iN_cl (by omega), hw]
  unfold b_X12_home_17
  rw [if_pos (by rw [h0d]; trivial)]
  by_cases k1 : w = 0
  · rw [if_pos (show (iN w : Int32) = 0 by rw [k1]; rfl), if_pos (Or.inl k1)]
  · rw [if_neg (show ¬ (iN w : Int32) = 0 by rw [show (0 : Int32) = iN 0 from rfl, iN_inj (by omega) (by omega)]; exact k1)]
    unfold b_X12_home_28
    have c540 : ((540 : Int32) < iN δ + iN w) = (540 < δ + w) := by rw [iN_add, show (540 : Int32) = iN 540 from rfl, iN_lt (by omega) (by omega)]
    have c270 : ((270 : Int32) < iN φ + iN w) = (270 < φ + w) := by rw [iN_add, show (270 : Int32) = iN 270 from rfl, iN_lt (by omega) (by omega)]
    by_cases k2 : 540 < δ + w
    · rw [if_pos (by rw [c540]; exact k2), if_pos (Or.inr k2)]
    · rw [if_neg (by rw [c540]; exact k2), if_neg (show ¬ (w = 0 ∨ 540 < δ + w) by omega)]
      by_cases kt : 270 < φ + w
      · have e45 : tiN φ w 45 = 45 := by unfold tiN; rw [if_pos kt]
        have er : tiN φ w 1 = 1 := by unfold tiN; rw [if_pos kt]
        rw [if_pos (by rw [c270]; exact kt), e45, er]
        unfold b_X12_home_56 b_X12_home_73
        have c14 : ((1440 : Int32) < iN (τ + w + 45)) = (1440 < τ + w + 45) := by rw [show (1440 : Int32) = iN 1440 from rfl, iN_lt (by omega) (by omega)]
        rw [if_neg (show ¬ (1 : Int32) = 0 by decide), if_pos (by rw [h0d]; trivial), show (iN τ + iN w) + 45 = iN (τ + w + 45) from by rw [iN_add, show (45 : Int32) = iN 45 from rfl, iN_add]]
        by_cases k3 : 1440 < τ + w + 45
        · rw [if_pos (by rw [c14]; exact k3), if_pos k3]
        · rw [if_neg (by rw [c14]; exact k3), if_neg k3]
          exact e89 1 (τ + w + 45) (ρ + 1) (by omega) (fun h => absurd h (by decide)) (fun _ => rfl)
      · have e45 : tiN φ w 45 = 0 := by unfold tiN; rw [if_neg kt]
        have er : tiN φ w 1 = 0 := by unfold tiN; rw [if_neg kt]
        rw [if_neg (by rw [c270]; exact kt), e45, er]
        unfold b_X12_home_56 b_X12_home_73
        have c14 : ((1440 : Int32) < iN (τ + w + 0)) = (1440 < τ + w + 0) := by rw [show (1440 : Int32) = iN 1440 from rfl, iN_lt (by omega) (by omega)]
        rw [if_pos (show (0 : Int32) = 0 from rfl), if_pos (by rw [h0d]; trivial), show (iN τ + iN w) + 0 = iN (τ + w + 0) from by rw [iN_add]; exact zI _]
        by_cases k3 : 1440 < τ + w + 0
        · rw [if_pos (by rw [c14]; exact k3), if_pos k3]
        · rw [if_neg (by rw [c14]; exact k3), if_neg k3]
          exact e89 0 (τ + w + 0) (ρ + 0) (by omega) (fun _ => rfl) (fun h => absurd rfl h)
theorem cnt_or {s i n : Nat} (hi : i < n) (h : s.testBit i = false) : cnt (s ||| 2 ^ i) n = cnt s n + 1 := by
  rw [cnt_bd hi (by rw [or_bit, decide_eq_true rfl, Bool.or_true])]
  congr 1
  refine cnt_congr (fun p _ => ?_)
  rw [bd2_bit, or_bit]
  by_cases e : i = p
  · subst e; rw [h, decide_eq_true rfl]; rfl
  · rw [decide_eq_false e]; simp
theorem cnt_lo {s : Nat} (h : s.testBit 0 = false) : ∀ n, cnt s (n + 1) ≤ n := by
  intro n
  induction n with
  | zero => rw [cnt_f h]; exact Nat.le_refl _
  | succ n ih => rw [cnt]; split <;> omega
theorem tiS_le {φ w : Nat} (h : w ≤ 270) : tiS φ w ≤ 270 := by unfold tiS; split <;> omega
/-- what a search behind a place comes to -/
def tripG (σ : gS) (A0 B0 : gM) (rc rm : Int32 → Int32 → Int32 → Int32 → Int32 → Int32 → Int32 → gS → gM → Option (gM)) (d : Nat) : Prop := ∀ (f τ φ δ ρ S : Nat) (A B : gM), 1 ≤ f → f < 7 → τ ≤ 1440 → φ ≤ 270 → δ ≤ 540 → S < 128 → S.testBit 0 = false → cnt S 7 = d → trQ A0 B0 A B d → ∃ A' B', rc (iN d) (iN f) (iN τ) (iN φ) (iN δ) (iN ρ) (iN (S ||| 1)) σ A = some A' ∧ rm (iN d) (iN f) (iN S) (iN τ) (iN φ) (iN δ) (iN ρ) σ B = some B' ∧ trQ A0 B0 A' B' d
theorem l_trip {σ : gS} {A0 B0 : gM} {rc rm : Int32 → Int32 → Int32 → Int32 → Int32 → Int32 → Int32 → gS → gM → Option (gM)} {d s : Nat} {W O H Y : Nat → Nat} (hS : trS A0 B0 s W O H Y) (hrec : d < 6 → tripG σ A0 B0 rc rm (d + 1)) {f τ φ δ ρ S : Nat} (hd : d ≤ 6) (hf : f < 7) (hτ : τ ≤ 1440) (hφ : φ ≤ 270) (hδ : δ ≤ 540) (hS128 : S < 128) (hS0 : S.testBit 0 = false) (hcnt : cnt S 7 = d) : ∀ k i n, i + k = s + 1 → k < n → 1 ≤ i → ∀ n2, s + 1 - i < n2 → ∀ A B, trQ A0 B0 A B d →
    ∃ A' B', l_X1_goOn_10 rc n (iN d) (iN f) (iN τ) (iN φ) (iN δ) (iN ρ) (iN (S ||| 1)) (iN i) σ A = some A' ∧ l_X12_goesOn_17 rm n2 (iN d) (iN f) (iN S) (iN τ) (iN φ) (iN δ) (iN ρ) (iN i) σ B = some B' ∧ trQ A0 B0 A' B' d := by
  refine up_ind (fun n hi1 n2 hn2 A B hq => ?_) (fun i n hi ih hi1 n2 hn2 A B hq => ?_)
  · obtain ⟨n2, rfl⟩ : ∃ m, n2 = m + 1 := ⟨n2 - 1, by omega⟩
    obtain ⟨s1, s2, s3, _⟩ := hS.keep hq.2.2.1 hq.2.2.2
    refine ⟨A, B, ?_, ?_, hq⟩
    · rw [l_X1_goOn_10, s2, if_pos (by rw [iN_lt (by omega) (by omega)]; omega)]
    · rw [l_X12_goesOn_17, s3, if_pos (by rw [iN_lt (by omega) (by omega)]; omega)]
  · obtain ⟨n2, rfl⟩ : ∃ m, n2 = m + 1 := ⟨n2 - 1, by omega⟩
    obtain ⟨s1, s2, s3, s4, s5, s6⟩ := hS.keep hq.2.2.1 hq.2.2.2
    obtain ⟨w1, w2, w3⟩ := s4 (7 * f + i) (by omega)
    obtain ⟨o1, o2, o3, o4, o5, o6, o7, o8, o9⟩ := s5 i (by omega)
    have hor : (S ||| 1) < 128 := Nat.or_lt_two_pow (n := 7) hS128 (by omega)
    have hbit : (S ||| 1).testBit i = S.testBit i := by rw [show (1 : Nat) = 2 ^ 0 from rfl, or_bit, decide_eq_false (by omega), Bool.or_false]
    have hcs := c_step (rec := rc) (d := d) (f := f) (τ := τ) (φ := φ) (δ := δ) (ρ := ρ) (n := n) (S := S ||| 1) (σ := σ) s1 hi1 (show i ≤ s by omega) s2 hd hf w2 w1 hφ hδ hτ hor o1 o3 o5 o7 o8 o9
    rw [hbit] at hcs
    rw [hcs]
    have hms : l_X12_goesOn_17 rm (n2 + 1) (iN d) (iN f) (iN S) (iN τ) (iN φ) (iN δ) (iN ρ) (iN i) σ B = if S.testBit i = true ∨ W (7 * f + i) = 0 ∨ 540 < δ + W (7 * f + i) ∨ H i < begN (τ + W (7 * f + i) + tiN φ (W (7 * f + i)) 45) (O i) + Y i then l_X12_goesOn_17 rm n2 (iN d) (iN f) (iN S) (iN τ) (iN φ) (iN δ) (iN ρ) (iN (i + 1)) σ B else (rm (iN (d + 1)) (iN i) (iN (S ||| 2 ^ i)) (iN (begN (τ + W (7 * f + i) + tiN φ (W (7 * f + i)) 45) (O i) + Y i)) (iN (keptN (tiS φ (W (7 * f + i))) (Y i) (τ + W (7 * f + i) + tiN φ (W (7 * f + i)) 45) (begN (τ + W (7 * f + i) + tiN φ (W (7 * f + i)) 45) (O i)) φ (W (7 * f + i)))) (iN (δ + W (7 * f + i))) (iN (ρ + tiN φ (W (7 * f + i)) 1)) σ (g_up (g_up B 81 d (iN i)) 82 d (iN (begN (τ + W (7 * f + i) + tiN φ (W (7 * f + i)) 45) (O i))))).bind fun q => l_X12_goesOn_17 rm n2 (iN d) (iN f) (iN S) (iN τ) (iN φ) (iN δ) (iN ρ) (iN (i + 1)) σ q := by
      rw [l_X12_goesOn_17, s3, if_neg (by rw [iN_lt (by omega) (by omega)]; omega), show (7 : Int32) * iN f + iN i = iN (7 * f + i) from by rw [show (7 : Int32) = iN 7 from rfl, iN_mul, iN_add], if_pos (by rw [iN_in (by omega)]; omega), iN_cl (by omega), w3, m85 (h := H i) hi1 (by omega) hd w1 hφ hδ hτ o2 o4 o6 o7 o8 o9]
      have e1 : (iN i : Int32) + 1 = iN (i + 1) := by rw [show (1 : Int32) = iN 1 from rfl, iN_add]
      have c540 : ((540 : Int32) < iN δ + iN (W (7 * f + i))) = (540 < δ + W (7 * f + i)) := by rw [iN_add, show (540 : Int32) = iN 540 from rfl, iN_lt (by omega) (by omega)]
      unfold b_X12_goesOn_243
      rw [e1]
      by_cases k1 : S.testBit i = true
      · rw [if_pos (by rw [iN_bit1 (by omega) (by omega)]; exact k1), if_pos (Or.inl k1)]
      · rw [if_neg (by rw [iN_bit1 (by omega) (by omega)]; exact k1)]
        by_cases k2 : W (7 * f + i) = 0
        · rw [if_pos (by rw [k2]; rfl), if_pos (Or.inr (Or.inl k2))]
        · rw [if_neg (by rw [show (0 : Int32) = iN 0 from rfl, iN_inj (by omega) (by omega)]; exact k2)]
          by_cases k3 : 540 < δ + W (7 * f + i)
          · rw [if_pos (by rw [c540]; exact k3), if_pos (Or.inr (Or.inr (Or.inl k3)))]
          · rw [if_neg (by rw [c540]; exact k3)]
            by_cases k4 : H i < begN (τ + W (7 * f + i) + tiN φ (W (7 * f + i)) 45) (O i) + Y i
            · rw [if_pos k4, if_pos (Or.inr (Or.inr (Or.inr k4)))]
            · rw [if_neg k4, if_neg (by
                rintro (q | q | q | q)
                · exact k1 q
                · exact k2 q
                · exact k3 q
                · exact k4 q)]
    rw [hms]
    have ih := ih (by omega) n2 (by omega)
    generalize hwd : W (7 * f + i) = w at *
    by_cases kk : S.testBit i = true ∨ w = 0 ∨ 540 < δ + w ∨ H i < begN (τ + w + tiN φ w 45) (O i) + Y i
    · rw [if_pos kk, if_pos (by rcases kk with q | q | q | q; exact Or.inr (Or.inr (Or.inl q)); exact Or.inl q; exact Or.inr (Or.inl q); exact Or.inr (Or.inr (Or.inr (Or.inl q))))]
      exact ih A B hq
    · have k1 : S.testBit i = false := by
        cases h : S.testBit i
        · rfl
        · exact absurd (Or.inl h) kk
      have k3 : ¬ 540 < δ + w := fun h => kk (Or.inr (Or.inr (Or.inl h)))
      have k4 : ¬ H i < begN (τ + w + tiN φ w 45) (O i) + Y i := fun h => kk (Or.inr (Or.inr (Or.inr h)))
      have hc2 := cnt_or (show i < 7 by omega) k1
      have h00 : (S ||| 2 ^ i).testBit 0 = false := by rw [or_bit, hS0, decide_eq_false (by omega)]; rfl
      have hd6 : d < 6 := by have : cnt (S ||| 2 ^ i) 7 ≤ 6 := cnt_lo h00 6; omega
      rw [if_neg kk, if_neg (by
        rintro (q | q | q | q | q)
        · exact kk (Or.inr (Or.inl q))
        · exact k3 q
        · rw [k1] at q; cases q
        · exact k4 q
        · exact q hd6)]
      have hlt : 2 ^ i < 128 := by have : 2 ^ i ≤ 2 ^ 6 := Nat.pow_le_pow_right (by omega) (by omega); omega
      have hkept : keptN (tiS φ w) (Y i) (τ + w + tiN φ w 45) (begN (τ + w + tiN φ w 45) (O i)) φ w ≤ 270 := by
        have := tiS_le (φ := φ) w1
        unfold keptN; split <;> omega
      have hor2 : (S ||| 1) ||| 2 ^ i = (S ||| 2 ^ i) ||| 1 := by rw [Nat.or_assoc, Nat.or_comm 1, ← Nat.or_assoc]
      rw [hor2]
      obtain ⟨hB, hP, hC, hM⟩ := hq
      obtain ⟨A', B', r1, r2, r3⟩ := hrec hd6 i (begN (τ + w + tiN φ w 45) (O i) + Y i) _ (δ + w) (ρ + tiN φ w 1) (S ||| 2 ^ i) (g_up (g_up A 29 d (iN i)) 30 d (iN (begN (τ + w + tiN φ w 45) (O i)))) (g_up (g_up B 81 d (iN i)) 82 d (iN (begN (τ + w + tiN φ w 45) (O i)))) hi1 (by omega) (by omega) hkept (by omega) (Nat.or_lt_two_pow (n := 7) hS128 hlt) h00 (by rw [hc2, hcnt]) (by
        refine ⟨?_, fun k hk => ?_, fun a j h1 h2 => ?_, fun a j h1 h2 => ?_⟩
        · unfold trB at *
          simp (disch := omega) only [li_0, li_1, li_2, li_3, li_4, li_5, li_6, li_7, li_8, li_9, li_10, li_11, li_12, li_13, li_14, li_15, li_16, li_18, li_19, li_20, li_24, li_28, li_29, li_30, li_31, li_32, li_36, li_40, li_41, li_42, li_43, li_45, li_48, li_49, li_50, li_56, li_57, li_59, li_60, li_61, li_62, li_63, li_64, li_97, li_99, li_100, li_120, li_121, li_122, li_255, li_270, li_300, li_400, li_500, li_540, li_1000, li_1024, li_1440, li_9999, li_11264, li_32768, li_268435456, li_1073741824, li_m, li_o, iN_add, iN_mul, iN_lt, iN_in, iN_cl, iN_inj, iM_ne, iM_ne', iN_or, iN_xor, iN_bd, sh31n, iN_shl2, iN_shr2, iN_bit2, Nat.one_mul, oB, iff_t, iff_f, if_true, if_false, g_up_ne, g_up_eq, g_z_ne, g_z_eq]
          exact hB
        · by_cases e : k = d
          · subst e; simp (disch := omega) only [li_0, li_1, li_2, li_3, li_4, li_5, li_6, li_7, li_8, li_9, li_10, li_11, li_12, li_13, li_14, li_15, li_16, li_18, li_19, li_20, li_24, li_28, li_29, li_30, li_31, li_32, li_36, li_40, li_41, li_42, li_43, li_45, li_48, li_49, li_50, li_56, li_57, li_59, li_60, li_61, li_62, li_63, li_64, li_97, li_99, li_100, li_120, li_121, li_122, li_255, li_270, li_300, li_400, li_500, li_540, li_1000, li_1024, li_1440, li_9999, li_11264, li_32768, li_268435456, li_1073741824, li_m, li_o, iN_add, iN_mul, iN_lt, iN_in, iN_cl, iN_inj, iM_ne, iM_ne', iN_or, iN_xor, iN_bd, sh31n, iN_shl2, iN_shr2, iN_bit2, Nat.one_mul, oB, iff_t, iff_f, if_true, if_false, g_up_ne, g_up_eq, g_z_ne, g_z_eq]
            exact ⟨trivial, trivial⟩
          · simp (disch := omega) only [li_0, li_1, li_2, li_3, li_4, li_5, li_6, li_7, li_8, li_9, li_10, li_11, li_12, li_13, li_14, li_15, li_16, li_18, li_19, li_20, li_24, li_28, li_29, li_30, li_31, li_32, li_36, li_40, li_41, li_42, li_43, li_45, li_48, li_49, li_50, li_56, li_57, li_59, li_60, li_61, li_62, li_63, li_64, li_97, li_99, li_100, li_120, li_121, li_122, li_255, li_270, li_300, li_400, li_500, li_540, li_1000, li_1024, li_1440, li_9999, li_11264, li_32768, li_268435456, li_1073741824, li_m, li_o, iN_add, iN_mul, iN_lt, iN_in, iN_cl, iN_inj, iM_ne, iM_ne', iN_or, iN_xor, iN_bd, sh31n, iN_shl2, iN_shr2, iN_bit2, Nat.one_mul, oB, iff_t, iff_f, if_true, if_false, g_up_ne, g_up_eq, g_z_ne, g_z_eq]
            exact hP k (by omega)
        · simp (disch := omega) only [li_0, li_1, li_2, li_3, li_4, li_5, li_6, li_7, li_8, li_9, li_10, li_11, li_12, li_13, li_14, li_15, li_16, li_18, li_19, li_20, li_24, li_28, li_29, li_30, li_31, li_32, li_36, li_40, li_41, li_42, li_43, li_45, li_48, li_49, li_50, li_56, li_57, li_59, li_60, li_61, li_62, li_63, li_64, li_97, li_99, li_100, li_120, li_121, li_122, li_255, li_270, li_300, li_400, li_500, li_540, li_1000, li_1024, li_1440, li_9999, li_11264, li_32768, li_268435456, li_1073741824, li_m, li_o, iN_add, iN_mul, iN_lt, iN_in, iN_cl, iN_inj, iM_ne, iM_ne', iN_or, iN_xor, iN_bd, sh31n, iN_shl2, iN_shr2, iN_bit2, Nat.one_mul, oB, iff_t, iff_f, if_true, if_false, g_up_ne, g_up_eq, g_z_ne, g_z_eq]
          exact hC a j h1 h2
        · simp (disch := omega) only [li_0, li_1, li_2, li_3, li_4, li_5, li_6, li_7, li_8, li_9, li_10, li_11, li_12, li_13, li_14, li_15, li_16, li_18, li_19, li_20, li_24, li_28, li_29, li_30, li_31, li_32, li_36, li_40, li_41, li_42, li_43, li_45, li_48, li_49, li_50, li_56, li_57, li_59, li_60, li_61, li_62, li_63, li_64, li_97, li_99, li_100, li_120, li_121, li_122, li_255, li_270, li_300, li_400, li_500, li_540, li_1000, li_1024, li_1440, li_9999, li_11264, li_32768, li_268435456, li_1073741824, li_m, li_o, iN_add, iN_mul, iN_lt, iN_in, iN_cl, iN_inj, iM_ne, iM_ne', iN_or, iN_xor, iN_bd, sh31n, iN_shl2, iN_shr2, iN_bit2, Nat.one_mul, oB, iff_t, iff_f, if_true, if_false, g_up_ne, g_up_eq, g_z_ne, g_z_eq]
          exact hM a j h1 h2)
      rw [r1, r2]
      exact ih A' B' ⟨r3.1, fun k hk => r3.2.1 k (by omega), r3.2.2.1, r3.2.2.2⟩
theorem trip_rec_aux {σ : gS} {A0 B0 : gM} {d s g1 g2 : Nat} {W O H Y : Nat → Nat} (hS : trS A0 B0 s W O H Y) (hrec : d < 6 → tripG σ A0 B0 (grp_X1_goOn (g1 - 1)) (grp_X12_goesOn (g2 - 1)) (d + 1)) (hd1 : 1 ≤ d) (hd : d ≤ 6) (h1 : 0 < g1) (h2 : 0 < g2) : tripG σ A0 B0 (grp_X1_goOn g1) (grp_X12_goesOn g2) d := by
  obtain ⟨g1, rfl⟩ : ∃ m, g1 = m + 1 := ⟨g1 - 1, by omega⟩
  obtain ⟨g2, rfl⟩ : ∃ m, g2 = m + 1 := ⟨g2 - 1, by omega⟩
  intro f τ φ δ ρ S A B hf1 hf hτ hφ hδ hS128 hS0 hcnt hq
  have hK := hS.keep hq.2.2.1 hq.2.2.2
  have hq0 := hq
  obtain ⟨s1, s2, s3, s4, s5, s6⟩ := hK
  obtain ⟨w1, w2, w3⟩ := s4 (7 * f) (by omega)
  obtain ⟨⟨⟨m, m1, m2, m3, m4⟩, ⟨e0, e1, e2, e3⟩, ⟨v0, v1, v2, v3⟩, r0⟩, _⟩ := hq
  have hti : tiN φ (W (7 * f)) 45 ≤ 45 := by unfold tiN; split <;> omega
  rw [show grp_X1_goOn (g1 + 1) = b_X1_goOn_0 (grp_X1_goOn g1) from rfl, show grp_X12_goesOn (g2 + 1) = b_X12_goesOn_0 (grp_X12_goesOn g2) from rfl]
  unfold b_X1_goOn_0 b_X12_goesOn_0
  rw [if_neg (show ¬ (6 : Int32) < iN d by rw [show (6 : Int32) = iN 6 from rfl, iN_lt (by omega) (by omega)]; omega), homeM_eq hd1 hd hf w3 w1 hφ hδ hτ m3 e3 v3 m1 e1 v1, show g_FU = 99999 + 1 from rfl]
  have hc0 := c_step0 (rec := grp_X1_goOn g1) (x1 := iN d) (x7 := iN (S ||| 1)) (τ := τ) (ρ := ρ) (n := 99999) (σ := σ) s1 s2 hf w2 w1 hφ hδ
  rw [show (0 : Int32) = iN 0 from rfl, hc0]
  by_cases k1 : W (7 * f) = 0 ∨ 540 < δ + W (7 * f)
  · rw [if_pos k1, if_pos k1, oB]
    exact l_trip (σ := σ) (rc := grp_X1_goOn g1) (rm := grp_X12_goesOn g2) (ρ := ρ) hS hrec hd hf hτ hφ hδ hS128 hS0 hcnt s 1 99999 (by omega) (by omega) (by omega) (99999 + 1) (by omega) A B hq0
  · rw [if_neg k1, if_neg k1]
    obtain ⟨A', B', a1, a2, a3⟩ := home_both (σ := σ) (d := d) (e := τ + W (7 * f) + tiN φ (W (7 * f)) 45) (v := δ + W (7 * f)) (r := iN (ρ + tiN φ (W (7 * f)) 1)) hd (by omega) (by omega) hq0
    rw [show g_FU = 99999 + 1 from rfl] at a2
    rw [a1, a2, oB, oB]
    exact l_trip (σ := σ) (rc := grp_X1_goOn g1) (rm := grp_X12_goesOn g2) (ρ := ρ) hS hrec hd hf hτ hφ hδ hS128 hS0 hcnt s 1 99999 (by omega) (by omega) (by omega) (99999 + 1) (by omega) A' B' a3
theorem trip_rec {σ : gS} {A0 B0 : gM} {s : Nat} {W O H Y : Nat → Nat} (hS : trS A0 B0 s W O H Y) : ∀ r d g1 g2, d + r = 6 → 1 ≤ d → r < g1 → r < g2 → tripG σ A0 B0 (grp_X1_goOn g1) (grp_X12_goesOn g2) d := by
  intro r
  induction r with
  | zero =>
    intro d g1 g2 hd hd1 h1 h2
    exact trip_rec_aux hS (fun h => by omega) hd1 (by omega) h1 h2
  | succ r ih =>
    intro d g1 g2 hd hd1 h1 h2
    exact trip_rec_aux hS (fun h => ih (d + 1) (g1 - 1) (g2 - 1) (by omega) (by omega) (by omega) (by omega)) hd1 (by omega) (by omega) (by omega)
theorem call_trip {σ : gS} {M : gM} (h : Inv σ M) (x : Int32) : ∃ r M1 M2, f_X11_trip x σ M = some (r, M1) ∧ f_X12_trip x σ M1 = some (r, M2) ∧ Inv σ M2 := by
  obtain ⟨P, T, C, R, F, hL, hP, hT, hD, hN, hB, hK, hC, hX⟩ := h
  refine lock (σ := σ) (Q := fun M => Inv σ M) (fun Mm hg => ?_)
  have hme := mEq.of hg
  rcases in_cases x (a := 0) (b := 1440) (by omega) (by omega) with ⟨τ, rfl, _, hτ, e⟩ | ⟨e, _⟩
  · have hC0 := hC
    obtain ⟨⟨s, s1, s2, s3⟩, q1, q2, q3, q4, q5, q6, q7, q8, q9⟩ := hC0
    -- the functions that sights and ways are
    have hW : ∀ k, ∃ w, k < 49 → w ≤ 270 ∧ M 28 k = iN w ∧ M 80 k = iN w := fun k => by
      by_cases hk : k < 49
      · obtain ⟨w, h1⟩ := q2 k hk; exact ⟨w, fun _ => h1⟩
      · exact ⟨0, fun h => absurd h hk⟩
    have hO : ∀ k, ∃ o h y, k < 7 → M 25 k = iN o ∧ M 77 k = iN o ∧ M 26 k = iN h ∧ M 78 k = iN h ∧ M 27 k = iN y ∧ M 79 k = iN y ∧ o ≤ 1440 ∧ h ≤ 1440 ∧ y ≤ 300 := fun k => by
      by_cases hk : k < 7
      · obtain ⟨o, h, y, h1⟩ := q1 k hk; exact ⟨o, h, y, fun _ => h1⟩
      · exact ⟨0, 0, 0, fun h => absurd h hk⟩
    obtain ⟨W, hW⟩ := Classical.axiomOfChoice hW
    obtain ⟨O, hO⟩ := Classical.axiomOfChoice hO
    obtain ⟨H, hO⟩ := Classical.axiomOfChoice hO
    obtain ⟨Y, hO⟩ := Classical.axiomOfChoice hO
    let A0 : gM := (g_up (g_up (g_up (g_up (g_up M 24 9 (iN 1)) 24 10 (iN 0)) 24 11 (iN τ)) 24 12 (iN 0)) 24 13 (iN 0))
    let B0 : gM := (g_up (g_up (g_up (g_up (g_up Mm 40 70 (iN 1)) 40 71 (iN 0)) 40 72 (iN τ)) 40 73 (iN 0)) 40 74 (iN 0))
    have hW0 : W 0 = 0 := by
      have := (hW 0 (by omega)).2.2
      rw [q9, iN_inj (by omega) (by have := (hW 0 (by omega)).1; omega)] at this
      exact this.symm
    have hS : trS A0 B0 s W O H Y := by
      refine ⟨s1, ?_, ?_, fun k hk => ?_, fun k hk => ?_, hW0⟩
      · show A0 24 0 = _; simp only [A0]; simp (disch := omega) only [li_0, li_1, li_2, li_3, li_4, li_5, li_6, li_7, li_8, li_9, li_10, li_11, li_12, li_13, li_14, li_15, li_16, li_18, li_19, li_20, li_24, li_28, li_29, li_30, li_31, li_32, li_36, li_40, li_41, li_42, li_43, li_45, li_48, li_49, li_50, li_56, li_57, li_59, li_60, li_61, li_62, li_63, li_64, li_97, li_99, li_100, li_120, li_121, li_122, li_255, li_270, li_300, li_400, li_500, li_540, li_1000, li_1024, li_1440, li_9999, li_11264, li_32768, li_268435456, li_1073741824, li_m, li_o, iN_add, iN_mul, iN_lt, iN_in, iN_cl, iN_inj, iM_ne, iM_ne', iN_or, iN_xor, iN_bd, sh31n, iN_shl2, iN_shr2, iN_bit2, Nat.one_mul, oB, iff_t, iff_f, if_true, if_false, g_up_ne, g_up_eq, g_z_ne, g_z_eq, s2]
      · show B0 40 63 = _; simp only [B0]; simp (disch := omega) only [li_0, li_1, li_2, li_3, li_4, li_5, li_6, li_7, li_8, li_9, li_10, li_11, li_12, li_13, li_14, li_15, li_16, li_18, li_19, li_20, li_24, li_28, li_29, li_30, li_31, li_32, li_36, li_40, li_41, li_42, li_43, li_45, li_48, li_49, li_50, li_56, li_57, li_59, li_60, li_61, li_62, li_63, li_64, li_97, li_99, li_100, li_120, li_121, li_122, li_255, li_270, li_300, li_400, li_500, li_540, li_1000, li_1024, li_1440, li_9999, li_11264, li_32768, li_268435456, li_1073741824, li_m, li_o, iN_add, iN_mul, iN_lt, iN_in, iN_cl, iN_inj, iM_ne, iM_ne', iN_or, iN_xor, iN_bd, sh31n, iN_shl2, iN_shr2, iN_bit2, Nat.one_mul, oB, iff_t, iff_f, if_true, if_false, g_up_ne, g_up_eq, g_z_ne, g_z_eq, hme 40 63 (by omega) (by omega), s3]
      · simp only [A0, B0]
        simp (disch := omega) only [li_0, li_1, li_2, li_3, li_4, li_5, li_6, li_7, li_8, li_9, li_10, li_11, li_12, li_13, li_14, li_15, li_16, li_18, li_19, li_20, li_24, li_28, li_29, li_30, li_31, li_32, li_36, li_40, li_41, li_42, li_43, li_45, li_48, li_49, li_50, li_56, li_57, li_59, li_60, li_61, li_62, li_63, li_64, li_97, li_99, li_100, li_120, li_121, li_122, li_255, li_270, li_300, li_400, li_500, li_540, li_1000, li_1024, li_1440, li_9999, li_11264, li_32768, li_268435456, li_1073741824, li_m, li_o, iN_add, iN_mul, iN_lt, iN_in, iN_cl, iN_inj, iM_ne, iM_ne', iN_or, iN_xor, iN_bd, sh31n, iN_shl2, iN_shr2, iN_bit2, Nat.one_mul, oB, iff_t, iff_f, if_true, if_false, g_up_ne, g_up_eq, g_z_ne, g_z_eq, hme 80 k (by omega) (by omega)]
        exact hW k hk
      · simp only [A0, B0]
        simp (disch := omega) only [li_0, li_1, li_2, li_3, li_4, li_5, li_6, li_7, li_8, li_9, li_10, li_11, li_12, li_13, li_14, li_15, li_16, li_18, li_19, li_20, li_24, li_28, li_29, li_30, li_31, li_32, li_36, li_40, li_41, li_42, li_43, li_45, li_48, li_49, li_50, li_56, li_57, li_59, li_60, li_61, li_62, li_63, li_64, li_97, li_99, li_100, li_120, li_121, li_122, li_255, li_270, li_300, li_400, li_500, li_540, li_1000, li_1024, li_1440, li_9999, li_11264, li_32768, li_268435456, li_1073741824, li_m, li_o, iN_add, iN_mul, iN_lt, iN_in, iN_cl, iN_inj, iM_ne, iM_ne', iN_or, iN_xor, iN_bd, sh31n, iN_shl2, iN_shr2, iN_bit2, Nat.one_mul, oB, iff_t, iff_f, if_true, if_false, g_up_ne, g_up_eq, g_z_ne, g_z_eq, hme 77 k (by omega) (by omega), hme 78 k (by omega) (by omega), hme 79 k (by omega) (by omega)]
        exact hO k hk
    have hQ : trQ A0 B0 A0 B0 0 := by
      refine ⟨⟨⟨0, by omega, ?_, ?_, fun k hk => by omega⟩, ⟨τ, by omega, ?_, ?_⟩, ⟨0, by omega, ?_, ?_⟩, ?_⟩, fun k hk => by omega, fun a j _ _ => rfl, fun a j _ _ => rfl⟩
      · simp only [A0]; simp (disch := omega) only [li_0, li_1, li_2, li_3, li_4, li_5, li_6, li_7, li_8, li_9, li_10, li_11, li_12, li_13, li_14, li_15, li_16, li_18, li_19, li_20, li_24, li_28, li_29, li_30, li_31, li_32, li_36, li_40, li_41, li_42, li_43, li_45, li_48, li_49, li_50, li_56, li_57, li_59, li_60, li_61, li_62, li_63, li_64, li_97, li_99, li_100, li_120, li_121, li_122, li_255, li_270, li_300, li_400, li_500, li_540, li_1000, li_1024, li_1440, li_9999, li_11264, li_32768, li_268435456, li_1073741824, li_m, li_o, iN_add, iN_mul, iN_lt, iN_in, iN_cl, iN_inj, iM_ne, iM_ne', iN_or, iN_xor, iN_bd, sh31n, iN_shl2, iN_shr2, iN_bit2, Nat.one_mul, oB, iff_t, iff_f, if_true, if_false, g_up_ne, g_up_eq, g_z_ne, g_z_eq]
      · simp only [B0]; simp (disch := omega) only [li_0, li_1, li_2, li_3, li_4, li_5, li_6, li_7, li_8, li_9, li_10, li_11, li_12, li_13, li_14, li_15, li_16, li_18, li_19, li_20, li_24, li_28, li_29, li_30, li_31, li_32, li_36, li_40, li_41, li_42, li_43, li_45, li_48, li_49, li_50, li_56, li_57, li_59, li_60, li_61, li_62, li_63, li_64, li_97, li_99, li_100, li_120, li_121, li_122, li_255, li_270, li_300, li_400, li_500, li_540, li_1000, li_1024, li_1440, li_9999, li_11264, li_32768, li_268435456, li_1073741824, li_m, li_o, iN_add, iN_mul, iN_lt, iN_in, iN_cl, iN_inj, iM_ne, iM_ne', iN_or, iN_xor, iN_bd, sh31n, iN_shl2, iN_shr2, iN_bit2, Nat.one_mul, oB, iff_t, iff_f, if_true, if_false, g_up_ne, g_up_eq, g_z_ne, g_z_eq]
      · simp only [A0]; simp (disch := omega) only [li_0, li_1, li_2, li_3, li_4, li_5, li_6, li_7, li_8, li_9, li_10, li_11, li_12, li_13, li_14, li_15, li_16, li_18, li_19, li_20, li_24, li_28, li_29, li_30, li_31, li_32, li_36, li_40, li_41, li_42, li_43, li_45, li_48, li_49, li_50, li_56, li_57, li_59, li_60, li_61, li_62, li_63, li_64, li_97, li_99, li_100, li_120, li_121, li_122, li_255, li_270, li_300, li_400, li_500, li_540, li_1000, li_1024, li_1440, li_9999, li_11264, li_32768, li_268435456, li_1073741824, li_m, li_o, iN_add, iN_mul, iN_lt, iN_in, iN_cl, iN_inj, iM_ne, iM_ne', iN_or, iN_xor, iN_bd, sh31n, iN_shl2, iN_shr2, iN_bit2, Nat.one_mul, oB, iff_t, iff_f, if_true, if_false, g_up_ne, g_up_eq, g_z_ne, g_z_eq]
      · simp only [B0]; simp (disch := omega) only [li_0, li_1, li_2, li_3, li_4, li_5, li_6, li_7, li_8, li_9, li_10, li_11, li_12, li_13, li_14, li_15, li_16, li_18, li_19, li_20, li_24, li_28, li_29, li_30, li_31, li_32, li_36, li_40, li_41, li_42, li_43, li_45, li_48, li_49, li_50, li_56, li_57, li_59, li_60, li_61, li_62, li_63, li_64, li_97, li_99, li_100, li_120, li_121, li_122, li_255, li_270, li_300, li_400, li_500, li_540, li_1000, li_1024, li_1440, li_9999, li_11264, li_32768, li_268435456, li_1073741824, li_m, li_o, iN_add, iN_mul, iN_lt, iN_in, iN_cl, iN_inj, iM_ne, iM_ne', iN_or, iN_xor, iN_bd, sh31n, iN_shl2, iN_shr2, iN_bit2, Nat.one_mul, oB, iff_t, iff_f, if_true, if_false, g_up_ne, g_up_eq, g_z_ne, g_z_eq]
      · simp only [A0]; simp (disch := omega) only [li_0, li_1, li_2, li_3, li_4, li_5, li_6, li_7, li_8, li_9, li_10, li_11, li_12, li_13, li_14, li_15, li_16, li_18, li_19, li_20, li_24, li_28, li_29, li_30, li_31, li_32, li_36, li_40, li_41, li_42, li_43, li_45, li_48, li_49, li_50, li_56, li_57, li_59, li_60, li_61, li_62, li_63, li_64, li_97, li_99, li_100, li_120, li_121, li_122, li_255, li_270, li_300, li_400, li_500, li_540, li_1000, li_1024, li_1440, li_9999, li_11264, li_32768, li_268435456, li_1073741824, li_m, li_o, iN_add, iN_mul, iN_lt, iN_in, iN_cl, iN_inj, iM_ne, iM_ne', iN_or, iN_xor, iN_bd, sh31n, iN_shl2, iN_shr2, iN_bit2, Nat.one_mul, oB, iff_t, iff_f, if_true, if_false, g_up_ne, g_up_eq, g_z_ne, g_z_eq]
      · simp only [B0]; simp (disch := omega) only [li_0, li_1, li_2, li_3, li_4, li_5, li_6, li_7, li_8, li_9, li_10, li_11, li_12, li_13, li_14, li_15, li_16, li_18, li_19, li_20, li_24, li_28, li_29, li_30, li_31, li_32, li_36, li_40, li_41, li_42, li_43, li_45, li_48, li_49, li_50, li_56, li_57, li_59, li_60, li_61, li_62, li_63, li_64, li_97, li_99, li_100, li_120, li_121, li_122, li_255, li_270, li_300, li_400, li_500, li_540, li_1000, li_1024, li_1440, li_9999, li_11264, li_32768, li_268435456, li_1073741824, li_m, li_o, iN_add, iN_mul, iN_lt, iN_in, iN_cl, iN_inj, iM_ne, iM_ne', iN_or, iN_xor, iN_bd, sh31n, iN_shl2, iN_shr2, iN_bit2, Nat.one_mul, oB, iff_t, iff_f, if_true, if_false, g_up_ne, g_up_eq, g_z_ne, g_z_eq]
      · simp only [A0, B0]; simp (disch := omega) only [li_0, li_1, li_2, li_3, li_4, li_5, li_6, li_7, li_8, li_9, li_10, li_11, li_12, li_13, li_14, li_15, li_16, li_18, li_19, li_20, li_24, li_28, li_29, li_30, li_31, li_32, li_36, li_40, li_41, li_42, li_43, li_45, li_48, li_49, li_50, li_56, li_57, li_59, li_60, li_61, li_62, li_63, li_64, li_97, li_99, li_100, li_120, li_121, li_122, li_255, li_270, li_300, li_400, li_500, li_540, li_1000, li_1024, li_1440, li_9999, li_11264, li_32768, li_268435456, li_1073741824, li_m, li_o, iN_add, iN_mul, iN_lt, iN_in, iN_cl, iN_inj, iM_ne, iM_ne', iN_or, iN_xor, iN_bd, sh31n, iN_shl2, iN_shr2, iN_bit2, Nat.one_mul, oB, iff_t, iff_f, if_true, if_false, g_up_ne, g_up_eq, g_z_ne, g_z_eq]
    have hrec : (0 : Nat) < 6 → tripG σ A0 B0 (grp_X1_goOn 63) (grp_X12_goesOn 63) (0 + 1) := fun _ => trip_rec hS 5 1 63 63 (by omega) (by omega) (by omega) (by omega)
    obtain ⟨A', B', a1, a2, a3⟩ := l_trip (σ := σ) (rc := grp_X1_goOn 63) (rm := grp_X12_goesOn 63) (d := 0) (f := 0) (τ := τ) (φ := 0) (δ := 0) (ρ := 0) (S := 0) hS hrec (by omega) (by omega) hτ (by omega) (by omega) (by omega) rfl (cnt_zero (fun p _ => Nat.zero_testBit p)) s 1 99999 (by omega) (by omega) (by omega) (99999 + 1) (by omega) A0 B0 hQ
    obtain ⟨⟨⟨m, m1, m2, m3, m4⟩, ⟨e0, e1, e2, e3⟩, ⟨v0, v1, v2, v3⟩, r0⟩, _, t3, t4⟩ := a3
    obtain ⟨z1, z2, z3, z4, z5, z6⟩ := hS
    refine ⟨iN m, A', B', ?_, ?_, fun a k h1 h2 => ?_, fun a k h => ?_, ?_⟩
    · have hgo : f_X1_goOn 64 0 0 (iN τ) 0 0 0 1 σ A0 = some A' := by
        unfold f_X1_goOn
        rw [show grp_X1_goOn 64 = b_X1_goOn_0 (grp_X1_goOn 63) from rfl]
        unfold b_X1_goOn_0
        rw [if_neg (by decide), show g_FU = 99999 + 1 from rfl]
        have hc0 := c_step0 (rec := grp_X1_goOn 63) (x1 := iN 0) (x7 := iN 1) (f := 0) (τ := τ) (φ := 0) (δ := 0) (ρ := 0) (n := 99999) (σ := σ) z1 z2 (by omega) (z4 0 (by omega)).2.1 (z4 0 (by omega)).1 (by omega) (by omega)
        refine Eq.trans hc0 ?_
        rw [if_pos (Or.inl hW0)]
        exact a1
      unfold f_X11_trip b_X11_trip_0 f_X1_plan b_X1_plan_0 b_X1_plan_28
      simp (disch := omega) only [li_0, li_1, li_2, li_3, li_4, li_5, li_6, li_7, li_8, li_9, li_10, li_11, li_12, li_13, li_14, li_15, li_16, li_18, li_19, li_20, li_24, li_28, li_29, li_30, li_31, li_32, li_36, li_40, li_41, li_42, li_43, li_45, li_48, li_49, li_50, li_56, li_57, li_59, li_60, li_61, li_62, li_63, li_64, li_97, li_99, li_100, li_120, li_121, li_122, li_255, li_270, li_300, li_400, li_500, li_540, li_1000, li_1024, li_1440, li_9999, li_11264, li_32768, li_268435456, li_1073741824, li_m, li_o, iN_add, iN_mul, iN_lt, iN_in, iN_cl, iN_inj, iM_ne, iM_ne', iN_or, iN_xor, iN_bd, sh31n, iN_shl2, iN_shr2, iN_bit2, Nat.one_mul, oB, iff_t, iff_f, if_true, if_false, g_up_ne, g_up_eq, g_z_ne, g_z_eq, w_in, e]
      rw [show f_X1_goOn 64 (iN 0) (iN 0) (iN τ) (iN 0) (iN 0) (iN 0) (iN 1) σ (g_up (g_up (g_up (g_up (g_up M 24 9 (iN 1)) 24 10 (iN 0)) 24 11 (iN τ)) 24 12 (iN 0)) 24 13 (iN 0)) = some A' from hgo, oB, oB, m2]
    · have hgo : f_X12_goesOn 64 0 0 0 (iN τ) 0 0 0 σ B0 = some B' := by
        unfold f_X12_goesOn
        rw [show grp_X12_goesOn 64 = b_X12_goesOn_0 (grp_X12_goesOn 63) from rfl]
        unfold b_X12_goesOn_0
        have hhome : f_X12_home 0 0 (iN τ) 0 0 0 σ B0 = some B0 := by
          have y1 : B0 40 71 = iN 0 := by simp only [B0]; simp (disch := omega) only [li_0, li_1, li_2, li_3, li_4, li_5, li_6, li_7, li_8, li_9, li_10, li_11, li_12, li_13, li_14, li_15, li_16, li_18, li_19, li_20, li_24, li_28, li_29, li_30, li_31, li_32, li_36, li_40, li_41, li_42, li_43, li_45, li_48, li_49, li_50, li_56, li_57, li_59, li_60, li_61, li_62, li_63, li_64, li_97, li_99, li_100, li_120, li_121, li_122, li_255, li_270, li_300, li_400, li_500, li_540, li_1000, li_1024, li_1440, li_9999, li_11264, li_32768, li_268435456, li_1073741824, li_m, li_o, iN_add, iN_mul, iN_lt, iN_in, iN_cl, iN_inj, iM_ne, iM_ne', iN_or, iN_xor, iN_bd, sh31n, iN_shl2, iN_shr2, iN_bit2, Nat.one_mul, oB, iff_t, iff_f, if_true, if_false, g_up_ne, g_up_eq, g_z_ne, g_z_eq]
          have y2 : B0 40 72 = iN τ := by simp only [B0]; simp (disch := omega) only [li_0, li_1, li_2, li_3, li_4, li_5, li_6, li_7, li_8, li_9, li_10, li_11, li_12, li_13, li_14, li_15, li_16, li_18, li_19, li_20, li_24, li_28, li_29, li_30, li_31, li_32, li_36, li_40, li_41, li_42, li_43, li_45, li_48, li_49, li_50, li_56, li_57, li_59, li_60, li_61, li_62, li_63, li_64, li_97, li_99, li_100, li_120, li_121, li_122, li_255, li_270, li_300, li_400, li_500, li_540, li_1000, li_1024, li_1440, li_9999, li_11264, li_32768, li_268435456, li_1073741824, li_m, li_o, iN_add, iN_mul, iN_lt, iN_in, iN_cl, iN_inj, iM_ne, iM_ne', iN_or, iN_xor, iN_bd, sh31n, iN_shl2, iN_shr2, iN_bit2, Nat.one_mul, oB, iff_t, iff_f, if_true, if_false, g_up_ne, g_up_eq, g_z_ne, g_z_eq]
          have y3 : B0 40 73 = iN 0 := by simp only [B0]; simp (disch := omega) only [li_0, li_1, li_2, li_3, li_4, li_5, li_6, li_7, li_8, li_9, li_10, li_11, li_12, li_13, li_14, li_15, li_16, li_18, li_19, li_20, li_24, li_28, li_29, li_30, li_31, li_32, li_36, li_40, li_41, li_42, li_43, li_45, li_48, li_49, li_50, li_56, li_57, li_59, li_60, li_61, li_62, li_63, li_64, li_97, li_99, li_100, li_120, li_121, li_122, li_255, li_270, li_300, li_400, li_500, li_540, li_1000, li_1024, li_1440, li_9999, li_11264, li_32768, li_268435456, li_1073741824, li_m, li_o, iN_add, iN_mul, iN_lt, iN_in, iN_cl, iN_inj, iM_ne, iM_ne', iN_or, iN_xor, iN_bd, sh31n, iN_shl2, iN_shr2, iN_bit2, Nat.one_mul, oB, iff_t, iff_f, if_true, if_false, g_up_ne, g_up_eq, g_z_ne, g_z_eq]
          unfold f_X12_home b_X12_home_0 b_X12_home_17 b_X12_home_28 b_X12_home_56 b_X12_home_73 b_X12_home_89
          simp (disch := omega) only [li_0, li_1, li_2, li_3, li_4, li_5, li_6, li_7, li_8, li_9, li_10, li_11, li_12, li_13, li_14, li_15, li_16, li_18, li_19, li_20, li_24, li_28, li_29, li_30, li_31, li_32, li_36, li_40, li_41, li_42, li_43, li_45, li_48, li_49, li_50, li_56, li_57, li_59, li_60, li_61, li_62, li_63, li_64, li_97, li_99, li_100, li_120, li_121, li_122, li_255, li_270, li_300, li_400, li_500, li_540, li_1000, li_1024, li_1440, li_9999, li_11264, li_32768, li_268435456, li_1073741824, li_m, li_o, iN_add, iN_mul, iN_lt, iN_in, iN_cl, iN_inj, iM_ne, iM_ne', iN_or, iN_xor, iN_bd, sh31n, iN_shl2, iN_shr2, iN_bit2, Nat.one_mul, oB, iff_t, iff_f, if_true, if_false, g_up_ne, g_up_eq, g_z_ne, g_z_eq, y1, y2, y3, Nat.add_zero]
        rw [hhome, oB, show g_FU = 99999 + 1 from rfl]
        exact a2
      unfold f_X12_trip b_X12_trip_0 b_X12_trip_28
      simp (disch := omega) only [li_0, li_1, li_2, li_3, li_4, li_5, li_6, li_7, li_8, li_9, li_10, li_11, li_12, li_13, li_14, li_15, li_16, li_18, li_19, li_20, li_24, li_28, li_29, li_30, li_31, li_32, li_36, li_40, li_41, li_42, li_43, li_45, li_48, li_49, li_50, li_56, li_57, li_59, li_60, li_61, li_62, li_63, li_64, li_97, li_99, li_100, li_120, li_121, li_122, li_255, li_270, li_300, li_400, li_500, li_540, li_1000, li_1024, li_1440, li_9999, li_11264, li_32768, li_268435456, li_1073741824, li_m, li_o, iN_add, iN_mul, iN_lt, iN_in, iN_cl, iN_inj, iM_ne, iM_ne', iN_or, iN_xor, iN_bd, sh31n, iN_shl2, iN_shr2, iN_bit2, Nat.one_mul, oB, iff_t, iff_f, if_true, if_false, g_up_ne, g_up_eq, g_z_ne, g_z_eq, e]
      rw [show f_X12_goesOn 64 (iN 0) (iN 0) (iN 0) (iN τ) (iN 0) (iN 0) (iN 0) σ (g_up (g_up (g_up (g_up (g_up Mm 40 70 (iN 1)) 40 71 (iN 0)) 40 72 (iN τ)) 40 73 (iN 0)) 40 74 (iN 0)) = some B' from hgo, oB, m3]
    · rw [t3 a k (by omega) (by omega)]; simp only [A0]; simp (disch := omega) only [li_0, li_1, li_2, li_3, li_4, li_5, li_6, li_7, li_8, li_9, li_10, li_11, li_12, li_13, li_14, li_15, li_16, li_18, li_19, li_20, li_24, li_28, li_29, li_30, li_31, li_32, li_36, li_40, li_41, li_42, li_43, li_45, li_48, li_49, li_50, li_56, li_57, li_59, li_60, li_61, li_62, li_63, li_64, li_97, li_99, li_100, li_120, li_121, li_122, li_255, li_270, li_300, li_400, li_500, li_540, li_1000, li_1024, li_1440, li_9999, li_11264, li_32768, li_268435456, li_1073741824, li_m, li_o, iN_add, iN_mul, iN_lt, iN_in, iN_cl, iN_inj, iM_ne, iM_ne', iN_or, iN_xor, iN_bd, sh31n, iN_shl2, iN_shr2, iN_bit2, Nat.one_mul, oB, iff_t, iff_f, if_true, if_false, g_up_ne, g_up_eq, g_z_ne, g_z_eq]
    · rw [t4 a k (by omega) (by omega)]; simp only [B0]; simp (disch := omega) only [li_0, li_1, li_2, li_3, li_4, li_5, li_6, li_7, li_8, li_9, li_10, li_11, li_12, li_13, li_14, li_15, li_16, li_18, li_19, li_20, li_24, li_28, li_29, li_30, li_31, li_32, li_36, li_40, li_41, li_42, li_43, li_45, li_48, li_49, li_50, li_56, li_57, li_59, li_60, li_61, li_62, li_63, li_64, li_97, li_99, li_100, li_120, li_121, li_122, li_255, li_270, li_300, li_400, li_500, li_540, li_1000, li_1024, li_1440, li_9999, li_11264, li_32768, li_268435456, li_1073741824, li_m, li_o, iN_add, iN_mul, iN_lt, iN_in, iN_cl, iN_inj, iM_ne, iM_ne', iN_or, iN_xor, iN_bd, sh31n, iN_shl2, iN_shr2, iN_bit2, Nat.one_mul, oB, iff_t, iff_f, if_true, if_false, g_up_ne, g_up_eq, g_z_ne, g_z_eq]
    · have fr : ∀ a j, ¬ (a = 24 ∧ 9 ≤ j) → ¬ (29 ≤ a ∧ a ≤ 32) → ¬ (a = 40 ∧ 70 ≤ j ∧ j ≤ 74) → ¬ (81 ≤ a ∧ a ≤ 84) → mg A' B' a j = M a j := fun a j h1 h2 h3 h4 => by
        unfold mg
        split
        · rw [t4 a j (by omega) (by omega)]
          simp only [B0]
          simp (disch := omega) only [li_0, li_1, li_2, li_3, li_4, li_5, li_6, li_7, li_8, li_9, li_10, li_11, li_12, li_13, li_14, li_15, li_16, li_18, li_19, li_20, li_24, li_28, li_29, li_30, li_31, li_32, li_36, li_40, li_41, li_42, li_43, li_45, li_48, li_49, li_50, li_56, li_57, li_59, li_60, li_61, li_62, li_63, li_64, li_97, li_99, li_100, li_120, li_121, li_122, li_255, li_270, li_300, li_400, li_500, li_540, li_1000, li_1024, li_1440, li_9999, li_11264, li_32768, li_268435456, li_1073741824, li_m, li_o, iN_add, iN_mul, iN_lt, iN_in, iN_cl, iN_inj, iM_ne, iM_ne', iN_or, iN_xor, iN_bd, sh31n, iN_shl2, iN_shr2, iN_bit2, Nat.one_mul, oB, iff_t, iff_f, if_true, if_false, g_up_ne, g_up_eq, g_z_ne, g_z_eq, hme a j (by omega) (by omega)]
        · rw [t3 a j (by omega) (by omega)]
          simp only [A0]
          simp (disch := omega) only [li_0, li_1, li_2, li_3, li_4, li_5, li_6, li_7, li_8, li_9, li_10, li_11, li_12, li_13, li_14, li_15, li_16, li_18, li_19, li_20, li_24, li_28, li_29, li_30, li_31, li_32, li_36, li_40, li_41, li_42, li_43, li_45, li_48, li_49, li_50, li_56, li_57, li_59, li_60, li_61, li_62, li_63, li_64, li_97, li_99, li_100, li_120, li_121, li_122, li_255, li_270, li_300, li_400, li_500, li_540, li_1000, li_1024, li_1440, li_9999, li_11264, li_32768, li_268435456, li_1073741824, li_m, li_o, iN_add, iN_mul, iN_lt, iN_in, iN_cl, iN_inj, iM_ne, iM_ne', iN_or, iN_xor, iN_bd, sh31n, iN_shl2, iN_shr2, iN_bit2, Nat.one_mul, oB, iff_t, iff_f, if_true, if_false, g_up_ne, g_up_eq, g_z_ne, g_z_eq]
      refine ⟨P, T, C, R, F, hL, hP.keep (fun a j h => fr a j (by omega) (by omega) (by omega) (by omega)), hT.keep (fun a j h => fr a j (by omega) (by omega) (by omega) (by omega)) (fun t ht => (hL.2.2.2.1.1 t ht).1), hD.keep (fun a j h => fr a j (by omega) (by omega) (by omega) (by omega)), hN.keep (fun a j h => fr a j (by omega) (by omega) (by omega) (by omega)), hB.keep (fun a j h => fr a j (by omega) (by omega) (by omega) (by omega)), hK.keep (fun a j h => fr a j (by omega) (by omega) (by omega) (by omega)), ?_, hX.keep hL.2.2.2.2.1 hT.1 (fun a j h => fr a j (by omega) (by omega) (by omega) (by omega))⟩
      have c9 : A' 24 9 = iN 1 := by rw [t3 _ _ (by omega) (by omega)]; simp only [A0]; simp (disch := omega) only [li_0, li_1, li_2, li_3, li_4, li_5, li_6, li_7, li_8, li_9, li_10, li_11, li_12, li_13, li_14, li_15, li_16, li_18, li_19, li_20, li_24, li_28, li_29, li_30, li_31, li_32, li_36, li_40, li_41, li_42, li_43, li_45, li_48, li_49, li_50, li_56, li_57, li_59, li_60, li_61, li_62, li_63, li_64, li_97, li_99, li_100, li_120, li_121, li_122, li_255, li_270, li_300, li_400, li_500, li_540, li_1000, li_1024, li_1440, li_9999, li_11264, li_32768, li_268435456, li_1073741824, li_m, li_o, iN_add, iN_mul, iN_lt, iN_in, iN_cl, iN_inj, iM_ne, iM_ne', iN_or, iN_xor, iN_bd, sh31n, iN_shl2, iN_shr2, iN_bit2, Nat.one_mul, oB, iff_t, iff_f, if_true, if_false, g_up_ne, g_up_eq, g_z_ne, g_z_eq]
      have d70 : B' 40 70 = iN 1 := by rw [t4 _ _ (by omega) (by omega)]; simp only [B0]; simp (disch := omega) only [li_0, li_1, li_2, li_3, li_4, li_5, li_6, li_7, li_8, li_9, li_10, li_11, li_12, li_13, li_14, li_15, li_16, li_18, li_19, li_20, li_24, li_28, li_29, li_30, li_31, li_32, li_36, li_40, li_41, li_42, li_43, li_45, li_48, li_49, li_50, li_56, li_57, li_59, li_60, li_61, li_62, li_63, li_64, li_97, li_99, li_100, li_120, li_121, li_122, li_255, li_270, li_300, li_400, li_500, li_540, li_1000, li_1024, li_1440, li_9999, li_11264, li_32768, li_268435456, li_1073741824, li_m, li_o, iN_add, iN_mul, iN_lt, iN_in, iN_cl, iN_inj, iM_ne, iM_ne', iN_or, iN_xor, iN_bd, sh31n, iN_shl2, iN_shr2, iN_bit2, Nat.one_mul, oB, iff_t, iff_f, if_true, if_false, g_up_ne, g_up_eq, g_z_ne, g_z_eq]
      refine ⟨⟨s, s1, ?_, ?_⟩, fun k hk => ?_, fun k hk => ?_, ?_, ?_, ⟨m, m1, ?_, ?_, fun k hk => ?_⟩, ?_, ?_, ?_, ?_⟩
      · rw [fr _ _ (by omega) (by omega) (by omega) (by omega)]; exact s2
      · rw [fr _ _ (by omega) (by omega) (by omega) (by omega)]; exact s3
      · have := q1 k hk
        unfold vC1 at *
        simp (disch := omega) only [fr]
        exact this
      · simp (disch := omega) only [fr]; exact q2 k hk
      · rw [mg_m (by omega), d70]; exact Or.inr rfl
      · rw [mg_c (by omega), mg_m (by omega), d70, c9]
      · rw [mg_c (by omega)]; exact m2
      · rw [mg_m (by omega)]; exact m3
      · exact ⟨by rw [mg_c (by omega), mg_m (by omega)]; exact (m4 k hk).1, by rw [mg_c (by omega), mg_m (by omega)]; exact (m4 k hk).2⟩
      · rw [mg_c (by omega), mg_m (by omega), e2, e3]
      · rw [mg_c (by omega), mg_m (by omega), v2, v3]
      · rw [mg_c (by omega), mg_m (by omega)]; exact r0
      · rw [fr _ _ (by omega) (by omega) (by omega) (by omega)]; exact q9
  · refine ⟨iM, M, Mm, ?_, ?_, fun _ _ _ _ => rfl, fun _ _ _ => rfl, by rw [hg]; exact ⟨P, T, C, R, F, hL, hP, hT, hD, hN, hB, hK, hC, hX⟩⟩
    · unfold f_X11_trip b_X11_trip_0 f_X1_plan b_X1_plan_0
      simp (disch := omega) only [li_0, li_1, li_2, li_3, li_4, li_5, li_6, li_7, li_8, li_9, li_10, li_11, li_12, li_13, li_14, li_15, li_16, li_18, li_19, li_20, li_24, li_28, li_29, li_30, li_31, li_32, li_36, li_40, li_41, li_42, li_43, li_45, li_48, li_49, li_50, li_56, li_57, li_59, li_60, li_61, li_62, li_63, li_64, li_97, li_99, li_100, li_120, li_121, li_122, li_255, li_270, li_300, li_400, li_500, li_540, li_1000, li_1024, li_1440, li_9999, li_11264, li_32768, li_268435456, li_1073741824, li_m, li_o, iN_add, iN_mul, iN_lt, iN_in, iN_cl, iN_inj, iM_ne, iM_ne', iN_or, iN_xor, iN_bd, sh31n, iN_shl2, iN_shr2, iN_bit2, Nat.one_mul, oB, iff_t, iff_f, if_true, if_false, g_up_ne, g_up_eq, g_z_ne, g_z_eq, w_in, e]
    · unfold f_X12_trip b_X12_trip_0
      simp (disch := omega) only [li_0, li_1, li_2, li_3, li_4, li_5, li_6, li_7, li_8, li_9, li_10, li_11, li_12, li_13, li_14, li_15, li_16, li_18, li_19, li_20, li_24, li_28, li_29, li_30, li_31, li_32, li_36, li_40, li_41, li_42, li_43, li_45, li_48, li_49, li_50, li_56, li_57, li_59, li_60, li_61, li_62, li_63, li_64, li_97, li_99, li_100, li_120, li_121, li_122, li_255, li_270, li_300, li_400, li_500, li_540, li_1000, li_1024, li_1440, li_9999, li_11264, li_32768, li_268435456, li_1073741824, li_m, li_o, iN_add, iN_mul, iN_lt, iN_in, iN_cl, iN_inj, iM_ne, iM_ne', iN_or, iN_xor, iN_bd, sh31n, iN_shl2, iN_shr2, iN_bit2, Nat.one_mul, oB, iff_t, iff_f, if_true, if_false, g_up_ne, g_up_eq, g_z_ne, g_z_eq, e]
