/-! settle, most: the class's table, filled. -/
theorem use_c {σ : gS} {M M0 : gM} {t m q aim i a b w ta len : Nat} {g e : Nat → Nat} {V : Nat → Nat} (h : hasW σ M M0 t m q g e aim) (hi : i < q) (ha : a < m) (hb : b ≤ a) (hta : σ.2 12 13 = ta) (hlen : σ.1 ta = some (14, len)) (hl : len < 100000) (hsz : (q + 1) * 2 ^ m ≤ len) (hw : w < 1000000) (hV : tabV M ta (i * 2 ^ m) ((q + 1) * 2 ^ m) V) : ∃ M' V', f_X9_useRoom (iN i) (iN (2 ^ a ||| 2 ^ b)) (iN w) σ M = some M' ∧ tabV M' ta (i * 2 ^ m) ((q + 1) * 2 ^ m) V' ∧ (∀ s, s < 2 ^ m → V' (i * 2 ^ m + s) = if bd (2 ^ a ||| 2 ^ b) s = 0 then min (V (i * 2 ^ m + s)) (w + V ((i + 1) * 2 ^ m + bd s (2 ^ a ||| 2 ^ b))) else V (i * 2 ^ m + s)) ∧ (∀ j, j < i * 2 ^ m ∨ (i + 1) * 2 ^ m ≤ j → V' j = V j) ∧ ∀ a j, a ≠ ta → M' a j = M a j := by
  obtain ⟨h1, h2, h3, h4, hm, hq, h7, h8, h9⟩ := h
  have hs : 2 ^ a ||| 2 ^ b < 2 ^ m := pair_lt ha (by omega)
  generalize hset : 2 ^ a ||| 2 ^ b = set at *
  have hW : 2 ^ m ≤ 2 ^ 10 := Nat.pow_le_pow_right (by omega) hm
  have hW0 : 1 ≤ 2 ^ m := Nat.one_le_two_pow
  have hW2 : 2 ^ 10 = 1024 := rfl
  have full : 2 ^ m - 1 < 2 ^ m := by omega
  have ho : bd (2 ^ m - 1) set < 2 ^ m := bd_ltp full
  generalize hoth : bd (2 ^ m - 1) set = oth at *
  have obit : ∀ i, oth.testBit i = (decide (i < m) && !set.testBit i) := fun i => by rw [← hoth, bd_bit, Nat.testBit_two_pow_sub_one]
  have pcl : pcK 10 oth ≤ 10 := by rw [pcK_10 oth (by omega), pc10_cnt]; exact cnt_le _ _
  have sub : ∀ x, x &&& oth = x → x < 2 ^ m ∧ set &&& x = 0 := fun x hx => by
    refine ⟨by have := Nat.and_le_right (n := x) (m := oth); omega, ?_⟩
    apply Nat.eq_of_testBit_eq
    intro j
    rw [Nat.testBit_and, Nat.zero_testBit, ← hx, Nat.testBit_and, obit]
    cases set.testBit j <;> simp
  have sum : ∀ x, x &&& oth = x → set + x < 2 ^ m ∧ bd set (set + x) = 0 ∧ bd (set + x) set = x := fun x hx => by
    obtain ⟨z1, z2⟩ := sub x hx
    have e := add_or m set x hs z2
    rw [e]
    refine ⟨Nat.or_lt_two_pow hs z1, bd_z.mpr (fun j hj => by rw [Nat.testBit_or, hj]; rfl), ?_⟩
    apply Nat.eq_of_testBit_eq
    intro j
    have zj : (set &&& x).testBit j = false := by rw [z2]; exact Nat.zero_testBit j
    rw [Nat.testBit_and] at zj
    rw [bd_bit, Nat.testBit_or]
    cases c1 : set.testBit j <;> cases c2 : x.testBit j <;> simp_all
  have m1 : (i + 1) * 2 ^ m = i * 2 ^ m + 2 ^ m := Nat.succ_mul i _
  have m2 : (i + 1) * 2 ^ m + 2 ^ m ≤ (q + 1) * 2 ^ m := by
    rw [← Nat.succ_mul]
    exact Nat.mul_le_mul_right _ (by omega)
  have hd : ∀ v, v < 2 ^ pcK 10 oth → i * 2 ^ m + set + dep 10 oth v < (i + 1) * 2 ^ m ∧ dep 10 oth v < 2 ^ m := fun v hv => by
    have z := dep_in 10 oth v
    have := sum _ z
    have := sub _ z
    omega
  obtain ⟨M', V', u1, u2, u3, u4, u5⟩ := l_use (σ := σ) (hr := i * 2 ^ m + set) (bh := (i + 1) * 2 ^ m) (oth := oth) (pc := pcK 10 oth) hta hlen hl hsz hw (by omega) rfl pcl (fun v hv => by have := hd v hv; omega) (fun v v' hv hv' => by have := hd v hv; omega) (2 ^ pcK 10 oth - 1) 0 g_FU M V (by have : 1 ≤ 2 ^ pcK 10 oth := Nat.one_le_two_pow; omega) (by have : 2 ^ pcK 10 oth ≤ 2 ^ 10 := Nat.pow_le_pow_right (by omega) pcl; unfold g_FU; omega) hV
  have hp1 : 1 ≤ 2 ^ pcK 10 oth := Nat.one_le_two_pow
  refine ⟨M', V', ?_, u2, fun s hs2 => ?_, fun j hj => ?_, u5⟩
  · have p1 : (1 : Int32) <<< (iN m &&& 31) = iN (2 ^ m) := by rw [show (1 : Int32) = iN 1 from rfl, iN_shl (by omega), Nat.one_mul]
    have p2 : iN i <<< (iN m &&& 31) = iN (i * 2 ^ m) := iN_shl (by omega)
    have p3 : iN (i + 1) <<< (iN m &&& 31) = iN ((i + 1) * 2 ^ m) := iN_shl (by omega)
    have p4 : iN (2 ^ m) - (1 : Int32) = iN (2 ^ m - 1) := iN_sub (b := 1) hW0
    have p5 : iN (2 ^ m - 1) &&& (iN set ^^^ (-1 : Int32)) = iN oth := by rw [show (-1 : Int32) = iM from rfl, iN_bd, hoth]
    unfold f_X9_useRoom b_X9_useRoom_0
    rw [h1.1, p1, p2, eS, p3, p4, p5, bc10 oth (by omega), oB, iN_add, show (1 : Int32) <<< (iN (pc10 oth) &&& 31) = iN (2 ^ pc10 oth) from by rw [show (1 : Int32) = iN 1 from rfl, iN_shl (by rw [← pcK_10 oth (by omega)]; omega), Nat.one_mul], ← pcK_10 oth (by omega)]
    have := u1
    rw [dep_top 10 oth (by omega)] at this
    exact this
  · by_cases c : bd set s = 0
    · rw [if_pos c]
      have hx : bd s set &&& oth = bd s set := by
        apply Nat.eq_of_testBit_eq
        intro j
        rw [Nat.testBit_and, obit, bd_bit]
        by_cases cj : j < m
        · rw [decide_eq_true cj]; cases s.testBit j <;> cases set.testBit j <;> rfl
        · rw [Nat.testBit_lt_two_pow (Nat.lt_of_lt_of_le hs2 (Nat.pow_le_pow_right (by omega) (by omega)))]; rfl
      obtain ⟨v, v1, v2⟩ := dep_all 10 oth (bd s set) (by omega) hx
      have e := u3 v (by omega)
      rw [v2, show i * 2 ^ m + set + bd s set = i * 2 ^ m + s by rw [Nat.add_assoc, bd_add hs c]] at e
      exact e
    · rw [if_neg c]
      refine u4 _ (fun v hv q => c ?_)
      have z := sum _ (dep_in 10 oth v)
      have : s = set + dep 10 oth v := by omega
      rw [this]; exact z.2.1
  · exact u4 j (fun v hv q => by have := hd v (by omega); omega)
/-- a row, weighed so far -/
def Zr (m i : Nat) (ok : Nat → Nat → Prop) (w : Nat → Nat → Nat) (V Tn : Nat → Nat) (Pr : Nat → Nat → Prop) : Prop := ∀ s, s < 2 ^ m → V (i * 2 ^ m + s) ≤ Tn s ∧ (∀ a b, Pr a b → b ≤ a → a < m → ok a b → bd (2 ^ a ||| 2 ^ b) s = 0 → V (i * 2 ^ m + s) ≤ w a b + Tn (bd s (2 ^ a ||| 2 ^ b))) ∧ (V (i * 2 ^ m + s) = Tn s ∨ ∃ a b, b ≤ a ∧ a < m ∧ ok a b ∧ bd (2 ^ a ||| 2 ^ b) s = 0 ∧ V (i * 2 ^ m + s) = w a b + Tn (bd s (2 ^ a ||| 2 ^ b)))
def okW (M0 : gM) (t : Nat) (g e : Nat → Nat) (i a b : Nat) : Prop := condP M0 t (e i) (g a) (g b)
def wW (M0 : gM) (t : Nat) (g e : Nat → Nat) (aim i a b : Nat) : Nat := encC aim (prF M0 t (e i)) (mvX M0 t (e i) (g a) (g b))
theorem encC_lt {aim c mv : Nat} (hc : c ≤ 1000) (hm : mv ≤ 2) : encC aim c mv < 100000 := by
  unfold encC
  split
  · omega
  · split <;> omega
theorem l_fr40 {σ : gS} {M0 : gM} {t m q aim i a ta len : Nat} {g e : Nat → Nat} {K : Int32 → Int32 → gS → gM → Option gM} (ht : t < 6) (hta36 : ta = 36 ∨ 10000 ≤ ta) (hi : i < q) (ha : a < m) (hta : σ.2 12 13 = ta) (hlen : σ.1 ta = some (14, len)) (hl : len < 100000) (hsz : (q + 1) * 2 ^ m ≤ len) : ∀ k b f M V, b + k = a + 1 → k < f → hasW σ M M0 t m q g e aim → tabV M ta (i * 2 ^ m) ((q + 1) * 2 ^ m) V → Zr m i (okW M0 t g e i) (wW M0 t g e aim i) V (fun s => V ((i + 1) * 2 ^ m + s)) (fun a' b' => a' < a ∨ (a' = a ∧ b' < b)) → ∃ M' V', l_X9_fillRow_40 K f (iN i) (iN a) (iN b) σ M = K (iN i) (iN (a + 1)) σ M' ∧ tabV M' ta (i * 2 ^ m) ((q + 1) * 2 ^ m) V' ∧ Zr m i (okW M0 t g e i) (wW M0 t g e aim i) V' (fun s => V' ((i + 1) * 2 ^ m + s)) (fun a' b' => a' < a + 1) ∧ (∀ j, j < i * 2 ^ m ∨ (i + 1) * 2 ^ m ≤ j → V' j = V j) ∧ ∀ a j, a ≠ ta → M' a j = M a j := by
  intro k
  induction k with
  | zero =>
    intro b f M V hb hf hW hV hZ
    obtain ⟨f, rfl⟩ : ∃ m, f = m + 1 := ⟨f - 1, by omega⟩
    have hm := hW.2.2.2.2.1
    refine ⟨M, V, ?_, hV, fun s hs => ?_, fun _ _ => rfl, fun _ _ _ => rfl⟩
    · rw [l_X9_fillRow_40, if_pos (by rw [iN_lt (by omega) (by omega)]; omega), eS]
    · obtain ⟨z1, z2, z3⟩ := hZ s hs
      exact ⟨z1, fun a' b' hp h1 h2 h3 h4 => z2 a' b' (by omega) h1 h2 h3 h4, z3⟩
  | succ k ih =>
    intro b f M V hb hf hW hV hZ
    obtain ⟨f, rfl⟩ : ∃ m, f = m + 1 := ⟨f - 1, by omega⟩
    have hm := hW.2.2.2.2.1
    have hpw := hW.2.2.2.2.2.2.2.2 i hi
    have hw := encC_lt (aim := aim) hpw.2.2.2.2.2.2 (mvX_le M0 t (e i) (g a) (g b))
    have sh : ∀ p, p < 10 → (1 : Int32) <<< (iN p &&& 31) = iN (2 ^ p) := fun p hp => by rw [show (1 : Int32) = iN 1 from rfl, iN_shl (by omega), Nat.one_mul]
    have m1 : (i + 1) * 2 ^ m = i * 2 ^ m + 2 ^ m := Nat.succ_mul i _
    rw [l_X9_fillRow_40, if_neg (by rw [iN_lt (by omega) (by omega)]; omega), weight_c hW hi ha (by omega), oB, sh a (by omega), sh b (by omega), iN_or]
    unfold b_X9_fillRow_78
    rw [eS]
    by_cases c : condP M0 t (e i) (g a) (g b)
    · rw [if_pos (bP_t c), if_pos (show iN (encC aim (prF M0 t (e i)) (mvX M0 t (e i) (g a) (g b))) < (268435456 : Int32) by rw [show (268435456 : Int32) = iN 268435456 from rfl, iN_lt (by omega) (by omega)]; omega)]
      obtain ⟨M1, V1, u1, u2, u3, u4, u5⟩ := use_c (w := encC aim (prF M0 t (e i)) (mvX M0 t (e i) (g a) (g b))) hW hi ha (show b ≤ a by omega) hta hlen hl hsz (by omega) hV
      rw [u1, oB]
      have hT : ∀ s, V1 ((i + 1) * 2 ^ m + s) = V ((i + 1) * 2 ^ m + s) := fun s => u4 _ (by omega)
      obtain ⟨M', V', q1, q2, q3, q4, q5⟩ := ih (b + 1) f M1 V1 (by omega) (by omega) (hW.keep ht hta36 u5) u2 (fun s hs => by
        obtain ⟨z1, z2, z3⟩ := hZ s hs
        have e3 := u3 s hs
        simp only [hT]
        by_cases cs : bd (2 ^ a ||| 2 ^ b) s = 0
        · rw [if_pos cs] at e3
          refine ⟨by rw [e3]; exact Nat.le_trans (Nat.min_le_left _ _) z1, fun a' b' hp h1 h2 h3 h4 => ?_, ?_⟩
          · by_cases eab : a' = a ∧ b' = b
            · rw [eab.1, eab.2, e3]
              exact Nat.min_le_right _ _
            · have := z2 a' b' (by omega) h1 h2 h3 h4
              rw [e3]
              exact Nat.le_trans (Nat.min_le_left _ _) this
          · by_cases le : V (i * 2 ^ m + s) ≤ encC aim (prF M0 t (e i)) (mvX M0 t (e i) (g a) (g b)) + V ((i + 1) * 2 ^ m + bd s (2 ^ a ||| 2 ^ b))
            · rw [e3, Nat.min_eq_left le]; exact z3
            · rw [e3, Nat.min_eq_right (by omega)]
              exact Or.inr ⟨a, b, by omega, ha, c, cs, rfl⟩
        · rw [if_neg cs] at e3
          rw [e3]
          refine ⟨z1, fun a' b' hp h1 h2 h3 h4 => ?_, z3⟩
          by_cases eab : a' = a ∧ b' = b
          · rw [eab.1, eab.2] at h4
            exact absurd h4 cs
          · exact z2 a' b' (by omega) h1 h2 h3 h4)
      exact ⟨M', V', q1, q2, q3, fun j hj => by rw [q4 j hj, u4 j hj], fun a j h => by rw [q5 a j h, u5 a j h]⟩
    · rw [if_neg (show ¬ bP (condP M0 t (e i) (g a) (g b)) = true by rw [bP_f c]; decide), if_neg (show ¬ iN 268435456 < (268435456 : Int32) by decide)]
      exact ih (b + 1) f M V (by omega) (by omega) hW hV (fun s hs => by
        obtain ⟨z1, z2, z3⟩ := hZ s hs
        refine ⟨z1, fun a' b' hp h1 h2 h3 h4 => ?_, z3⟩
        by_cases eab : a' = a ∧ b' = b
        · rw [eab.1, eab.2] at h3
          exact absurd h3 c
        · exact z2 a' b' (by omega) h1 h2 h3 h4)
theorem l_fr29 {σ : gS} {M0 : gM} {t m q aim i ta len : Nat} {g e : Nat → Nat} (ht : t < 6) (hta36 : ta = 36 ∨ 10000 ≤ ta) (hi : i < q) (hta : σ.2 12 13 = ta) (hlen : σ.1 ta = some (14, len)) (hl : len < 100000) (hsz : (q + 1) * 2 ^ m ≤ len) : ∀ k a f M V, a + k = m → k < f → hasW σ M M0 t m q g e aim → tabV M ta (i * 2 ^ m) ((q + 1) * 2 ^ m) V → Zr m i (okW M0 t g e i) (wW M0 t g e aim i) V (fun s => V ((i + 1) * 2 ^ m + s)) (fun a' b' => a' < a) → ∃ M' V', l_X9_fillRow_29 f (iN i) (iN a) σ M = some M' ∧ tabV M' ta (i * 2 ^ m) ((q + 1) * 2 ^ m) V' ∧ Zr m i (okW M0 t g e i) (wW M0 t g e aim i) V' (fun s => V' ((i + 1) * 2 ^ m + s)) (fun _ _ => True) ∧ (∀ j, j < i * 2 ^ m ∨ (i + 1) * 2 ^ m ≤ j → V' j = V j) ∧ ∀ a j, a ≠ ta → M' a j = M a j := by
  intro k
  induction k with
  | zero =>
    intro a f M V hk hf hW hV hZ
    obtain ⟨f, rfl⟩ : ∃ m, f = m + 1 := ⟨f - 1, by omega⟩
    have hm := hW.2.2.2.2.1
    refine ⟨M, V, ?_, hV, fun s hs => ?_, fun _ _ => rfl, fun _ _ _ => rfl⟩
    · rw [l_X9_fillRow_29, hW.1.1, if_neg (by rw [iN_lt (by omega) (by omega)]; omega)]
    · obtain ⟨z1, z2, z3⟩ := hZ s hs
      exact ⟨z1, fun a' b' hp h1 h2 h3 h4 => z2 a' b' (by omega) h1 h2 h3 h4, z3⟩
  | succ k ih =>
    intro a f M V hk hf hW hV hZ
    obtain ⟨f, rfl⟩ : ∃ m, f = m + 1 := ⟨f - 1, by omega⟩
    have hm := hW.2.2.2.2.1
    obtain ⟨M1, V1, u1, u2, u3, u4, u5⟩ := l_fr40 (K := fun x1 x3 σ M => l_X9_fillRow_29 f x1 x3 σ M) ht hta36 hi (show a < m by omega) hta hlen hl hsz (a + 1) 0 g_FU M V (by omega) (by unfold g_FU; omega) hW hV (fun s hs => by
      obtain ⟨z1, z2, z3⟩ := hZ s hs
      exact ⟨z1, fun a' b' hp h1 h2 h3 h4 => z2 a' b' (by omega) h1 h2 h3 h4, z3⟩)
    obtain ⟨M', V', q1, q2, q3, q4, q5⟩ := ih (a + 1) f M1 V1 (by omega) (by omega) (hW.keep ht hta36 u5) u2 u3
    refine ⟨M', V', ?_, q2, q3, fun j hj => by rw [q4 j hj, u4 j hj], fun a j h => by rw [q5 a j h, u5 a j h]⟩
    rw [l_X9_fillRow_29, hW.1.1, if_pos (by rw [iN_lt (by omega) (by omega)]; omega)]
    exact u1.trans q1
theorem fillRow_c {σ : gS} {M M0 : gM} {t m q aim i ta len : Nat} {g e : Nat → Nat} {V : Nat → Nat} (ht : t < 6) (hta36 : ta = 36 ∨ 10000 ≤ ta) (hi : i < q) (hta : σ.2 12 13 = ta) (hlen : σ.1 ta = some (14, len)) (hl : len < 100000) (hsz : (q + 1) * 2 ^ m ≤ len) (hW : hasW σ M M0 t m q g e aim) (hV : tabV M ta ((i + 1) * 2 ^ m) ((q + 1) * 2 ^ m) V) : ∃ M' V', f_X9_fillRow (iN i) σ M = some M' ∧ tabV M' ta (i * 2 ^ m) ((q + 1) * 2 ^ m) V' ∧ Zr m i (okW M0 t g e i) (wW M0 t g e aim i) V' (fun s => V' ((i + 1) * 2 ^ m + s)) (fun _ _ => True) ∧ (∀ j, j < i * 2 ^ m ∨ (i + 1) * 2 ^ m ≤ j → V' j = V j) ∧ ∀ a j, a ≠ ta → M' a j = M a j := by
  have hm := hW.2.2.2.2.1
  have hq := hW.2.2.2.2.2.1
  have hW1 : 2 ^ m ≤ 2 ^ 10 := Nat.pow_le_pow_right (by omega) hm
  have hW2 : 2 ^ 10 = 1024 := rfl
  have hW0 : 1 ≤ 2 ^ m := Nat.one_le_two_pow
  have m1 : (i + 1) * 2 ^ m = i * 2 ^ m + 2 ^ m := Nat.succ_mul i _
  have m2 : (i + 1) * 2 ^ m + 2 ^ m ≤ (q + 1) * 2 ^ m := by
    rw [← Nat.succ_mul]
    exact Nat.mul_le_mul_right _ (by omega)
  have p1 : (1 : Int32) <<< (iN m &&& 31) = iN (2 ^ m) := by rw [show (1 : Int32) = iN 1 from rfl, iN_shl (by omega), Nat.one_mul]
  have cp : ∀ j, g_cpM M ta ta ((i + 1) * 2 ^ m) (i * 2 ^ m) (2 ^ m) ta j = if i * 2 ^ m ≤ j ∧ j < i * 2 ^ m + 2 ^ m then M ta (j + 2 ^ m) else M ta j := fun j => by
    unfold g_cpM va_cpy
    rw [if_pos rfl]
    by_cases c : i * 2 ^ m ≤ j ∧ j < i * 2 ^ m + 2 ^ m
    · rw [if_pos c, if_pos c, show (i + 1) * 2 ^ m + (j - i * 2 ^ m) = j + 2 ^ m by omega]
    · rw [if_neg c, if_neg c]
  let V0 : Nat → Nat := fun j => if i * 2 ^ m ≤ j ∧ j < i * 2 ^ m + 2 ^ m then V (j + 2 ^ m) else V j
  have e0 : ∀ j, V0 j = if i * 2 ^ m ≤ j ∧ j < i * 2 ^ m + 2 ^ m then V (j + 2 ^ m) else V j := fun _ => rfl
  have hV0 : tabV (g_cpM M ta ta ((i + 1) * 2 ^ m) (i * 2 ^ m) (2 ^ m)) ta (i * 2 ^ m) ((q + 1) * 2 ^ m) V0 := fun j hj0 hj => by
    rw [cp j, e0 j]
    by_cases c : i * 2 ^ m ≤ j ∧ j < i * 2 ^ m + 2 ^ m
    · rw [if_pos c, if_pos c]; exact hV _ (by omega) (by omega)
    · rw [if_neg c, if_neg c]; exact hV j (by omega) hj
  have out : ∀ j, j < i * 2 ^ m ∨ (i + 1) * 2 ^ m ≤ j → V0 j = V j := fun j hj => by rw [e0 j, if_neg (by omega)]
  obtain ⟨M', V', q1, q2, q3, q4, q5⟩ := l_fr29 (aim := aim) ht hta36 hi hta hlen hl hsz m 0 g_FU (g_cpM M ta ta ((i + 1) * 2 ^ m) (i * 2 ^ m) (2 ^ m)) V0 (by omega) (by unfold g_FU; omega) (hW.keep ht hta36 (fun a j h => cpM_ne h)) hV0 (fun s hs => by
    have e1 : V0 (i * 2 ^ m + s) = V ((i + 1) * 2 ^ m + s) := by rw [e0, if_pos ⟨by omega, by omega⟩]; congr 1; omega
    have e2 : V0 ((i + 1) * 2 ^ m + s) = V ((i + 1) * 2 ^ m + s) := out _ (by omega)
    rw [e1]
    simp only [e2]
    exact ⟨Nat.le_refl _, fun a' b' hp => absurd (show a' < 0 from hp) (Nat.not_lt_zero _), Or.inl trivial⟩)
  refine ⟨M', V', ?_, q2, q3, fun j hj => by rw [q4 j hj, out j hj], fun a j h => by rw [q5 a j h, cpM_ne h]⟩
  have hcp : g_cp (iN ((i + 1) * 2 ^ m)) (iN (i * 2 ^ m)) (iN (2 ^ m)) len len = true := by
    unfold g_cp
    rw [decide_eq_true_iff, iN_cl (by omega), iN_cl (by omega), iN_cl (by omega)]
    exact ⟨iN_nneg (by omega), iN_nneg (by omega), iN_nneg (by omega), by omega, by omega⟩
  unfold f_X9_fillRow b_X9_fillRow_0
  rw [hta, if_pos (show g_is σ ta 14 = true by rw [is_of hlen]; trivial), hW.1.1, p1, ln_of hlen, eS, iN_mul, iN_mul, if_pos hcp, iN_cl (by omega), iN_cl (by omega), iN_cl (by omega)]
  exact q1
