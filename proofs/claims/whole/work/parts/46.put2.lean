/-! put and right, called. -/
/-- model cells alike -/
def mEq (M M' : gM) : Prop := ∀ a k, 40 ≤ a → a < 100 → M' a k = M a k
def cEq (M M' : gM) : Prop := ∀ a k, a < 40 ∨ 100 ≤ a → M' a k = M a k
theorem mEq.of {M Mm : gM} (h : mg M Mm = M) : mEq M Mm := fun a k h1 h2 => by
  rw [← mg_m (A := M) (B := Mm) (k := k) ⟨h1, h2⟩, h]
theorem mEq.row {M M' : gM} (h : mEq M M') (a : Nat) (h1 : 40 ≤ a) (h2 : a < 100) : M' a = M a := funext fun k => h a k h1 h2
/-- what the model's cells tell of the towns -/
def mT (M : gM) (T C : Nat) (R F : Nat → Nat) : Prop := T ≤ 6 ∧ C ≤ F T ∧ F T ≤ 30 ∧ M 40 11 = iN T ∧ M 40 12 = iN (F T) ∧ M 40 13 = iN C ∧ (∀ t, t ≤ T → F t ≤ 30) ∧ (∀ t, t < T → vT2 M F t) ∧ (∀ t, t < 6 → vT3 M R t) ∧ (∀ t r, t < 6 → r < R t → vR2 M t r) ∧ ∀ t, t < 6 → R t ≤ 10
theorem mT.of {σ : gS} {M Mm : gM} {P T C : Nat} {R F : Nat → Nat} (hL : Lay σ P T R) (hT : vT M T C R F) (h : mEq M Mm) : mT Mm T C R F := by
  have hF := hT.F
  have hFT := hF T (Nat.le_refl _)
  obtain ⟨h0, hF0, hC2, t1, t2, t3, t4, k1, k2, g7, g8, g9, g10, g11⟩ := hT
  refine ⟨h0, hC2, by omega, by rw [h _ _ (by omega) (by omega)]; exact t2, by rw [h _ _ (by omega) (by omega)]; exact t4, by rw [h _ _ (by omega) (by omega)]; exact k2, fun t ht => by have := hF t ht; omega, fun t ht => ?_, fun t ht => ?_, fun t r ht hr => ?_, fun t ht => (hL.2.2.2.1.1 t ht).1⟩
  · have := g8 t ht
    unfold vT2 at *
    rw [h.row 51 (by omega) (by omega), h.row 50 (by omega) (by omega)]
    exact this
  · have := g9 t ht
    unfold vT3 at *
    rw [h.row 52 (by omega) (by omega), h.row 57 (by omega) (by omega)]
    exact this
  · have := g11 t r ht hr
    unfold vR2 at *
    rw [h.row 53 (by omega) (by omega), h.row 54 (by omega) (by omega), h.row 55 (by omega) (by omega), h.row 56 (by omega) (by omega)]
    exact this
theorem mover {σ : gS} {M : gM} {T C t : Nat} {R F : Nat → Nat} (hv : mT M T C R F) (ht : t < T) : f_X12_isOver (iN t) σ M = some (bI (overB F C t)) := by
  obtain ⟨h0, h1, h2, h3, h4, h5, h6, h7, h8, h9, h10⟩ := hv
  obtain ⟨b1, b2, b3, b4⟩ := h7 t ht
  have b5 := h6 (t + 1) (by omega)
  unfold f_X12_isOver b_X12_isOver_0
  by_cases h : F (t + 1) ≤ C
  · simp (disch := omega) only [li_0, li_1, li_2, li_3, li_4, li_5, li_6, li_7, li_8, li_9, li_10, li_11, li_12, li_13, li_14, li_15, li_16, li_18, li_19, li_20, li_24, li_28, li_29, li_30, li_31, li_32, li_36, li_40, li_41, li_42, li_43, li_45, li_48, li_49, li_50, li_56, li_57, li_59, li_60, li_61, li_62, li_63, li_64, li_97, li_99, li_100, li_120, li_121, li_122, li_255, li_270, li_300, li_400, li_500, li_540, li_1000, li_1024, li_1440, li_9999, li_11264, li_32768, li_268435456, li_1073741824, li_m, li_o, iN_add, iN_mul, iN_lt, iN_in, iN_cl, iN_inj, iM_ne, iM_ne', iN_or, iN_xor, iN_bd, sh31n, iN_shl2, iN_shr2, iN_bit2, Nat.one_mul, oB, iff_t, iff_f, if_true, if_false, g_up_ne, g_up_eq, g_z_ne, g_z_eq, h5, b1, b4, overB, decide_eq_true h, bI_t]
  · simp (disch := omega) only [li_0, li_1, li_2, li_3, li_4, li_5, li_6, li_7, li_8, li_9, li_10, li_11, li_12, li_13, li_14, li_15, li_16, li_18, li_19, li_20, li_24, li_28, li_29, li_30, li_31, li_32, li_36, li_40, li_41, li_42, li_43, li_45, li_48, li_49, li_50, li_56, li_57, li_59, li_60, li_61, li_62, li_63, li_64, li_97, li_99, li_100, li_120, li_121, li_122, li_255, li_270, li_300, li_400, li_500, li_540, li_1000, li_1024, li_1440, li_9999, li_11264, li_32768, li_268435456, li_1073741824, li_m, li_o, iN_add, iN_mul, iN_lt, iN_in, iN_cl, iN_inj, iM_ne, iM_ne', iN_or, iN_xor, iN_bd, sh31n, iN_shl2, iN_shr2, iN_bit2, Nat.one_mul, oB, iff_t, iff_f, if_true, if_false, g_up_ne, g_up_eq, g_z_ne, g_z_eq, h5, b1, b4, overB, decide_eq_false h, bI_f]
theorem mopen {σ : gS} {M : gM} {T C t : Nat} {R F : Nat → Nat} (hv : mT M T C R F) (ht : t < T) : f_X12_isOpen (iN t) σ M = some (bI (!overB F C t)) := by
  unfold f_X12_isOpen b_X12_isOpen_0
  rw [mtown_in hv.2.2.2.1 hv.1 ht, mover hv ht]
  cases overB F C t <;> rfl
theorem mopen_out {σ : gS} {M : gM} {T C : Nat} {R F : Nat → Nat} {x : Int32} (hv : mT M T C R F) (hx : ∀ t, t < T → x ≠ iN t) : f_X12_isOpen x σ M = some (iN 0) := by
  unfold f_X12_isOpen b_X12_isOpen_0
  rw [mtown_out hv.2.2.2.1 hv.1 hx]
  rfl
theorem mroom_in {σ : gS} {M : gM} {T C t r : Nat} {R F : Nat → Nat} (hv : mT M T C R F) (ht : t < 6) (h : r < R t) : f_X12_isRoom (iN t) (iN r) σ M = some (iN 1) := by
  have e2 := (hv.2.2.2.2.2.2.2.2.1 t ht).1
  have e3 := hv.2.2.2.2.2.2.2.2.2.2 t ht
  unfold f_X12_isRoom b_X12_isRoom_0
  rcases in_casesP (iN r) (P := R t) (by omega) with ⟨n, g1, g2, g3⟩ | ⟨g1, g2⟩
  · simp (disch := omega) only [li_0, li_1, li_2, li_3, li_4, li_5, li_6, li_7, li_8, li_9, li_10, li_11, li_12, li_13, li_14, li_15, li_16, li_18, li_19, li_20, li_24, li_28, li_29, li_30, li_31, li_32, li_36, li_40, li_41, li_42, li_43, li_45, li_48, li_49, li_50, li_56, li_57, li_59, li_60, li_61, li_62, li_63, li_64, li_97, li_99, li_100, li_120, li_121, li_122, li_255, li_270, li_300, li_400, li_500, li_540, li_1000, li_1024, li_1440, li_9999, li_11264, li_32768, li_268435456, li_1073741824, li_m, li_o, iN_add, iN_mul, iN_lt, iN_in, iN_cl, iN_inj, iM_ne, iM_ne', iN_or, iN_xor, iN_bd, sh31n, iN_shl2, iN_shr2, iN_bit2, Nat.one_mul, oB, iff_t, iff_f, if_true, if_false, g_up_ne, g_up_eq, g_z_ne, g_z_eq, e2, g3, gb1]
  · exact absurd rfl (g2 r h)
theorem mroom_out {σ : gS} {M : gM} {T C t : Nat} {R F : Nat → Nat} {x : Int32} (hv : mT M T C R F) (ht : t < 6) (hx : ∀ r, r < R t → x ≠ iN r) : f_X12_isRoom (iN t) x σ M = some (iN 0) := by
  have e2 := (hv.2.2.2.2.2.2.2.2.1 t ht).1
  have e3 := hv.2.2.2.2.2.2.2.2.2.2 t ht
  unfold f_X12_isRoom b_X12_isRoom_0
  rcases in_casesP x (P := R t) (by omega) with ⟨n, g1, g2, g3⟩ | ⟨g1, g2⟩
  · exact absurd g1 (hx n g2)
  · simp (disch := omega) only [li_0, li_1, li_2, li_3, li_4, li_5, li_6, li_7, li_8, li_9, li_10, li_11, li_12, li_13, li_14, li_15, li_16, li_18, li_19, li_20, li_24, li_28, li_29, li_30, li_31, li_32, li_36, li_40, li_41, li_42, li_43, li_45, li_48, li_49, li_50, li_56, li_57, li_59, li_60, li_61, li_62, li_63, li_64, li_97, li_99, li_100, li_120, li_121, li_122, li_255, li_270, li_300, li_400, li_500, li_540, li_1000, li_1024, li_1440, li_9999, li_11264, li_32768, li_268435456, li_1073741824, li_m, li_o, iN_add, iN_mul, iN_lt, iN_in, iN_cl, iN_inj, iM_ne, iM_ne', iN_or, iN_xor, iN_bd, sh31n, iN_shl2, iN_shr2, iN_bit2, Nat.one_mul, oB, iff_t, iff_f, if_true, if_false, g_up_ne, g_up_eq, g_z_ne, g_z_eq, e2, g1, gb0]
theorem shareB_eq {M M' : gM} (h : mEq M M') (a b : Nat) : shareB M' a b = shareB M a b := by
  unfold shareB
  rw [h.row 48 (by omega) (by omega), h.row 49 (by omega) (by omega), h.row 41 (by omega) (by omega), h.row 42 (by omega) (by omega)]
theorem thereB_eq {M M' : gM} (h : mEq M M') (p t : Nat) : thereB M' p t = thereB M p t := by
  unfold thereB
  rw [h.row 47 (by omega) (by omega), h.row 45 (by omega) (by omega), h.row 46 (by omega) (by omega)]
/-- no guests beyond the people -/
theorem inR_hi {M : gM} {P t : Nat} {x : Int32} (hP : vP M P) (ht : t < 6) (hx : x ≠ iM) {p : Nat} (hp : P ≤ p) : (inR (M 57) t x).testBit p = false := by
  rw [inR_bit]
  by_cases h : p < 10
  · rw [(hP.2.2.2.2.2.2.2.1 p hp h).2.2.2.2 t ht, decide_eq_false (show ¬ iM = x from fun e => hx e.symm), Bool.and_false]
  · rw [decide_eq_false h, Bool.false_and]
theorem bd_f {s q p : Nat} (h : s.testBit p = false) : (bd s q).testBit p = false := by rw [bd_bit, h]; rfl
theorem call_put {σ : gS} {M : gM} (h : Inv σ M) (x y z : Int32) : ∃ r M1 M2, f_X11_put x y z σ M = some (r, M1) ∧ f_X12_put x y z σ M1 = some (r, M2) ∧ Inv σ M2 := by
  have h0 := h
  obtain ⟨P, T, C, R, F, hL, hP, hT, hD, hN, hB, hK, hC, hX⟩ := h
  have hT6 := hT.1
  have hP10 := hP.1
  have hmT0 : mT M T C R F := mT.of hL hT (fun _ _ _ _ => rfl)
  rcases idx_or x T (by omega) with ⟨t, ht, rfl⟩ | hx
  · obtain ⟨o1, o2⟩ := lasts_in hL.2.2.1 hT ht
    cases ho : overB F C t with
    | true =>
      rw [ho] at o1 o2
      refine ⟨iN 0, M, M, ?_, ?_, h0⟩
      · unfold f_X11_put b_X11_put_0
        rw [o1]; rfl
      · unfold f_X12_put b_X12_put_0
        rw [o2]; rfl
    | false =>
      rw [ho] at o1
      have o1 : f_X11_townThatLasts (iN t) σ M = some (110 + t) := o1
      have o2 : ∀ Mm, mEq M Mm → f_X12_isOpen (iN t) σ Mm = some (iN 1) := fun Mm hm => by
        rw [mopen (mT.of hL hT hm) ht, ho]; rfl
      have hR := (hL.2.2.2.1.1 t (by omega)).1
      rcases idx_or y P (by omega) with ⟨p, hp, rfl⟩ | hy
      · have m40 : ∀ Mm, mEq M Mm → Mm 40 1 = iN P := fun Mm hm => by rw [hm _ _ (by omega) (by omega)]; exact hP.2.2.1
        have o3 := isThere_c (t := t) hL.2.1 hP hp
        have o4 : ∀ Mm, mEq M Mm → f_X12_isThere (iN p) (iN t) σ Mm = some (bI (thereB M p t)) := fun Mm hm => by
          rw [there_m (by omega), thereB_eq hm]
        cases hth : thereB M p t with
        | false =>
          rw [hth] at o3 o4
          refine ⟨iN 0, M, M, ?_, ?_, h0⟩
          · unfold f_X11_put b_X11_put_0
            rw [o1]
            simp only [oB]
            rw [if_neg (by omega), o3]
            rfl
          · unfold f_X12_put b_X12_put_0
            rw [o2 M (fun _ _ _ _ => rfl), pers_in hP.2.2.1 hP10 hp, o4 M (fun _ _ _ _ => rfl)]
            rfl
        | true =>
          rw [hth] at o3 o4
          have cgo : f_X11_put (iN t) (iN p) z σ M = if z = -1 then b_X11_put_47 (iN p) z (110 + t) σ M else (f_X5_fits (110 + t) (iN p) z σ M).bind fun q39 => if q39 = 0 then some (0, M) else b_X11_put_47 (iN p) z (110 + t) σ M := by
            unfold f_X11_put b_X11_put_0
            rw [o1]
            simp only [oB]
            rw [if_neg (by omega), o3]
            rfl
          have mgo : ∀ Mm, mEq M Mm → f_X12_put (iN t) (iN p) z σ Mm = if z = -1 then b_X12_put_41 (iN t) (iN p) z σ Mm else (f_X12_isRoom (iN t) z σ Mm).bind fun q33 => if q33 = 0 then some (0, Mm) else b_X12_put_41 (iN t) (iN p) z σ Mm := fun Mm hm => by
            unfold f_X12_put b_X12_put_0
            rw [o2 Mm hm, pers_in (m40 Mm hm) hP10 hp, o4 Mm hm]
            rfl
          by_cases hz : z = -1
          · subst hz
            obtain ⟨r, M1, M2, a1, a2, a3, a4⟩ := put_end (σ := σ) (x := -1) (show Iv σ M P T C R F from ⟨hL, hP, hT, hD, hN, hB, hK, hC, hX⟩) ht hp (Or.inl rfl)
            refine ⟨r, M1, M2, ?_, ?_, a3⟩
            · rw [cgo, if_pos rfl]; exact a1
            · rw [mgo M1 a4, if_pos rfl]
              unfold b_X12_put_41
              rw [if_pos rfl]; exact a2
          · rcases idx_or z (R t) (by omega) with ⟨r, hr, rfl⟩ | hz2
            · obtain ⟨b, hb, hb1, hb2⟩ := (hT.2.2.2.2.2.2.2.2.2.2.2.2.2 t r (by omega) hr).2.2.1
              have hfit := fits_in hL hP hT ht hp hr hb hb2
              have hnM : (iN r : Int32) ≠ iM := fun e => by rw [iM_ne (by omega)] at e; exact e
              have hlt := inR_lt (M 57) t (iN r)
              have hle := bd_le (inR (M 57) t (iN r)) (2 ^ p)
              have mfit : ∀ Mm, mEq M Mm → b_X12_put_41 (iN t) (iN p) (iN r) σ Mm = if bP (fitP M P t p r b) then b_X12_put_166 (iN t) (iN p) (iN r) σ Mm else some (iN 0, Mm) := fun Mm hm => by
                have hset := setIn_m (σ := σ) (M := Mm) (x := iN r) (show t < 6 by omega) (m40 Mm hm) hP10 (fun q h1 h2 => by rw [hm _ _ (by omega) (by omega)]; exact (hP.2.2.2.2.2.2.2.1 q h1 h2).2.2.2.2 t (by omega)) hnM
                rw [hm.row 57 (by omega) (by omega)] at hset
                have hloop := l_mput (σ := σ) (M := Mm) (t := t) (p := p) (r := r) (b := b) (o := bd (inR (M 57) t (iN r)) (2 ^ p)) (m40 Mm hm) hP10 (by omega) hp (by omega) (by omega) (by rw [hm _ _ (by omega) (by omega)]; exact hb) hb2 P 0 g_FU (by omega) (by unfold g_FU; omega) (fun q hq => by omega)
                have hx : iN (inR (M 57) t (iN r)) &&& (((1 : Int32) <<< (iN p &&& 31)) ^^^ -1) = iN (bd (inR (M 57) t (iN r)) (2 ^ p)) := by
                  rw [show (1 : Int32) = iN 1 from rfl, iN_shl (by omega), Nat.one_mul]
                  exact iN_bd
                unfold b_X12_put_41 b_X12_put_103
                rw [if_neg hz, hset, oB, hx, hm.row 56 (by omega) (by omega), hm.row 54 (by omega) (by omega), hm.row 43 (by omega) (by omega)]
                have e10 : (10 : Int32) * iN t + iN r = iN (10 * t + r) := by rw [show (10 : Int32) = iN 10 from rfl, iN_mul, iN_add]
                rw [e10, if_pos (by rw [iN_in (by omega)]; omega), iN_cl (by omega), iN_cl (by omega), if_pos (show g_in (iN p) 10 = true by rw [iN_in (by omega)]; omega), if_pos (show g_in (iN (10 * t + r)) 60 = true by rw [iN_in (by omega)]; omega)]
                have hcnt : cnt (bd (inR (M 57) t (iN r)) (2 ^ p)) 10 = cnt (bd (inR (M 57) t (iN r)) (2 ^ p)) P := cnt_more hP10 (fun q h1 _ => bd_f (inR_hi hP (by omega) hnM h1))
                have key : okP M t r p → l_X12_put_109 g_FU (iN t) (iN p) (iN r) (iN (bd (inR (M 57) t (iN r)) (2 ^ p))) (iN (10 * t + r)) 0 0 σ Mm = if bP (fitP M P t p r b) then b_X12_put_166 (iN t) (iN p) (iN r) σ Mm else some (iN 0, Mm) := fun hok => by
                  refine Eq.trans hloop ?_
                  rw [bP_iff (show ((∀ q, q < P → (bd (inR (M 57) t (iN r)) (2 ^ p)).testBit q = true → shareB Mm q p = true) ∧ cnt (bd (inR (M 57) t (iN r)) (2 ^ p)) P < b) ↔ fitP M P t p r b from ⟨fun hh => ⟨hok, by rw [hcnt]; exact hh.2, fun q hq hg => by rw [share_sym hP hp hq, ← shareB_eq hm]; exact hh.1 q hq hg⟩, fun hh => ⟨fun q hq hg => by rw [shareB_eq hm, share_sym hP hq hp]; exact hh.2.2 q hq hg, by rw [← hcnt]; exact hh.2.1⟩⟩)]
                by_cases k1 : M 56 (10 * t + r) = 0
                · rw [if_pos k1, bP_f (fun hh => hh.1.1 k1)]; rfl
                · rw [if_neg k1]
                  by_cases k2 : M 43 p = 0
                  · rw [if_pos k2]
                    exact key ⟨k1, Or.inl k2⟩
                  · rw [if_neg k2]
                    by_cases k3 : M 54 (10 * t + r) = 0
                    · rw [if_pos k3, bP_f (fun hh => by
                        rcases hh.1.2 with g | g
                        · exact k2 g
                        · exact g k3)]
                      rfl
                    · rw [if_neg k3]
                      exact key ⟨k1, Or.inr k3⟩
              cases hf : bP (fitP M P t p r b) with
              | false =>
                rw [hf] at hfit
                refine ⟨iN 0, M, M, ?_, ?_, h0⟩
                · rw [cgo, if_neg hz, hfit]; rfl
                · rw [mgo M (fun _ _ _ _ => rfl), if_neg hz, mroom_in hmT0 (by omega) hr, mfit M (fun _ _ _ _ => rfl), hf]; rfl
              | true =>
                rw [hf] at hfit
                obtain ⟨q, M1, M2, a1, a2, a3, a4⟩ := put_end (σ := σ) (x := iN r) (show Iv σ M P T C R F from ⟨hL, hP, hT, hD, hN, hB, hK, hC, hX⟩) ht hp (Or.inr ⟨r, hr, rfl⟩)
                refine ⟨q, M1, M2, ?_, ?_, a3⟩
                · rw [cgo, if_neg hz, hfit]; exact a1
                · rw [mgo M1 a4, if_neg hz, mroom_in (mT.of hL hT a4) (by omega) hr, mfit M1 a4, hf]; exact a2
            · have hfit := fits_out hL hP hT ht hp hz2
              refine ⟨iN 0, M, M, ?_, ?_, h0⟩
              · rw [cgo, if_neg hz, hfit]; rfl
              · rw [mgo M (fun _ _ _ _ => rfl), if_neg hz, mroom_out hmT0 (by omega) hz2]; rfl
      · refine ⟨iN 0, M, M, ?_, ?_, h0⟩
        · unfold f_X11_put b_X11_put_0
          rw [o1]
          simp only [oB]
          rw [if_neg (by omega), isThere_out hP hy]
          rfl
        · unfold f_X12_put b_X12_put_0
          rw [o2 M (fun _ _ _ _ => rfl), pers_out hP.2.2.1 hP10 hy]
          rfl
  · obtain ⟨o1, o2⟩ := lasts_out (σ := σ) hT hx
    refine ⟨iN 0, M, M, ?_, ?_, h0⟩
    · unfold f_X11_put b_X11_put_0
      rw [o1]; rfl
    · unfold f_X12_put b_X12_put_0
      rw [o2]; rfl
