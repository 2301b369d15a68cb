/-! settle: the call. -/
theorem cx_of {σ : gS} {M : gM} {P T C t : Nat} {R F : Nat → Nat} (h : Iv σ M P T C R F) (ht : t < T) : mCx M P t (R t) := by
  obtain ⟨hL, hP, hT, _⟩ := h
  have hT6 := hT.1
  refine ⟨hP.1, by omega, (hL.2.2.2.1.1 t (by omega)).1, hP.2.2.1, (hT.2.2.2.2.2.2.2.2.2.2.2.1 t (by omega)).1, fun r hr => ?_⟩
  obtain ⟨b1, b2, b3, b4, b5, b6⟩ := bF_of hT (show t < 6 by omega) hr
  exact ⟨b1, b2, b3, b4, b6⟩
theorem prep_c {σ : gS} {M : gM} {P T C t aim : Nat} {R F g e : Nat → Nat} (h : Iv σ M P T C R F) (ht : t < T) (ha : aim ≤ 2) (hg : nth (fun p => thereB M p t) P g) (he : nth (heldF M t) (R t) e) : ∃ Mg σr Mr, f_X9_gatherGuests (110 + t) σ M = some Mg ∧ f_X9_gatherRooms (110 + t) σ Mg = some (σr, Mr) ∧ sE σ σr ∧ g_layC σr ∧ lyB σr ∧ Mr 12 9 = iN (cf (fun p => thereB M p t) P) ∧ Mr 12 11 = iN (bsum (heldF M t) (bF M t) (R t)) ∧ hasW σr (g_up Mr 12 12 (iN aim)) M t (cf (fun p => thereB M p t) P) (cf (heldF M t) (R t)) g e aim ∧ ∀ a j, ¬ (12 ≤ a ∧ a ≤ 19) → Mr a j = M a j := by
  obtain ⟨hL, hP, hT, hD, hN, hB, hK, hC, hX⟩ := h
  have hT6 := hT.1
  have hP10 := hP.1
  have hR10 := (hL.2.2.2.1.1 t (by omega)).1
  have hm := cf_le (fun p => thereB M p t) P
  have hq := cf_le (heldF M t) (R t)
  obtain ⟨Mg, q1, q2, q3⟩ := gather_c hL hP hT ht hg
  have hT' : vT Mg T C R F := hT.keep (fun a j h => q2 a j (by omega) (by omega)) (fun t ht => (hL.2.2.2.1.1 t ht).1)
  have r56 : Mg 56 = M 56 := funext fun j => q2 56 j (by omega) (by omega)
  have r53 : Mg 53 = M 53 := funext fun j => q2 53 j (by omega) (by omega)
  have eH : heldF Mg t = heldF M t := by funext r; unfold heldF; rw [r56]
  have eB : bF Mg t = bF M t := by funext r; unfold bF; rw [r53]
  obtain ⟨σr, Mr, u1, u2, u3, u4, u5, u6⟩ := rooms_c hL hT' ht (by rw [eH]; exact he)
  rw [eH] at u5 u6
  rw [eB] at u6
  have fr : ∀ a j, ¬ (12 ≤ a ∧ a ≤ 19) → Mr a j = M a j := fun a j h => by rw [u4 a j (by omega) (by omega), q2 a j (by omega) (by omega)]
  have hBr : lyB σr := hL.2.2.2.2.2.keep (fun a h => by rw [u2.1]) (u2.2 _ _ (by omega))
  refine ⟨Mg, σr, Mr, q1, u1, u2, u3, hBr, by rw [u4 _ _ (by omega) (by omega)]; exact q3.1, u6, ?_, fr⟩
  refine ⟨q3.keep (fun a j h => by rw [g_up_ne _ _ (by omega), u4 a j (by omega) (by omega)]), ⟨by rw [g_up_ne _ _ (by omega)]; exact u5.1, fun i hi => by rw [g_up_ne _ _ (by omega)]; exact u5.2 i hi⟩, g_up_eq _ _ ⟨rfl, rfl⟩, ha, by omega, by omega, fun i j h1 h2 => hg.lt h1 h2, fun j hj => by have := (hg j hj).1; omega, fun i hi => ?_⟩
  have hei := he i hi
  obtain ⟨b1, b2, b3, b4, b5, b6⟩ := bF_of hT (show t < 6 by omega) hei.1
  have w1 := hT.2.2.2.2.2.2.2.2.2.2.2.2.1 t (e i) (by omega) hei.1
  have w2 := hL.2.2.2.1.2.1 t (e i) (by omega) hei.1
  refine ⟨by omega, by rw [u2.1]; exact w2.1, ?_, b3, ?_, ?_, b6⟩
  · rw [g_up_ne _ _ (by omega), fr _ _ (by omega), w1.1, b1]
  · rw [g_up_ne _ _ (by omega), fr _ _ (by omega), w1.2.1]
  · rw [g_up_ne _ _ (by omega), fr _ _ (by omega), w1.2.2.1, b4]
theorem cnt_all {M : gM} {P t : Nat} (hP10 : P ≤ 10) : cnt (allS M P t) 10 = cf (fun p => thereB M p t) P := by
  rw [cnt_cf, cf_more hP10 (fun p h1 h2 => by unfold allS; rw [setOf_bit, decide_eq_false (by omega)]; rfl)]
  exact cf_congr (fun i hi => by unfold allS; rw [setOf_bit, decide_eq_true hi]; rfl)
theorem dec_enc {how c mv : Nat} (hh : how ≤ 1) (h1 : mv ≤ 12) (h2 : c ≤ 12000) : (how = 0 → iN (encC how c mv) &&& (15 : Int32) = iN mv ∧ iN (encC how c mv) >>> ((4 : Int32) &&& 31) = iN c) ∧ (how = 1 → iN (encC how c mv) >>> ((14 : Int32) &&& 31) = iN mv ∧ iN (encC how c mv) &&& (16383 : Int32) = iN c) := by
  unfold encC
  refine ⟨fun e => ?_, fun e => ?_⟩
  · rw [if_pos e]
    constructor
    · rw [show (15 : Int32) = iN 15 from rfl, iN_and, show (15 : Nat) = 2 ^ 4 - 1 from rfl, Nat.and_two_pow_sub_one_eq_mod]
      congr 1
      omega
    · rw [show (4 : Int32) = iN 4 from rfl, iN_shr (by omega) (by omega)]
      congr 1
      omega
  · rw [if_neg (by omega), if_pos e]
    constructor
    · rw [show (14 : Int32) = iN 14 from rfl, iN_shr (by omega) (by omega)]
      congr 1
      omega
    · rw [show (16383 : Int32) = iN 16383 from rfl, iN_and, show (16383 : Nat) = 2 ^ 14 - 1 from rfl, Nat.and_two_pow_sub_one_eq_mod]
      congr 1
      omega
theorem settle_both {σ : gS} {M : gM} {P T C t how : Nat} {R F : Nat → Nat} (h : Iv σ M P T C R F) (N : gN) (ht : t < T) (hov : overB F C t = false) (hh : how ≤ 1) (Mm : gM) (hg0 : mg M Mm = M) : ∃ r σ1 Mc' N1 Mm', f_X11_settle (iN t) (iN how) σ M N = some (r, σ1, Mc', N1) ∧ g_layL σ1 ∧ f_X12_settle (iN t) (iN how) σ1 Mm = some (r, Mm') ∧ (∀ a k, 40 ≤ a → a < 100 → Mc' a k = M a k) ∧ (∀ a k, a < 40 ∨ 100 ≤ a → Mm' a k = Mm a k) ∧ Inv σ1 (mg Mc' Mm') := by
  have hIv := h
  obtain ⟨hL, hP, hT, hD, hN, hB, hK, hC, hX⟩ := h
  have hT6 := hT.1
  have hP10 := hP.1
  have hR10 := (hL.2.2.2.1.1 t (by omega)).1
  have hme := mEq.of hg0
  have hCx := cx_of hIv ht
  obtain ⟨g, hg⟩ := nth_ex (fun p => thereB M p t) P
  obtain ⟨e, he⟩ := nth_ex (heldF M t) (R t)
  have hm := cf_le (fun p => thereB M p t) P
  have hq := cf_le (heldF M t) (R t)
  obtain ⟨Mg, σr, Mr, a1, a2, a3, a4, a5, a6, a7, a8, a9⟩ := prep_c (aim := how) hIv ht (by omega) hg he
  have frm : frM Mm M := fun a j h1 h2 _ => hme a j h1 h2
  have hop : ∀ σ' : gS, f_X12_isOpen (iN t) σ' Mm = some (iN 1) := fun σ' => by rw [mopen (mT.of hL hT hme) ht, hov]; rfl
  have hlast := (lasts_in (σ := σ) (M := M) hL.2.2.1 hT ht).1
  rw [hov, if_neg (by decide)] at hlast
  have hin : f_X11_isWithin (iN how) 0 1 = some (iN 1) := by
    rw [w_in]
    rcases (show how = 0 ∨ how = 1 by omega) with z | z <;> (rw [z]; rfl)
  have cTop : f_X11_settle (iN t) (iN how) σ M N = (f_X9_findList (110 + t) (iN how) σ M N).bind fun q29 => if g_layCB q29.2.1 = true then if q29.1 = (0 : Int32) then some ((-1), q29.2.1, q29.2.2.1, q29.2.2.2) else (f_X9_changes (110 + t) q29.2.1 q29.2.2.1).bind fun q46 => (f_X4_haveSpace q46 q29.2.1 q29.2.2.1).bind fun q49 => if q49 = (0 : Int32) then some ((-1), q29.2.1, q29.2.2.1, q29.2.2.2) else l_X11_settle_60 g_FU (110 + t) 0 q29.2.1 q29.2.2.1 q29.2.2.2 else none := by
    unfold f_X11_settle b_X11_settle_0
    rw [hlast, oB, if_neg (by omega), hin, oB, if_neg (show ¬ iN 1 = (0 : Int32) by decide)]
  have hfull : 2 ^ cf (fun p => thereB M p t) P - 1 < 2 ^ cf (fun p => thereB M p t) P := by have : 1 ≤ 2 ^ cf (fun p => thereB M p t) P := Nat.one_le_two_pow; omega
  have hW1 : 2 ^ cf (fun p => thereB M p t) P ≤ 2 ^ 10 := Nat.pow_le_pow_right (by omega) (by omega)
  have hW2 : 2 ^ 10 = 1024 := rfl
  have hall : emb (fun p => thereB M p t) P (2 ^ cf (fun p => thereB M p t) P - 1) = allS M P t := emb_full _ _
  have sr1 : ∀ a, ¬ (10000 ≤ a ∧ a ≤ 21264) → σr.1 a = σ.1 a := fun a _ => by rw [a3.1]
  have sr2 : ∀ a j, a ≠ 18 → ¬ (10000 ≤ a ∧ a ≤ 21264) → ¬ (a = 12 ∧ j = 13) → σr.2 a j = σ.2 a j := fun a j h1 _ _ => a3.2 a j h1
  by_cases beds : bsum (heldF M t) (bF M t) (R t) < cf (fun p => thereB M p t) P
  · -- too few beds
    obtain ⟨M', b1, b2, b3, b4⟩ := settle_m1 (σ := σr) hCx hh frm (hop σr)
    have hall1024 : allS M P t < 1024 := by rw [← hall]; exact Nat.lt_of_lt_of_le (emb_lt _ _ _) (Nat.le_trans (Nat.pow_le_pow_right (by omega) hP10) (by decide))
    have hF : LT M P t (R t) how 0 (allS M P t) = 1073741824 := by
      by_cases c : LT M P t (R t) how 0 (allS M P t) = 1073741824
      · exact c
      · have := LT_beds hCx hP (R t) 0 (by omega) (allS M P t) hall1024 c
        rw [cnt_all hP10, show bsum (heldF M t) (bF M t) 0 = 0 from rfl] at this
        omega
    rw [if_pos hF] at b1
    have hbs : bsum (heldF M t) (bF M t) (R t) < 100 := by omega
    have fin : Iv σr (mg Mr M') P T C R F := iv_sc hIv sr1 sr2 a5 a4 (fun a j h1 h2 h3 h4 => by
      unfold mg
      split
      · rename_i hh'
        rw [b4 a j (by omega), hme a j hh'.1 hh'.2]
      · exact a9 a j h1)
    refine ⟨-1, σr, Mr, N, M', ?_, fin.1.1, b1, fun a k h1 h2 => a9 a k (by omega), fun a k h => b4 a k (by omega), P, T, C, R, F, fin⟩
    rw [cTop]
    unfold f_X9_findList b_X9_findList_0
    rw [a1, oB, a2, oB, if_pos (by rw [layCB_of a4]; trivial), if_pos (show Mr 12 11 < Mr 12 9 by rw [a6, a7, iN_lt (by omega) (by omega)]; exact beds), oB, if_pos (by rw [layCB_of a4]; trivial), if_pos rfl]
  · obtain ⟨σ1, M1, N1, ta, len, Tb, f1, f2, f3, f4, f5, f6, f7, f8, f9, f10, f11, f12, f13, f14⟩ := fill_c (N := N) (show t < 6 by omega) a5 a4 a8
    have hR := rel_tab hCx hP hh hg he f12
    have s1 : ∀ a, ¬ (10000 ≤ a ∧ a ≤ 21264) → σ1.1 a = σ.1 a := fun a h => by rw [f4 a h, sr1 a h]
    have s2 : ∀ a j, a ≠ 18 → ¬ (10000 ≤ a ∧ a ≤ 21264) → ¬ (a = 12 ∧ j = 13) → σ1.2 a j = σ.2 a j := fun a j h1 h2 h3 => by rw [f5 a j h2 h3, sr2 a j h1 h2 h3]
    have fr1 : ∀ a j, ¬ (12 ≤ a ∧ a ≤ 19) → a ≠ 36 → ¬ (10000 ≤ a ∧ a ≤ 21264) → M1 a j = M a j := fun a j h1 h2 h3 => by rw [f14 a j (by omega), g_up_ne _ _ (by omega), a9 a j h1]
    obtain ⟨M', b1, b2, b3, b4⟩ := settle_m1 (σ := σ1) hCx hh frm (hop σ1)
    have hR0 := hR (R t) 0 (by omega) _ hfull
    rw [hall, show cf (heldF M t) 0 = 0 from rfl] at hR0
    have hbest : M1 ta (2 ^ cf (fun p => thereB M p t) P - 1) = iN (Tb 0 (2 ^ cf (fun p => thereB M p t) P - 1)) := by
      have := f11 0 (2 ^ cf (fun p => thereB M p t) P - 1) (Nat.zero_le _) hfull
      rw [Nat.zero_mul, Nat.zero_add] at this
      exact this
    have hTle := f12.2.1 0 _ (Nat.zero_le _) hfull
    have i14 : g_is σ1 ta 14 = true := by rw [is_of f7]; trivial
    have hlen0 : 2 ^ cf (fun p => thereB M p t) P ≤ (cf (heldF M t) (R t) + 1) * 2 ^ cf (fun p => thereB M p t) P := by rw [Nat.succ_mul]; omega
    have p1 : (1 : Int32) <<< (M1 12 9 &&& 31) - (1 : Int32) = iN (2 ^ cf (fun p => thereB M p t) P - 1) := by rw [f13.1.1, show (1 : Int32) = iN 1 from rfl, iN_shl (by omega), Nat.one_mul, iN_sub (by omega)]
    have cFind : f_X9_findList (110 + t) (iN how) σ M N = if iN (Tb 0 (2 ^ cf (fun p => thereB M p t) P - 1)) < (268435456 : Int32) then (f_X9_readPlan σ1 M1).bind fun q58 => if (q58 12 12) = (0 : Int32) then b_X9_findList_82 (iN (Tb 0 (2 ^ cf (fun p => thereB M p t) P - 1))) (iN (Tb 0 (2 ^ cf (fun p => thereB M p t) P - 1)) &&& (15 : Int32)) σ1 q58 N1 else b_X9_findList_82 (iN (Tb 0 (2 ^ cf (fun p => thereB M p t) P - 1))) (iN (Tb 0 (2 ^ cf (fun p => thereB M p t) P - 1)) >>> ((14 : Int32) &&& 31)) σ1 q58 N1 else some (0, σ1, M1, N1) := by
      unfold f_X9_findList b_X9_findList_0
      rw [a1, oB, a2, oB, if_pos (by rw [layCB_of a4]; trivial), if_neg (show ¬ Mr 12 11 < Mr 12 9 by
        have hbb : bsum (heldF M t) (bF M t) (R t) < 2147483648 := by
          have : ∀ n, n ≤ R t → bsum (heldF M t) (bF M t) n ≤ 2 * n := fun n => by
            induction n with
            | zero => intro _; exact Nat.le_refl _
            | succ n ih =>
              intro hn
              have h1 := ih (by omega)
              have h2 := (bF_of hT (show t < 6 by omega) (show n < R t by omega)).2.2.1
              rw [bsum]
              split <;> omega
          have := this (R t) (Nat.le_refl _)
          omega
        rw [a6, a7, iN_lt hbb (by omega)]; exact beds)]
      rw [show f_X9_fillTable σr (g_up Mr 12 12 (iN how)) N = _ from f1, oB, if_pos (by rw [layCB_of f3]; trivial), f6, if_pos i14, p1, ln_of f7, if_pos (by rw [iN_in (by omega)]; omega), iN_cl (by omega)]
      show (if M1 ta (2 ^ cf (fun p => thereB M p t) P - 1) < (268435456 : Int32) then (f_X9_readPlan σ1 M1).bind fun q58 => if (q58 12 12) = (0 : Int32) then b_X9_findList_82 (M1 ta (2 ^ cf (fun p => thereB M p t) P - 1)) (M1 ta (2 ^ cf (fun p => thereB M p t) P - 1) &&& (15 : Int32)) σ1 q58 N1 else b_X9_findList_82 (M1 ta (2 ^ cf (fun p => thereB M p t) P - 1)) (M1 ta (2 ^ cf (fun p => thereB M p t) P - 1) >>> ((14 : Int32) &&& 31)) σ1 q58 N1 else some (0, σ1, M1, N1)) = _
      rw [hbest]
    by_cases cN : Tb 0 (2 ^ cf (fun p => thereB M p t) P - 1) = 268435456
    · -- no right list
      have hF : LT M P t (R t) how 0 (allS M P t) = 1073741824 := by
        rcases hR0 with ⟨_, z⟩ | ⟨c, mv, z1, z2, z3, z4⟩
        · exact z
        · exfalso
          have h10 := cnt_le (2 ^ cf (fun p => thereB M p t) P - 1) 10
          have := (enc_lt (c := c) (mv := mv) hh (by omega) (by omega)).1
          omega
      rw [if_pos hF] at b1
      have fin : Iv σ1 (mg M1 M') P T C R F := iv_sc hIv s1 s2 f2 f3 (fun a j h1 h2 h3 h4 => by
        unfold mg
        split
        · rename_i hh'
          rw [b4 a j (by omega), hme a j hh'.1 hh'.2]
        · exact fr1 a j h1 h2 h4)
      refine ⟨-1, σ1, M1, N1, M', ?_, fin.1.1, b1, fun a k h1 h2 => fr1 a k (by omega) (by omega) (by omega), fun a k h => b4 a k (by omega), P, T, C, R, F, fin⟩
      rw [cTop, cFind, cN, if_neg (show ¬ iN 268435456 < (268435456 : Int32) by decide), oB, if_pos (by rw [layCB_of f3]; trivial), if_pos rfl]
    · -- a list
      have h10 := cnt_le (2 ^ cf (fun p => thereB M p t) P - 1) 10
      obtain ⟨Fp, c, mv, z1, z2, z3, z4, z5, z6⟩ := plan_both hCx hP hh hg he f12 (R t) 0 (by omega) _ hfull (by rw [show cf (heldF M t) 0 = 0 from rfl]; exact cN) (fun _ => -1)
      rw [hall] at z1 z6
      have lts := enc_lt (c := c) (mv := mv) hh (by omega) (by omega)
      have hTe : Tb 0 (2 ^ cf (fun p => thereB M p t) P - 1) = encC how c mv := by
        rcases hR0 with ⟨z, _⟩ | ⟨c', mv', y1, y2, y3, y4⟩
        · exact absurd z cN
        · obtain ⟨e1, e2⟩ := enc_inj hh (show mv ≤ 12 by omega) (show mv' ≤ 12 by omega) (show c ≤ 12000 by omega) (show c' ≤ 12000 by omega) (by rw [← z1, y2])
          rw [y1, e1, e2]
      rw [if_neg (by rw [z1]; omega)] at b1
      -- the class's plan
      obtain ⟨Mq, v1, v2, v3⟩ := l_rp2 (σ := σ1) 10 0 g_FU M1 (by omega) (by unfold g_FU; omega) (fun p hp => by omega)
      have hta13 : ta ≠ 13 := by omega
      obtain ⟨Mp, w1, w2, w3⟩ := z5 σ1 Mq ta len g_FU (by unfold g_FU; omega) (f13.keep' (by omega) (fun a j h => v3 a j (by omega))) f6 f7 (by omega) f9 hta13 (fun i s hi hs => by rw [v3 _ _ hta13]; exact f11 i s hi hs) v2
      have frp : ∀ a j, a ≠ 13 → Mp a j = M1 a j := fun a j h => by rw [w3 a j h, v3 a j h]
      have hplan : f_X9_readPlan σ1 M1 = some Mp := by
        unfold f_X9_readPlan b_X9_readPlan_0
        refine (show l_X9_readPlan_2 g_FU 0 σ1 M1 = _ from v1).trans ?_
        rw [p1]
        exact w1
      have hfl : f_X9_findList (110 + t) (iN how) σ M N = some (1, σ1, g_up (g_up Mp 12 1 (iN mv)) 12 2 (iN c), N1) := by
        have dc := dec_enc hh (show mv ≤ 12 by omega) (show c ≤ 12000 by omega)
        rw [cFind, hTe, if_pos (show iN (encC how c mv) < (268435456 : Int32) by rw [show (268435456 : Int32) = iN 268435456 from rfl, iN_lt (by omega) (by omega)]; omega), hplan, oB, frp 12 12 (by omega), f13.2.2.1]
        unfold b_X9_findList_82 b_X9_findList_106
        rw [g_up_ne (b := 12) (j := 12) _ _ (by omega), g_up_ne (b := 12) (j := 12) _ _ (by omega), frp 12 12 (by omega), f13.2.2.1]
        rcases (show how = 0 ∨ how = 1 by omega) with q | q
        · rw [if_pos (show iN how = (0 : Int32) by rw [q]; rfl), if_pos (show iN how = (0 : Int32) by rw [q]; rfl), (dc.1 q).1, (dc.1 q).2]
        · rw [if_neg (show ¬ iN how = (0 : Int32) by rw [q]; decide), if_neg (show ¬ iN how = (0 : Int32) by rw [q]; decide), (dc.2 q).1, (dc.2 q).2]
      let Mc : gM := g_up (g_up Mp 12 1 (iN mv)) 12 2 (iN c)
      have fc : ∀ a j, ¬ (a = 12 ∧ (j = 1 ∨ j = 2)) → Mc a j = Mp a j := fun a j h => by show g_up (g_up Mp 12 1 (iN mv)) 12 2 (iN c) a j = _; rw [g_up_ne _ _ (by omega), g_up_ne _ _ (by omega)]
      have mc1 : Mc 12 1 = iN mv := by show g_up (g_up Mp 12 1 (iN mv)) 12 2 (iN c) 12 1 = _; rw [g_up_ne _ _ (by omega), g_up_eq _ _ ⟨rfl, rfl⟩]
      have mc2 : Mc 12 2 = iN c := g_up_eq _ _ ⟨rfl, rfl⟩
      have frc : ∀ a j, ¬ (12 ≤ a ∧ a ≤ 19) → a ≠ 36 → ¬ (10000 ≤ a ∧ a ≤ 21264) → Mc a j = M a j := fun a j h1 h2 h3 => by rw [fc a j (by omega), frp a j (by omega), fr1 a j h1 h2 h3]
      have mc13 : ∀ p, p < 10 → Mc 13 p = Fp p := fun p hp => by rw [fc _ _ (by omega)]; exact w2 p hp
      -- the model's plan
      have fr' : frM M' M := fun a j h1 h2 h3 => by rw [b4 a j (by omega), hme a j h1 h2]
      obtain ⟨Mq', y1, y2, y3⟩ := l_t12 (σ := σ1) (t := t) (how := how) (x4 := iN (allS M P t)) (x5 := 0) (x6 := 0) hP10 P 0 g_FU M' (by omega) (by unfold g_FU; omega) (by rw [fr' _ _ (by omega) (by omega) (by omega)]; exact hP.2.2.1) (fun p hp => by omega)
      obtain ⟨Mt, x1, x2, x3⟩ := z6 σ1 Mq' g_FU 0 0 (by unfold g_FU; omega) (fun a j h1 h2 h3 => by rw [y3 a j (by omega), fr' a j h1 h2 h3]) (fun r hr => ⟨by rw [y3 _ _ (by omega)]; exact (b2 r hr).1, fun j hj => by rw [y3 _ _ (by omega)]; exact (b2 r hr).2 j hj⟩) (fun u S h1 h2 h3 => by rw [y3 _ _ (by omega)]; exact b3 u S h1 h2 h3) y2
      rw [Nat.zero_add, Nat.zero_add] at x1
      have frt : ∀ a j, ¬ (65 ≤ a ∧ a ≤ 68) → Mt a j = Mm a j := fun a j h => by rw [x3 a j (by omega), y3 a j (by omega), b4 a j (by omega)]
      have mtM : ∀ a j, 40 ≤ a → a < 100 → ¬ (65 ≤ a ∧ a ≤ 68) → Mt a j = M a j := fun a j h1 h2 h3 => by rw [frt a j h3, hme a j h1 h2]
      have iv0 : Iv σ1 (mg Mc Mt) P T C R F := iv_sc hIv s1 s2 f2 f3 (fun a j h1 h2 h3 h4 => by
        unfold mg
        split
        · rename_i hh'
          exact mtM a j hh'.1 hh'.2 (by omega)
        · exact frc a j h1 h2 h4)
      have hL1 := iv0.1
      obtain ⟨s, n1, n2, n3, n4⟩ := hN
      have hz : ∀ p, P ≤ p → p < 10 → M 57 (10 * t + p) = iM ∧ Fp p = iM := fun p h1 h2 => by
        refine ⟨(hP.2.2.2.2.2.2.2.1 p h1 h2).2.2.2.2 t (by omega), ?_⟩
        rcases z4 p with z | ⟨r', _, z, _⟩
        · exact z
        · omega
      have v130 : ∀ p, p < 10 → Mc (130 + t) p = M 57 (10 * t + p) := fun p hp => by rw [frc _ _ (by omega) (by omega) (by omega)]; exact (hT.2.2.2.2.2.2.2.2.2.1 t ht).2.2.2.2 p hp
      have ec : cf (fun p => !decide (Mc (130 + t) p = Mc 13 p)) 10 = cf (fun p => !decide (M 57 (10 * t + p) = Fp p)) P := by
        rw [cf_congr (g := fun p => !decide (M 57 (10 * t + p) = Fp p)) (fun p hp => by rw [v130 p hp, mc13 p hp])]
        exact cf_more hP10 (fun p h1 h2 => by rw [(hz p h1 h2).1, (hz p h1 h2).2, decide_eq_true rfl]; rfl)
      have em : cf (fun p => !decide (Mt 57 (10 * t + p) = Mt 68 p)) P = cf (fun p => !decide (M 57 (10 * t + p) = Fp p)) P := cf_congr (fun p hp => by rw [mtM 57 _ (by omega) (by omega) (by omega), x2 p hp])
      have hch := cf_le (fun p => !decide (M 57 (10 * t + p) = Fp p)) P
      have cChg : f_X9_changes (110 + t) σ1 Mc = some (iN (cf (fun p => !decide (M 57 (10 * t + p) = Fp p)) P)) := by
        have := l_chgC (σ := σ1) (M := Mc) hL1.2.2.1 ht 10 0 g_FU (by omega) (by unfold g_FU; omega)
        rw [ec] at this
        exact this
      have mTk' : f_X12_takes (iN t) (iN how) (iN (allS M P t)) σ1 M' = if (500 : Int32) < Mt 40 26 + iN (cf (fun p => !decide (M 57 (10 * t + p) = Fp p)) P) then some (-1, Mt) else l_X12_takes_273 g_FU (iN t) (iN c) (iN mv) 0 σ1 Mt := by
        have := l_chgM (σ := σ1) (M := Mt) (x5 := iN c) (x6 := iN mv) hP10 (show t < 6 by omega) (by rw [mtM _ _ (by omega) (by omega) (by omega)]; exact hP.2.2.1) P 0 g_FU (by omega) (by unfold g_FU; omega)
        rw [em] at this
        exact (y1.trans x1).trans this
      have ms : Mt 40 26 = iN s := by rw [mtM _ _ (by omega) (by omega) (by omega)]; exact n3
      have cs : Mc 5 1 = iN s := by rw [frc _ _ (by omega) (by omega) (by omega)]; exact n2
      have cTop2 : f_X11_settle (iN t) (iN how) σ M N = if 500 < s + cf (fun p => !decide (M 57 (10 * t + p) = Fp p)) P then some (-1, σ1, Mc, N1) else l_X11_settle_60 g_FU (110 + t) 0 σ1 Mc N1 := by
        rw [cTop, hfl, oB, if_pos (by rw [layCB_of f3]; trivial), if_neg (show ¬ (1 : Int32) = 0 by decide)]
        rw [show f_X9_changes (110 + t) σ1 (g_up (g_up Mp 12 1 (iN mv)) 12 2 (iN c)) = _ from cChg, oB]
        unfold f_X4_haveSpace b_X4_haveSpace_0
        show ((if (500 : Int32) < Mc 5 1 + iN (cf (fun p => !decide (M 57 (10 * t + p) = Fp p)) P) then (some 0 : Option Int32) else some 1).bind fun q49 => if q49 = (0 : Int32) then some (-1, σ1, Mc, N1) else l_X11_settle_60 g_FU (110 + t) 0 σ1 Mc N1) = _
        rw [cs, iN_add]
        by_cases q : 500 < s + cf (fun p => !decide (M 57 (10 * t + p) = Fp p)) P
        · rw [if_pos q, if_pos (show (500 : Int32) < iN (s + cf (fun p => !decide (M 57 (10 * t + p) = Fp p)) P) by rw [show (500 : Int32) = iN 500 from rfl, iN_lt (by omega) (by omega)]; exact q), oB, if_pos rfl]
        · rw [if_neg q, if_neg (show ¬ (500 : Int32) < iN (s + cf (fun p => !decide (M 57 (10 * t + p) = Fp p)) P) by rw [show (500 : Int32) = iN 500 from rfl, iN_lt (by omega) (by omega)]; exact q), oB, if_neg (show ¬ (1 : Int32) = 0 by decide)]
      rw [mTk', ms, iN_add] at b1
      by_cases q : 500 < s + cf (fun p => !decide (M 57 (10 * t + p) = Fp p)) P
      · rw [if_pos q] at cTop2
        rw [if_pos (show (500 : Int32) < iN (s + cf (fun p => !decide (M 57 (10 * t + p) = Fp p)) P) by rw [show (500 : Int32) = iN 500 from rfl, iN_lt (by omega) (by omega)]; exact q), oB] at b1
        exact ⟨-1, σ1, Mc, N1, Mt, cTop2, hL1.1, b1, fun a k h1 h2 => frc a k (by omega) (by omega) (by omega), fun a k h => frt a k (by omega), P, T, C, R, F, iv0⟩
      · rw [if_neg q] at cTop2
        rw [if_neg (show ¬ (500 : Int32) < iN (s + cf (fun p => !decide (M 57 (10 * t + p) = Fp p)) P) by rw [show (500 : Int32) = iN 500 from rfl, iN_lt (by omega) (by omega)]; exact q)] at b1
        obtain ⟨A, B, u1, u2, u3, u4, u5⟩ := l_setW (σ := σ1) (N := N1) (x5 := iN c) (x6 := iN mv) (L := fun p => M 57 (10 * t + p)) (Fp := Fp) ht (fun p hp => by
          rcases z4 p with z | ⟨r', z, _, z'⟩
          · exact Or.inl z
          · exact Or.inr ⟨r', z, z'⟩) P 0 (g_FU - P) (g_FU - P) (by omega) Mc Mt s iv0 cs (by
          rw [show cf (fun p => !decide (M 57 (10 * t + p) = Fp p)) 0 = 0 from rfl]; omega) (fun p h1 h2 => mtM 57 _ (by omega) (by omega) (by omega)) mc13 x2
        have hFU : g_FU - P + P = g_FU := by unfold g_FU; omega
        rw [hFU] at u1 u2
        have uz := l_setZ (σ := σ1) (N := N1) (M := A) (P := P) hL1.2.2.1 ht (fun p h1 h2 => by rw [u4 _ _ (by omega) (by omega) (by omega), u4 _ _ (by omega) (by omega) (by omega), v130 p h2, mc13 p h2, (hz p h1 h2).1, (hz p h1 h2).2]) (10 - P) P (g_FU - P) (by omega) (Nat.le_refl _) (by unfold g_FU; omega)
        have A2 : A 12 2 = iN c := by rw [u4 _ _ (by omega) (by omega) (by omega)]; exact mc2
        have A1 : A 12 1 = iN mv := by rw [u4 _ _ (by omega) (by omega) (by omega)]; exact mc1
        rw [A1, A2] at uz
        have bP40 : B 40 1 = iN P := by rw [u5 _ _ (by omega) (by omega), mtM _ _ (by omega) (by omega) (by omega)]; exact hP.2.2.1
        have mend : l_X12_takes_273 (g_FU - P) (iN t) (iN c) (iN mv) (iN P) σ1 B = some (iN c, g_up B 40 37 (iN mv)) := by
          obtain ⟨n, hn⟩ : ∃ n, g_FU - P = n + 1 := ⟨g_FU - P - 1, by unfold g_FU; omega⟩
          rw [hn, l_X12_takes_273, bP40, if_neg (by rw [iN_lt (by omega) (by omega)]; omega)]
        have fin : Iv σ1 (mg (g_up A 1 14 (iN mv)) (g_up B 40 37 (iN mv))) P T C R F := by
          obtain ⟨gL, gP, gT, gD, gN, gB, gK, gC, gX⟩ := u3
          have k : ∀ a j, ¬ (a = 1 ∧ j = 14) → ¬ (a = 40 ∧ j = 37) → mg (g_up A 1 14 (iN mv)) (g_up B 40 37 (iN mv)) a j = mg A B a j := fun a j h1 h2 => by
            unfold mg
            split
            · exact g_up_ne _ _ h2
            · exact g_up_ne _ _ h1
          refine ⟨gL, gP.keep (fun a j h => k a j (by omega) (by omega)), gT.keep (fun a j h => k a j (by omega) (by omega)) (fun t ht => (gL.2.2.2.1.1 t ht).1), ?_, gN.keep (fun a j h => k a j (by omega) (by omega)), gB.keep (fun a j h => k a j (by omega) (by omega)), gK.keep (fun a j h => k a j (by omega) (by omega)), gC.keep (fun a j h => k a j (by omega) (by omega)), gX.keep gL.2.2.2.2.1 gT.1 (fun a j h => k a j (by omega) (by omega))⟩
          unfold vD at gD ⊢
          simp (disch := omega) only [k]
          refine ⟨gD.1, gD.2.1, gD.2.2.1, gD.2.2.2.1, ?_⟩
          rw [mg_c (by omega), mg_m (by omega), g_up_eq _ _ ⟨rfl, rfl⟩, g_up_eq _ _ ⟨rfl, rfl⟩]
        refine ⟨iN c, σ1, g_up A 1 14 (iN mv), N1, g_up B 40 37 (iN mv), ?_, hL1.1, ?_, fun a k h1 h2 => ?_, fun a k h => ?_, P, T, C, R, F, fin⟩
        · rw [cTop2]
          exact (show l_X11_settle_60 g_FU (110 + t) 0 σ1 Mc N1 = _ from u1).trans uz
        · rw [b1, show l_X12_takes_273 g_FU (iN t) (iN c) (iN mv) 0 σ1 Mt = _ from u2, mend, oB]
        · rw [g_up_ne _ _ (by omega), u4 a k (by omega) (by omega) (by omega)]
          exact frc a k (by omega) (by omega) (by omega)
        · rw [g_up_ne _ _ (by omega), u5 a k (by omega) (by omega)]
          exact frt a k (by omega)
theorem call_settle {σ : gS} {M : gM} (h : Inv σ M) (N : gN) (x y : Int32) : ∃ r σ1 M1 N1 M2, f_X11_settle x y σ M N = some (r, σ1, M1, N1) ∧ g_layL σ1 ∧ f_X12_settle x y σ1 M1 = some (r, M2) ∧ Inv σ1 M2 := by
  have h0 := h
  obtain ⟨P, T, C, R, F, hIv⟩ := h
  have hIv' := hIv
  obtain ⟨hL, hP, hT, hD, hN, hB, hK, hC, hX⟩ := hIv
  have hT6 := hT.1
  have same : ∃ r σ1 M1 N1 M2, (some (-1, σ, M, N) : Option (Int32 × gS × gM × gN)) = some (r, σ1, M1, N1) ∧ g_layL σ1 ∧ (some (-1, M) : Option (Int32 × gM)) = some (r, M2) ∧ Inv σ1 M2 := ⟨-1, σ, M, N, M, rfl, hL.1, rfl, h0⟩
  rcases idx_or x T (by omega) with ⟨t, ht, rfl⟩ | hx
  · obtain ⟨l1, l2⟩ := lasts_in (σ := σ) hL.2.2.1 hT ht
    cases hov : overB F C t with
    | true =>
      rw [hov] at l1 l2
      refine ⟨-1, σ, M, N, M, ?_, hL.1, ?_, h0⟩
      · unfold f_X11_settle b_X11_settle_0
        rw [l1, oB, if_pos rfl, if_pos rfl]
      · unfold f_X12_settle b_X12_settle_0
        rw [l2, oB, if_pos (by decide)]
    | false =>
      rcases in_cases y (a := 0) (b := 1) (by omega) (by omega) with ⟨how, rfl, _, hh, e⟩ | ⟨e, _⟩
      · exact lockS (fm := fun σ1 Mm => f_X12_settle (iN t) (iN how) σ1 Mm) (fun Mm hg => settle_both hIv' N ht hov hh Mm hg)
      · rw [hov] at l1 l2
        refine ⟨-1, σ, M, N, M, ?_, hL.1, ?_, h0⟩
        · unfold f_X11_settle b_X11_settle_0
          rw [l1, oB, if_neg (by rw [if_neg (by decide)]; omega), w_in, show f_X12_in y 0 1 = _ from e, oB, if_pos (show iN 0 = (0 : Int32) from rfl)]
        · unfold f_X12_settle b_X12_settle_0
          rw [l2, oB, if_neg (by decide), show f_X12_in y 0 1 = _ from e, oB, if_pos (show iN 0 = (0 : Int32) from rfl)]
  · obtain ⟨l1, l2⟩ := lasts_out (σ := σ) hT hx
    refine ⟨-1, σ, M, N, M, ?_, hL.1, ?_, h0⟩
    · unfold f_X11_settle b_X11_settle_0
      rw [l1, oB, if_pos rfl]
    · unfold f_X12_settle b_X12_settle_0
      rw [l2, oB, if_pos (show iN 0 = (0 : Int32) from rfl)]
