/-! feed. -/
/-- the j-th byte of a long, the highest first -/
def byt (y : Int64) (j : Nat) : Nat := y.toBitVec.toNat / 2 ^ (56 - 8 * j) % 256
theorem byt_lt (y : Int64) (j : Nat) : byt y j < 256 := Nat.mod_lt _ (by omega)
theorem sh63u : ∀ s, s < 64 → ((iN s).toInt64.toUInt64 &&& Int64.toUInt64 63).toBitVec = BitVec.ofNat 64 s := by decide
theorem sh63s : ∀ s, s < 64 → ((iN s).toInt64 &&& 63).toBitVec = BitVec.ofNat 64 s := by decide
theorem umod64 : ∀ s, s < 64 → (BitVec.ofNat 64 s % 64).toNat = s := by decide
theorem smod64 : ∀ s, s < 64 → ((BitVec.ofNat 64 s).smod 64).toNat = s := by decide
theorem byt_c (y : Int64) {s : Nat} (hs : s < 64) : ((((y.toUInt64 >>> ((iN s).toInt64.toUInt64 &&& Int64.toUInt64 63)).toInt64).toInt32) &&& 255) = iN (y.toBitVec.toNat / 2 ^ s % 256) := by
  apply Int32.toBitVec_inj.mp
  rw [Int32.toBitVec_and, iN_bv]
  apply BitVec.eq_of_toNat_eq
  rw [BitVec.toNat_and]
  have h1 : ((y.toUInt64 >>> ((iN s).toInt64.toUInt64 &&& Int64.toUInt64 63)).toInt64.toInt32.toBitVec).toNat = (y.toBitVec.toNat / 2 ^ s) % 2 ^ 32 := by
    show (((y.toUInt64 >>> ((iN s).toInt64.toUInt64 &&& Int64.toUInt64 63)).toBitVec).signExtend 32).toNat = _
    rw [BitVec.signExtend_eq_setWidth_of_le _ (by omega), BitVec.toNat_setWidth, UInt64.toBitVec_shiftRight, sh63u s hs, BitVec.ushiftRight_eq', BitVec.toNat_ushiftRight, Nat.shiftRight_eq_div_pow]
    rw [umod64 s hs]
    rfl
  rw [h1, show (Int32.toBitVec 255).toNat = 2 ^ 8 - 1 from rfl, Nat.and_two_pow_sub_one_eq_mod, BitVec.toNat_ofNat]
  omega
theorem byt_m (y : Int64) {s : Nat} (hs : s ≤ 56) : ((y >>> ((iN s).toInt64 &&& 63)).toInt32).toInt8 = Int8.ofNat (y.toBitVec.toNat / 2 ^ s % 256) := by
  apply Int8.toBitVec_inj.mp
  show (((y >>> ((iN s).toInt64 &&& 63)).toBitVec.signExtend 32).signExtend 8) = BitVec.ofNat 8 (y.toBitVec.toNat / 2 ^ s % 256)
  rw [BitVec.signExtend_eq_setWidth_of_le _ (by omega), BitVec.signExtend_eq_setWidth_of_le _ (by omega), Int64.toBitVec_shiftRight, sh63s s (by omega), BitVec.sshiftRight_eq']
  rw [smod64 s (by omega)]
  apply BitVec.eq_of_getLsbD_eq
  intro i hi
  rw [BitVec.getLsbD_setWidth, BitVec.getLsbD_setWidth, BitVec.getLsbD_sshiftRight, BitVec.getLsbD_ofNat]
  have h1 : (y.toBitVec.toNat / 2 ^ s % 256).testBit i = y.toBitVec.toNat.testBit (s + i) := by
    rw [show (256 : Nat) = 2 ^ 8 from rfl, Nat.testBit_mod_two_pow, decide_eq_true hi, Bool.true_and, ← Nat.shiftRight_eq_div_pow, Nat.testBit_shiftRight]
  rw [h1, decide_eq_true hi, decide_eq_true (show i < 32 by omega), decide_eq_false (show ¬ 64 ≤ i by omega), if_pos (show s + i < 64 by omega)]
  simp [BitVec.getLsbD]
set_option maxRecDepth 100000 in
theorem sb_8 : ∀ b, b < 256 → (Int8.ofNat b).toInt32 = sb b := by decide +kernel
set_option maxRecDepth 100000 in
theorem sb_nar : ∀ b, b < 256 → vp_nar .byte (sb b) = sb b := by decide +kernel
set_option maxRecDepth 100000 in
theorem sb_0 : ∀ b, b < 256 → (sb b = 0 ↔ b = 0) := by decide +kernel
/-- a byte comes to the tape, both sides -/
theorem iv_feed {σ : gS} {M M' : gM} {P T C n b : Nat} {R F : Nat → Nat} (h : Iv σ M P T C R F) (hn : M 7 6 = iN n) (hn4 : n < 400) (hb : 0 < b) (hb2 : b < 256) (c1 : M' 11 n = iN b) (c2 : M' 70 n = sb b) (c3 : M' 7 6 = iN (n + 1)) (c4 : M' 40 41 = iN (n + 1)) (fr : ∀ a j, ¬ (a = 11 ∧ j = n) → ¬ (a = 70 ∧ j = n) → ¬ (a = 7 ∧ j = 6) → ¬ (a = 40 ∧ j = 41) → M' a j = M a j) : Iv σ M' P T C R F := by
  obtain ⟨hL, hP, hT, hD, hN, hB, hK, hC, hX⟩ := h
  refine ⟨hL, hP.keep (fun a j h => fr a j (by omega) (by omega) (by omega) (by omega)), hT.keep (fun a j h => fr a j (by omega) (by omega) (by omega) (by omega)) (fun t ht => (hL.2.2.2.1.1 t ht).1), hD.keep (fun a j h => fr a j (by omega) (by omega) (by omega) (by omega)), hN.keep (fun a j h => fr a j (by omega) (by omega) (by omega) (by omega)), hB.keep (fun a j h => fr a j (by omega) (by omega) (by omega) (by omega)), ?_, hC.keep (fun a j h => fr a j (by omega) (by omega) (by omega) (by omega)), hX.keep hL.2.2.2.2.1 hT.1 (fun a j h => fr a j (by omega) (by omega) (by omega) (by omega))⟩
  obtain ⟨n', k1, k2, k3, k4⟩ := hK
  have : n' = n := by rw [k2, iN_inj (by omega) (by omega)] at hn; exact hn
  subst this
  refine ⟨n' + 1, by omega, c3, c4, fun k hk => ?_⟩
  by_cases e : k = n'
  · subst e; exact ⟨b, hb, hb2, c1, c2⟩
  · rw [fr _ _ (by omega) (by omega) (by omega) (by omega), fr _ _ (by omega) (by omega) (by omega) (by omega)]
    exact k4 k (by omega)
theorem iN_m8 {s : Nat} (h : 8 ≤ s) : iN s + (-8) = iN (s - 8) := by
  rw [show (-8 : Int32) = -(iN 8) from rfl, ← Int32.sub_eq_add_neg, iN_sub h]
theorem l_feed {σ : gS} {P T C k0 : Nat} {R F : Nat → Nat} {y y1 y3 y5 : Int64} (hw : (k0 = 0 ∧ y = y1) ∨ (k0 = 8 ∧ y = y3) ∨ (k0 = 16 ∧ y = y5)) : ∀ k j n, j + k = 8 → k < n → ∀ Mc Mm : gM, Iv σ (mg Mc Mm) P T C R F →
    ∃ Mc' Mm', l_X7_take_3 n y (if j < 8 then iN (56 - 8 * j) else -8) σ Mc = some Mc' ∧ (∀ m, l_X12_feed_3 (m + k) y1 y3 y5 (iN (k0 + j)) σ Mm = l_X12_feed_3 m y1 y3 y5 (iN (k0 + 8)) σ Mm') ∧ mEq Mc Mc' ∧ cEq Mm Mm' ∧ Iv σ (mg Mc' Mm') P T C R F := by
  intro k
  induction k with
  | zero =>
    intro j n hj hn Mc Mm h
    obtain ⟨n, rfl⟩ : ∃ m, n = m + 1 := ⟨n - 1, by omega⟩
    obtain rfl : j = 8 := by omega
    refine ⟨Mc, Mm, ?_, fun m => rfl, fun _ _ _ _ => rfl, fun _ _ _ => rfl, h⟩
    rw [if_neg (by omega), l_X7_take_3, if_pos (by decide)]
  | succ k ih =>
    intro j n hj hn Mc Mm h
    obtain ⟨n, rfl⟩ : ∃ m, n = m + 1 := ⟨n - 1, by omega⟩
    have hb := byt_lt y j
    have hbc : ((((y.toUInt64 >>> ((iN (56 - 8 * j)).toInt64.toUInt64 &&& Int64.toUInt64 63)).toInt64).toInt32) &&& 255) = iN (byt y j) := byt_c y (by omega)
    have hbm : (((y >>> ((iN (56 - 8 * j)).toInt64 &&& 63)).toInt32).toInt8.toInt32) = sb (byt y j) := by
      rw [byt_m y (by omega), show y.toBitVec.toNat / 2 ^ (56 - 8 * j) % 256 = byt y j from rfl, sb_8 _ hb]
    have hidx : (56 : Int32) - ((8 : Int32) * (iN (k0 + j) - iN (k0 + j) / (8 : Int32) * (8 : Int32))) = iN (56 - 8 * j) := by
      have hk : k0 ≤ 16 := by omega
      rw [show (56 : Int32) = iN 56 from rfl, show (8 : Int32) = iN 8 from rfl, iN_div (by omega) (by omega), iN_mul, iN_sub (by omega), iN_mul, iN_sub (by omega)]
      congr 1
      omega
    have hnext : (iN (56 - 8 * j) : Int32) + (-8) = if j + 1 < 8 then iN (56 - 8 * (j + 1)) else -8 := by
      by_cases h8 : j + 1 < 8
      · rw [if_pos h8, iN_m8 (by omega)]; congr 1
      · rw [if_neg h8, show 56 - 8 * j = 0 by omega]; rfl
    obtain ⟨hL, hP, hT, hD, hN, hB, ⟨len, q1, q2, q3, q4⟩, hC, hX⟩ := h
    have hIv : Iv σ (mg Mc Mm) P T C R F := ⟨hL, hP, hT, hD, hN, hB, ⟨len, q1, q2, q3, q4⟩, hC, hX⟩
    rw [mg_c (by omega)] at q2
    rw [mg_m (by omega)] at q3
    have mstep : ∀ m, l_X12_feed_3 (m + (k + 1)) y1 y3 y5 (iN (k0 + j)) σ Mm = if sb (byt y j) = 0 then l_X12_feed_3 (m + k) y1 y3 y5 (iN (k0 + (j + 1))) σ Mm else if len = 400 then l_X12_feed_3 (m + k) y1 y3 y5 (iN (k0 + (j + 1))) σ Mm else l_X12_feed_3 (m + k) y1 y3 y5 (iN (k0 + (j + 1))) σ (g_up (g_up Mm 70 len (sb (byt y j))) 40 41 (iN (len + 1))) := by
      intro m
      have e34 : b_X12_feed_34 (fun y1 y3 y5 x7 σ M => l_X12_feed_3 (m + k) y1 y3 y5 x7 σ M) y1 y3 y5 (iN (k0 + j)) y σ Mm = if sb (byt y j) = 0 then l_X12_feed_3 (m + k) y1 y3 y5 (iN (k0 + (j + 1))) σ Mm else if len = 400 then l_X12_feed_3 (m + k) y1 y3 y5 (iN (k0 + (j + 1))) σ Mm else l_X12_feed_3 (m + k) y1 y3 y5 (iN (k0 + (j + 1))) σ (g_up (g_up Mm 70 len (sb (byt y j))) 40 41 (iN (len + 1))) := by
        unfold b_X12_feed_34 b_X12_feed_93
        rw [if_neg (by decide), hidx, hbm, q3, show iN (k0 + j) + 1 = iN (k0 + (j + 1)) from by rw [show (1 : Int32) = iN 1 from rfl, iN_add, Nat.add_assoc]]
        by_cases z : sb (byt y j) = 0
        · rw [if_pos z, if_pos z]
        · rw [if_neg z, if_neg z]
          by_cases f : len = 400
          · rw [if_pos f, if_pos (by rw [f]; rfl)]
          · rw [if_neg f, if_neg (by rw [show (400 : Int32) = iN 400 from rfl, iN_inj (by omega) (by omega)]; exact f), if_pos (by rw [iN_in (by omega)]; omega), iN_cl (by omega), sb_nar _ hb, g_up_ne _ _ (by omega), q3, show (1 : Int32) = iN 1 from rfl, iN_add]
      rw [show m + (k + 1) = (m + k) + 1 from rfl, l_X12_feed_3, if_pos (by rw [show (24 : Int32) = iN 24 from rfl, iN_lt (by omega) (by omega)]; omega)]
      rcases hw with ⟨w1, w2⟩ | ⟨w1, w2⟩ | ⟨w1, w2⟩
      · rw [if_pos (by rw [show (8 : Int32) = iN 8 from rfl, iN_lt (by omega) (by omega)]; omega), ← w2]; exact (by rw [w2]; rw [w2] at e34; exact e34)
      · rw [if_neg (by rw [show (8 : Int32) = iN 8 from rfl, iN_lt (by omega) (by omega)]; omega), if_pos (by rw [show (16 : Int32) = iN 16 from rfl, iN_lt (by omega) (by omega)]; omega)]; rw [w2] at e34 ⊢; exact e34
      · rw [if_neg (by rw [show (8 : Int32) = iN 8 from rfl, iN_lt (by omega) (by omega)]; omega), if_neg (by rw [show (16 : Int32) = iN 16 from rfl, iN_lt (by omega) (by omega)]; omega)]; rw [w2] at e34 ⊢; exact e34
    have cstep : l_X7_take_3 (n + 1) y (if j < 8 then iN (56 - 8 * j) else -8) σ Mc = if byt y j = 0 then l_X7_take_3 n y (if j + 1 < 8 then iN (56 - 8 * (j + 1)) else -8) σ Mc else if len = 400 then l_X7_take_3 n y (if j + 1 < 8 then iN (56 - 8 * (j + 1)) else -8) σ Mc else l_X7_take_3 n y (if j + 1 < 8 then iN (56 - 8 * (j + 1)) else -8) σ (g_up (g_up Mc 11 len (iN (byt y j))) 7 6 (iN (len + 1))) := by
      rw [if_pos (show j < 8 by omega), l_X7_take_3, if_neg (iN_nneg (by omega))]
      unfold b_X7_take_53
      rw [hbc, hnext, q2]
      by_cases z : byt y j = 0
      · rw [if_pos z, if_pos (by rw [z]; rfl)]
      · rw [if_neg z, if_neg (by rw [show (0 : Int32) = iN 0 from rfl, iN_inj (by omega) (by omega)]; exact z)]
        by_cases f : len = 400
        · rw [if_pos f, if_neg (by rw [f]; decide)]
        · rw [if_neg f, if_pos (by rw [show (400 : Int32) = iN 400 from rfl, iN_lt (by omega) (by omega)]; omega), if_pos (by rw [iN_in (by omega)]; omega), iN_cl (by omega), g_up_ne _ _ (by omega), q2, show (1 : Int32) = iN 1 from rfl, iN_add]
    by_cases z : byt y j = 0
    · obtain ⟨Mc', Mm', r1, r2, r3, r4, r5⟩ := ih (j + 1) n (by omega) (by omega) Mc Mm hIv
      refine ⟨Mc', Mm', ?_, fun m => ?_, r3, r4, r5⟩
      · rw [cstep, if_pos z]; exact r1
      · rw [mstep m, if_pos ((sb_0 _ hb).mpr z)]; exact r2 m
    · by_cases f : len = 400
      · obtain ⟨Mc', Mm', r1, r2, r3, r4, r5⟩ := ih (j + 1) n (by omega) (by omega) Mc Mm hIv
        refine ⟨Mc', Mm', ?_, fun m => ?_, r3, r4, r5⟩
        · rw [cstep, if_neg z, if_pos f]; exact r1
        · rw [mstep m, if_neg (fun e => z ((sb_0 _ hb).mp e)), if_pos f]; exact r2 m
      · obtain ⟨Mc', Mm', r1, r2, r3, r4, r5⟩ := ih (j + 1) n (by omega) (by omega) (g_up (g_up Mc 11 len (iN (byt y j))) 7 6 (iN (len + 1))) (g_up (g_up Mm 70 len (sb (byt y j))) 40 41 (iN (len + 1))) (by
          refine iv_feed (n := len) (b := byt y j) hIv (by rw [mg_c (by omega)]; exact q2) (by omega) (by omega) hb ?_ ?_ ?_ ?_ (fun a j h1 h2 h3 h4 => ?_)
          · rw [mg_c (by omega)]; simp (disch := omega) only [li_0, li_1, li_2, li_3, li_4, li_5, li_6, li_7, li_8, li_9, li_10, li_11, li_12, li_13, li_14, li_15, li_16, li_18, li_19, li_20, li_24, li_28, li_29, li_30, li_31, li_32, li_36, li_40, li_41, li_42, li_43, li_45, li_48, li_49, li_50, li_56, li_57, li_59, li_60, li_61, li_62, li_63, li_64, li_97, li_99, li_100, li_120, li_121, li_122, li_255, li_270, li_300, li_400, li_500, li_540, li_1000, li_1024, li_1440, li_9999, li_11264, li_32768, li_268435456, li_1073741824, li_m, li_o, iN_add, iN_mul, iN_lt, iN_in, iN_cl, iN_inj, iM_ne, iM_ne', iN_or, iN_xor, iN_bd, sh31n, iN_shl2, iN_shr2, iN_bit2, Nat.one_mul, oB, iff_t, iff_f, if_true, if_false, g_up_ne, g_up_eq, g_z_ne, g_z_eq]
          · rw [mg_m (by omega)]; simp (disch := omega) only [li_0, li_1, li_2, li_3, li_4, li_5, li_6, li_7, li_8, li_9, li_10, li_11, li_12, li_13, li_14, li_15, li_16, li_18, li_19, li_20, li_24, li_28, li_29, li_30, li_31, li_32, li_36, li_40, li_41, li_42, li_43, li_45, li_48, li_49, li_50, li_56, li_57, li_59, li_60, li_61, li_62, li_63, li_64, li_97, li_99, li_100, li_120, li_121, li_122, li_255, li_270, li_300, li_400, li_500, li_540, li_1000, li_1024, li_1440, li_9999, li_11264, li_32768, li_268435456, li_1073741824, li_m, li_o, iN_add, iN_mul, iN_lt, iN_in, iN_cl, iN_inj, iM_ne, iM_ne', iN_or, iN_xor, iN_bd, sh31n, iN_shl2, iN_shr2, iN_bit2, Nat.one_mul, oB, iff_t, iff_f, if_true, if_false, g_up_ne, g_up_eq, g_z_ne, g_z_eq]
          · rw [mg_c (by omega)]; simp (disch := omega) only [li_0, li_1, li_2, li_3, li_4, li_5, li_6, li_7, li_8, li_9, li_10, li_11, li_12, li_13, li_14, li_15, li_16, li_18, li_19, li_20, li_24, li_28, li_29, li_30, li_31, li_32, li_36, li_40, li_41, li_42, li_43, li_45, li_48, li_49, li_50, li_56, li_57, li_59, li_60, li_61, li_62, li_63, li_64, li_97, li_99, li_100, li_120, li_121, li_122, li_255, li_270, li_300, li_400, li_500, li_540, li_1000, li_1024, li_1440, li_9999, li_11264, li_32768, li_268435456, li_1073741824, li_m, li_o, iN_add, iN_mul, iN_lt, iN_in, iN_cl, iN_inj, iM_ne, iM_ne', iN_or, iN_xor, iN_bd, sh31n, iN_shl2, iN_shr2, iN_bit2, Nat.one_mul, oB, iff_t, iff_f, if_true, if_false, g_up_ne, g_up_eq, g_z_ne, g_z_eq]
          · rw [mg_m (by omega)]; simp (disch := omega) only [li_0, li_1, li_2, li_3, li_4, li_5, li_6, li_7, li_8, li_9, li_10, li_11, li_12, li_13, li_14, li_15, li_16, li_18, li_19, li_20, li_24, li_28, li_29, li_30, li_31, li_32, li_36, li_40, li_41, li_42, li_43, li_45, li_48, li_49, li_50, li_56, li_57, li_59, li_60, li_61, li_62, li_63, li_64, li_97, li_99, li_100, li_120, li_121, li_122, li_255, li_270, li_300, li_400, li_500, li_540, li_1000, li_1024, li_1440, li_9999, li_11264, li_32768, li_268435456, li_1073741824, li_m, li_o, iN_add, iN_mul, iN_lt, iN_in, iN_cl, iN_inj, iM_ne, iM_ne', iN_or, iN_xor, iN_bd, sh31n, iN_shl2, iN_shr2, iN_bit2, Nat.one_mul, oB, iff_t, iff_f, if_true, if_false, g_up_ne, g_up_eq, g_z_ne, g_z_eq]
          · unfold mg
            split
            · simp (disch := omega) only [li_0, li_1, li_2, li_3, li_4, li_5, li_6, li_7, li_8, li_9, li_10, li_11, li_12, li_13, li_14, li_15, li_16, li_18, li_19, li_20, li_24, li_28, li_29, li_30, li_31, li_32, li_36, li_40, li_41, li_42, li_43, li_45, li_48, li_49, li_50, li_56, li_57, li_59, li_60, li_61, li_62, li_63, li_64, li_97, li_99, li_100, li_120, li_121, li_122, li_255, li_270, li_300, li_400, li_500, li_540, li_1000, li_1024, li_1440, li_9999, li_11264, li_32768, li_268435456, li_1073741824, li_m, li_o, iN_add, iN_mul, iN_lt, iN_in, iN_cl, iN_inj, iM_ne, iM_ne', iN_or, iN_xor, iN_bd, sh31n, iN_shl2, iN_shr2, iN_bit2, Nat.one_mul, oB, iff_t, iff_f, if_true, if_false, g_up_ne, g_up_eq, g_z_ne, g_z_eq]
            · simp (disch := omega) only [li_0, li_1, li_2, li_3, li_4, li_5, li_6, li_7, li_8, li_9, li_10, li_11, li_12, li_13, li_14, li_15, li_16, li_18, li_19, li_20, li_24, li_28, li_29, li_30, li_31, li_32, li_36, li_40, li_41, li_42, li_43, li_45, li_48, li_49, li_50, li_56, li_57, li_59, li_60, li_61, li_62, li_63, li_64, li_97, li_99, li_100, li_120, li_121, li_122, li_255, li_270, li_300, li_400, li_500, li_540, li_1000, li_1024, li_1440, li_9999, li_11264, li_32768, li_268435456, li_1073741824, li_m, li_o, iN_add, iN_mul, iN_lt, iN_in, iN_cl, iN_inj, iM_ne, iM_ne', iN_or, iN_xor, iN_bd, sh31n, iN_shl2, iN_shr2, iN_bit2, Nat.one_mul, oB, iff_t, iff_f, if_true, if_false, g_up_ne, g_up_eq, g_z_ne, g_z_eq])
        refine ⟨Mc', Mm', ?_, fun m => ?_, fun a k h1 h2 => ?_, fun a k h => ?_, r5⟩
        · rw [cstep, if_neg z, if_neg f]; exact r1
        · rw [mstep m, if_neg (fun e => z ((sb_0 _ hb).mp e)), if_neg f]; exact r2 m
        · rw [r3 a k h1 h2]; simp (disch := omega) only [li_0, li_1, li_2, li_3, li_4, li_5, li_6, li_7, li_8, li_9, li_10, li_11, li_12, li_13, li_14, li_15, li_16, li_18, li_19, li_20, li_24, li_28, li_29, li_30, li_31, li_32, li_36, li_40, li_41, li_42, li_43, li_45, li_48, li_49, li_50, li_56, li_57, li_59, li_60, li_61, li_62, li_63, li_64, li_97, li_99, li_100, li_120, li_121, li_122, li_255, li_270, li_300, li_400, li_500, li_540, li_1000, li_1024, li_1440, li_9999, li_11264, li_32768, li_268435456, li_1073741824, li_m, li_o, iN_add, iN_mul, iN_lt, iN_in, iN_cl, iN_inj, iM_ne, iM_ne', iN_or, iN_xor, iN_bd, sh31n, iN_shl2, iN_shr2, iN_bit2, Nat.one_mul, oB, iff_t, iff_f, if_true, if_false, g_up_ne, g_up_eq, g_z_ne, g_z_eq]
        · rw [r4 a k h]; simp (disch := omega) only [li_0, li_1, li_2, li_3, li_4, li_5, li_6, li_7, li_8, li_9, li_10, li_11, li_12, li_13, li_14, li_15, li_16, li_18, li_19, li_20, li_24, li_28, li_29, li_30, li_31, li_32, li_36, li_40, li_41, li_42, li_43, li_45, li_48, li_49, li_50, li_56, li_57, li_59, li_60, li_61, li_62, li_63, li_64, li_97, li_99, li_100, li_120, li_121, li_122, li_255, li_270, li_300, li_400, li_500, li_540, li_1000, li_1024, li_1440, li_9999, li_11264, li_32768, li_268435456, li_1073741824, li_m, li_o, iN_add, iN_mul, iN_lt, iN_in, iN_cl, iN_inj, iM_ne, iM_ne', iN_or, iN_xor, iN_bd, sh31n, iN_shl2, iN_shr2, iN_bit2, Nat.one_mul, oB, iff_t, iff_f, if_true, if_false, g_up_ne, g_up_eq, g_z_ne, g_z_eq]
theorem call_feed {σ : gS} {M : gM} (h : Inv σ M) (y1 y3 y5 : Int64) : ∃ r M1 M2, f_X11_feed y1 y3 y5 σ M = some (r, M1) ∧ f_X12_feed y1 y3 y5 σ M1 = some (r, M2) ∧ Inv σ M2 := by
  obtain ⟨P, T, C, R, F, hIv⟩ := h
  refine lock (σ := σ) (Q := fun M => Inv σ M) (fun Mm hg => ?_)
  obtain ⟨A1, B1, a1, a2, a3, a4, a5⟩ := l_feed (σ := σ) (P := P) (T := T) (C := C) (R := R) (F := F) (y1 := y1) (y3 := y3) (y5 := y5) (Or.inl ⟨rfl, rfl⟩) 8 0 g_FU (by omega) (by unfold g_FU; omega) M Mm (by rw [hg]; exact hIv)
  obtain ⟨A2, B2, b1, b2, b3, b4, b5⟩ := l_feed (σ := σ) (P := P) (T := T) (C := C) (R := R) (F := F) (y1 := y1) (y3 := y3) (y5 := y5) (Or.inr (Or.inl ⟨rfl, rfl⟩)) 8 0 g_FU (by omega) (by unfold g_FU; omega) A1 B1 a5
  obtain ⟨A3, B3, c1, c2, c3, c4, c5⟩ := l_feed (σ := σ) (P := P) (T := T) (C := C) (R := R) (F := F) (y1 := y1) (y3 := y3) (y5 := y5) (Or.inr (Or.inr ⟨rfl, rfl⟩)) 8 0 g_FU (by omega) (by unfold g_FU; omega) A2 B2 b5
  have hlen : A3 7 6 = B3 40 41 := by
    obtain ⟨_, _, _, _, _, _, ⟨len, q1, q2, q3, q4⟩, _⟩ := c5
    rw [mg_c (by omega)] at q2
    rw [mg_m (by omega)] at q3
    rw [q2, q3]
  refine ⟨A3 7 6, A3, B3, ?_, ?_, fun a k h1 h2 => ?_, fun a k h => ?_, P, T, C, R, F, c5⟩
  · unfold f_X11_feed b_X11_feed_0
    have e1 : f_X7_take y1 σ M = some A1 := a1
    have e2 : f_X7_take y3 σ A1 = some A2 := b1
    have e3 : f_X7_take y5 σ A2 = some A3 := c1
    rw [e1, oB, e2, oB, e3]
    rfl
  · unfold f_X12_feed b_X12_feed_0
    have z1 := a2 99992
    have z2 := b2 99984
    have z3 := c2 99976
    refine (show l_X12_feed_3 g_FU y1 y3 y5 0 σ Mm = _ from z1).trans (z2.trans (z3.trans ?_))
    rw [show (99976 : Nat) = 99975 + 1 from rfl, l_X12_feed_3, if_neg (by decide), hlen]
  · rw [c3 a k h1 h2, b3 a k h1 h2, a3 a k h1 h2]
  · rw [c4 a k h, b4 a k h, a4 a k h]
