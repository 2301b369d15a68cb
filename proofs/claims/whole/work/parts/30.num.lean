/-! Numbers: int32 that are small naturals. -/
def iN (n : Nat) : Int32 := Int32.ofNat n
def iM : Int32 := -1
theorem iN_add (a b : Nat) : iN a + iN b = iN (a + b) := (Int32.ofNat_add a b).symm
theorem iN_mul (a b : Nat) : iN a * iN b = iN (a * b) := (Int32.ofNat_mul a b).symm
theorem iN_sub {a b : Nat} (h : b ≤ a) : iN a - iN b = iN (a - b) := (Int32.ofNat_sub a b h).symm
theorem iN_lt {a b : Nat} (ha : a < 2147483648) (hb : b < 2147483648) : (iN a < iN b) = (a < b) := propext (Int32.ofNat_lt_iff_lt ha hb)
theorem iN_toInt {a : Nat} (h : a < 2147483648) : (iN a).toInt = a := Int32.toInt_ofNat_of_lt h
theorem iN_inj {a b : Nat} (ha : a < 2147483648) (hb : b < 2147483648) : (iN a = iN b) = (a = b) := propext ⟨fun h => by
  have := congrArg Int32.toInt h
  rw [iN_toInt ha, iN_toInt hb] at this
  omega, fun h => by rw [h]⟩
theorem iN_cl {a : Nat} (h : a < 2147483648) : (iN a).toNatClampNeg = a := Int32.toNatClampNeg_ofNat_of_lt h
theorem iN_nneg {a : Nat} (h : a < 2147483648) : ¬ iN a < 0 := by
  intro h2
  have h2 := Int32.lt_iff_toInt_lt.mp h2
  rw [iN_toInt h] at h2
  have : (0 : Int32).toInt = 0 := rfl
  omega
theorem iN_in {a n : Nat} (h : a < 2147483648) : (g_in (iN a) n = true) = (a < n) := by
  unfold g_in
  rw [iN_cl h, decide_eq_true_iff]
  have := iN_nneg h
  apply propext
  constructor
  · intro h2; apply Nat.lt_of_not_le; intro h3; exact h2 (Or.inr h3)
  · rintro h2 (h3 | h3)
    · exact this h3
    · omega
theorem iN_of {x : Int32} (h : ¬ x < 0) : x = iN x.toNatClampNeg ∧ x.toNatClampNeg < 2147483648 := by
  refine ⟨?_, Int32.toNatClampNeg_lt x⟩
  exact (Int32.ofNat_toNatClampNeg x (Int32.not_lt.mp h)).symm
theorem iM_lt0 : iM < 0 := by decide
theorem iM_ne {a : Nat} (h : a < 2147483648) : (iN a = iM) = False := by
  apply propext
  constructor
  · intro h2
    exact iN_nneg h (by rw [h2]; exact iM_lt0)
  · exact False.elim
theorem iM_ne' {a : Nat} (h : a < 2147483648) : (iM = iN a) = False := by
  rw [show (iM = iN a) = (iN a = iM) from propext ⟨Eq.symm, Eq.symm⟩, iM_ne h]
theorem iN_bv (a : Nat) : (iN a).toBitVec = BitVec.ofNat 32 a := rfl
theorem iN_or (a b : Nat) : iN a ||| iN b = iN (a ||| b) := by
  apply Int32.toBitVec_inj.mp
  rw [Int32.toBitVec_or, iN_bv, iN_bv, iN_bv]
  apply BitVec.eq_of_toNat_eq
  simp [BitVec.toNat_or, BitVec.toNat_ofNat, Nat.or_mod_two_pow]
theorem iN_and (a b : Nat) : iN a &&& iN b = iN (a &&& b) := by
  apply Int32.toBitVec_inj.mp
  rw [Int32.toBitVec_and, iN_bv, iN_bv, iN_bv]
  apply BitVec.eq_of_toNat_eq
  simp [BitVec.toNat_and, BitVec.toNat_ofNat, Nat.and_mod_two_pow]
theorem iN_xor (a b : Nat) : iN a ^^^ iN b = iN (a ^^^ b) := by
  apply Int32.toBitVec_inj.mp
  rw [Int32.toBitVec_xor, iN_bv, iN_bv, iN_bv]
  apply BitVec.eq_of_toNat_eq
  simp [BitVec.toNat_xor, BitVec.toNat_ofNat, Nat.xor_mod_two_pow]
/-- a without b -/
def bd (a b : Nat) : Nat := a ^^^ (a &&& b)
theorem bd_bit (a b i : Nat) : (bd a b).testBit i = (a.testBit i && !b.testBit i) := by
  unfold bd
  rw [Nat.testBit_xor, Nat.testBit_and]
  cases a.testBit i <;> cases b.testBit i <;> rfl
theorem iN_bd {a b : Nat} : iN a &&& (iN b ^^^ iM) = iN (bd a b) := by
  apply Int32.toBitVec_inj.mp
  rw [Int32.toBitVec_and, Int32.toBitVec_xor, iN_bv, iN_bv, iN_bv]
  have h1 : iM.toBitVec = BitVec.allOnes 32 := by decide
  rw [h1]
  apply BitVec.eq_of_getLsbD_eq
  intro i hi
  rw [BitVec.getLsbD_and, BitVec.getLsbD_xor, BitVec.getLsbD_allOnes, BitVec.getLsbD_ofNat, BitVec.getLsbD_ofNat, BitVec.getLsbD_ofNat, bd_bit]
  simp only [hi, decide_true, Bool.true_and]
  cases a.testBit i <;> cases b.testBit i <;> rfl
theorem sh31 : ∀ p, p < 32 → (iN p &&& 31) = iN p := by
  intro p hp
  rw [show (31 : Int32) = iN 31 from rfl, iN_and, show p &&& 31 = p from by
    rw [show (31 : Nat) = 2 ^ 5 - 1 from rfl, Nat.and_two_pow_sub_one_eq_mod]; exact Nat.mod_eq_of_lt hp]
theorem iN_shl {a p : Nat} (hp : p < 32) : iN a <<< (iN p &&& 31) = iN (a * 2 ^ p) := by
  rw [sh31 p hp]
  apply Int32.toBitVec_inj.mp
  rw [Int32.toBitVec_shiftLeft, iN_bv, iN_bv, iN_bv]
  have h1 : ((BitVec.ofNat 32 p).smod 32).toNat = p := by
    have : ∀ p, p < 32 → ((BitVec.ofNat 32 p).smod 32).toNat = p := by decide
    exact this p hp
  rw [BitVec.shiftLeft_eq', h1]
  apply BitVec.eq_of_toNat_eq
  rw [BitVec.toNat_shiftLeft, BitVec.toNat_ofNat, BitVec.toNat_ofNat, Nat.shiftLeft_eq, Nat.mod_mul_mod]
theorem iN_shr {a p : Nat} (ha : a < 2147483648) (hp : p < 32) : iN a >>> (iN p &&& 31) = iN (a / 2 ^ p) := by
  rw [sh31 p hp]
  apply Int32.toBitVec_inj.mp
  rw [Int32.toBitVec_shiftRight, iN_bv, iN_bv, iN_bv]
  have h1 : ((BitVec.ofNat 32 p).smod 32).toNat = p := by
    have : ∀ p, p < 32 → ((BitVec.ofNat 32 p).smod 32).toNat = p := by decide
    exact this p hp
  rw [BitVec.sshiftRight_eq', h1]
  have hm : (BitVec.ofNat 32 a).msb = false := by
    rw [BitVec.msb_eq_decide, BitVec.toNat_ofNat, Nat.mod_eq_of_lt (by omega)]
    simp; omega
  rw [BitVec.sshiftRight_eq_of_msb_false hm]
  apply BitVec.eq_of_toNat_eq
  have h2 : a / 2 ^ p ≤ a := Nat.div_le_self _ _
  rw [BitVec.toNat_ushiftRight, BitVec.toNat_ofNat, BitVec.toNat_ofNat, Nat.shiftRight_eq_div_pow, Nat.mod_eq_of_lt (by omega), Nat.mod_eq_of_lt (by omega)]
theorem iN_div {a b : Nat} (ha : a < 2147483648) (hb : b < 2147483648) : iN a / iN b = iN (a / b) := (Int32.ofNat_div ha hb).symm
/-- a bit, asked for by a shift -/
theorem iN_bit {a p : Nat} (ha : a < 2147483648) (hp : p < 32) : ((iN a >>> (iN p &&& 31)) &&& (1 : Int32)) = if a.testBit p then 1 else 0 := by
  rw [iN_shr ha hp, show (1 : Int32) = iN 1 from rfl, iN_and, Nat.and_one_is_mod, Nat.testBit_eq_decide_div_mod_eq]
  rcases Nat.mod_two_eq_zero_or_one (a / 2 ^ p) with h | h <;> simp [h] <;> rfl
theorem iN_bit0 {a p : Nat} (ha : a < 2147483648) (hp : p < 32) : (((iN a >>> (iN p &&& 31)) &&& (1 : Int32)) = 0) = (a.testBit p = false) := by
  rw [iN_bit ha hp]
  cases a.testBit p <;> simp
theorem iN_bit1 {a p : Nat} (ha : a < 2147483648) (hp : p < 32) : (((iN a >>> (iN p &&& 31)) &&& (1 : Int32)) = 1) = (a.testBit p = true) := by
  rw [iN_bit ha hp]
  cases a.testBit p <;> simp
/-- how many bits, of ten -/
def pc10 (s : Nat) : Nat := (List.range 10).foldl (fun n i => if s.testBit i then n + 1 else n) 0
set_option maxRecDepth 100000 in
theorem bc10 : ∀ s, s < 1024 → f_J_bitCount (iN s) = some (iN (pc10 s)) := by decide +kernel
