/-! read: a rule, both sides. -/
theorem kind_here {σ : gS} {b : Nat → Nat} {n s d : Nat} {A : gM} {N : gN} (h : atM b n A N s d) : f_X12_kindHere σ A N = some (if tokF b n s ≤ 3 then iN (tokF b n s) else -1) := by
  obtain ⟨w0, w1, w2, w3, _⟩ := wd_m (σ := σ) h
  unfold f_X12_kindHere b_X12_kindHere_0
  rw [w0, oB, ifB]
  by_cases t : tokF b n s = 0
  · rw [if_pos t, if_pos (by omega), t]; rfl
  rw [if_neg t, w1, oB, ifB]
  by_cases t1 : tokF b n s = 1
  · rw [if_pos t1, if_pos (by omega), t1]; rfl
  rw [if_neg t1, w2, oB, ifB]
  by_cases t2 : tokF b n s = 2
  · rw [if_pos t2, if_pos (by omega), t2]; rfl
  rw [if_neg t2, w3, oB, ifB]
  by_cases t3 : tokF b n s = 3
  · rw [if_pos t3, if_pos (by omega), t3]; rfl
  rw [if_neg t3, if_neg (by omega)]
theorem clampI_c (v : Int32) : clampI v = (if v < 0 then 0 else if 100 < v then 100 else v) := rfl
theorem g116 {σ : gS} {b : Nat → Nat} {n s : Nat} {A : gM} {N : gN} (x k v w : Int32) (hs : s ≤ n) (t : tokF b n s = 59) (h : atM b n A N s 0) : ∃ A' N', (∀ K, b_X12_goes_116 K x k v w σ A N = K x σ A' N') ∧ atM b n A' N' (bhdF b n s) 0 ∧ A' 40 58 = A 40 58 + 1 ∧ A' 40 59 = (if k = x ∧ w ≠ 0 ∧ A 40 59 = -1 then clampI v else A 40 59) ∧ ∀ a j, ¬ (a = 40 ∧ 47 ≤ j ∧ j ≤ 49) → ¬ (a = 40 ∧ 58 ≤ j ∧ j ≤ 59) → A' a j = A a j := by
  obtain ⟨A1, N1, q1, q2, q3⟩ := nextM (σ := σ) hs h
  let B : gM := g_up A1 40 58 (A1 40 58 + 1)
  have eB : B = g_up A1 40 58 (A1 40 58 + 1) := rfl
  have fB : ∀ a j, ¬ (a = 40 ∧ j = 58) → B a j = A1 a j := fun a j h => g_up_ne _ _ h
  have b9 : B 40 59 = A 40 59 := by rw [fB _ _ (by omega), q3 _ _ (by omega)]
  have b8 : B 40 58 = A 40 58 + 1 := by rw [eB, g_up_eq _ _ ⟨rfl, rfl⟩, q3 _ _ (by omega)]
  have aB : atM b n B N1 (bhdF b n s) 0 := ⟨q2.1.keep (fun a j h => fB a j (by omega)), by rw [fB _ _ (by omega)]; exact q2.2.1, by rw [fB _ _ (by omega)]; exact q2.2.2.1, by rw [fB _ _ (by omega)]; exact q2.2.2.2.1, by rw [fB _ _ (by omega)]; exact q2.2.2.2.2.1, by rw [fB _ _ (by omega)]; exact q2.2.2.2.2.2⟩
  have frB : ∀ a j, ¬ (a = 40 ∧ 47 ≤ j ∧ j ≤ 49) → ¬ (a = 40 ∧ 58 ≤ j ∧ j ≤ 59) → B a j = A a j := fun a j h1 h2 => by rw [fB _ _ (by omega), q3 _ _ h1]
  have start : ∀ K, b_X12_goes_116 K x k v w σ A N = if k = x then if w = (0 : Int32) then b_X12_goes_195 K x σ B N1 else if B 40 59 = (-1 : Int32) then if v < (0 : Int32) then b_X12_goes_192 K x 0 σ B N1 else if (100 : Int32) < v then b_X12_goes_192 K x 100 σ B N1 else b_X12_goes_192 K x v σ B N1 else b_X12_goes_195 K x σ B N1 else b_X12_goes_195 K x σ B N1 := fun K => by
    unfold b_X12_goes_116
    rw [h.2.2.2.2.2, if_neg (by decide), (sg_m h).2.2.2.2.1, oB, ifB, if_pos t, q1, oB]
  by_cases c : k = x ∧ w ≠ 0 ∧ A 40 59 = -1
  · rw [if_pos c]
    refine ⟨g_up B 40 59 (clampI v), N1, fun K => ?_, ⟨aB.1.keep (fun a j h => g_up_ne _ _ (by omega)), by rw [g_up_ne _ _ (by omega)]; exact aB.2.1, by rw [g_up_ne _ _ (by omega)]; exact aB.2.2.1, by rw [g_up_ne _ _ (by omega)]; exact aB.2.2.2.1, by rw [g_up_ne _ _ (by omega)]; exact aB.2.2.2.2.1, by rw [g_up_ne _ _ (by omega)]; exact aB.2.2.2.2.2⟩, by rw [g_up_ne _ _ (by omega)]; exact b8, g_up_eq _ _ ⟨rfl, rfl⟩, fun a j h1 h2 => by rw [g_up_ne _ _ (by omega), frB a j h1 h2]⟩
    rw [start, if_pos c.1, if_neg c.2.1, b9, if_pos c.2.2, clampI_c]
    unfold b_X12_goes_192 b_X12_goes_195
    by_cases z : v < 0
    · rw [if_pos z, if_pos z]
    · rw [if_neg z, if_neg z]
      by_cases z2 : 100 < v
      · rw [if_pos z2, if_pos z2]
      · rw [if_neg z2, if_neg z2]
  · rw [if_neg c]
    refine ⟨B, N1, fun K => ?_, aB, b8, b9, frB⟩
    rw [start]
    unfold b_X12_goes_195
    by_cases z : k = x
    · rw [if_pos z]
      by_cases z2 : w = 0
      · rw [if_pos z2]
      · rw [if_neg z2, b9, if_neg (fun q => c ⟨z, z2, q⟩)]
    · rw [if_neg z]
/-- the model's way through a rule -/
noncomputable def bodyM (K : Int32 → gS → gM → gN → Option (gM × gN)) (x k : Int32) (σ : gS) (M : gM) (N : gN) : Option (gM × gN) := (f_X12_next σ M N).bind fun q78 => (f_X12_whole 64 σ q78.1 q78.2).bind fun q82 => if (q82.2.1 40 51) = (0 : Int32) then (f_X12_isWord 458690 σ q82.2.1 q82.2.2).bind fun q100 => if q100 = (0 : Int32) then b_X12_goes_116 K x k q82.1 1 σ q82.2.1 q82.2.2 else (f_X12_next σ q82.2.1 q82.2.2).bind fun q107 => (f_X12_whole 64 σ q107.1 q107.2).bind fun q111 => b_X12_goes_116 K x k q82.1 q111.1 σ q111.2.1 q111.2.2 else b_X12_goes_116 K x k q82.1 1 σ q82.2.1 q82.2.2
abbrev rRes : Type := Sum (Nat × Nat) (gRule × Nat)
def okRR (b : Nat → Nat) (n s : Nat) : rRes → Prop
  | .inl f => 1 ≤ f.1 ∧ f.1 ≤ 3 ∧ f.2 ≤ n
  | .inr r => s < r.2 ∧ r.2 ≤ n ∧ r.1.2.1.length + r.1.2.2.length ≤ r.2 - s ∧ okRule r.1 ∧ r.1.1 = tokF b n s
def cRR (b : Nat → Nat) (n : Nat) (M : gM) (i c : Nat) (o : Option (Int32 × gM)) : rRes → Prop
  | .inl f => ∃ M', o = some (0, M') ∧ M' 7 13 = iN (10 * f.2 + f.1) ∧ ∀ a j, ¬ (a = 7 ∧ 8 ≤ j ∧ j ≤ 13) → a ≠ 8 → a ≠ 9 → a ≠ 10 → M' a j = M a j
  | .inr r => ∃ M', o = some (1, M') ∧ atC b n M' r.2 (c + r.1.2.1.length + r.1.2.2.length) ∧ M' 7 7 = iN (i + 1) ∧ M' 8 i = iN r.1.1 ∧ M' 9 (3 * i) = iN c ∧ M' 9 (3 * i + 1) = iN (c + r.1.2.1.length) ∧ M' 9 (3 * i + 2) = iN (c + r.1.2.1.length + r.1.2.2.length) ∧ (∀ j, j < r.1.2.1.length → M' 10 (c + j) = r.1.2.1.getD j 0) ∧ (∀ j, j < r.1.2.2.length → M' 10 (c + r.1.2.1.length + j) = r.1.2.2.getD j 0) ∧ ∀ a j, ¬ (a = 7 ∧ 7 ≤ j ∧ j ≤ 12) → ¬ (a = 8 ∧ i ≤ j) → ¬ (a = 9 ∧ 3 * i ≤ j) → ¬ (a = 10 ∧ c ≤ j) → M' a j = M a j
def mRR (b : Nat → Nat) (n : Nat) (A : gM) (x k : Int32) (o : (Int32 → gS → gM → gN → Option (gM × gN)) → Option (gM × gN)) (σ : gS) : rRes → Prop
  | .inl f => ∃ A' N', (∀ K, o K = some (A', N')) ∧ A' 40 51 = iN f.1 ∧ A' 40 52 = iN f.2 ∧ ∀ a j, ¬ (a = 40 ∧ 47 ≤ j ∧ j ≤ 52) → A' a j = A a j
  | .inr r => ∃ A' N', (∀ K, o K = K x σ A' N') ∧ atM b n A' N' r.2 0 ∧ A' 40 58 = A 40 58 + 1 ∧ A' 40 59 = (if k = x ∧ (r.1.2.2 = [] ∨ valI (facts A) r.1.2.2 ≠ 0) ∧ A 40 59 = -1 then clampI (valI (facts A) r.1.2.1) else A 40 59) ∧ ∀ a j, ¬ (a = 40 ∧ 47 ≤ j ∧ j ≤ 50) → ¬ (a = 40 ∧ 58 ≤ j ∧ j ≤ 59) → A' a j = A a j
/-- the rule's end: class -/
theorem end_c {σ : gS} {b : Nat → Nat} {n s c i : Nat} {M : gM} (hs : s ≤ n) (hi : i < 12) (h : atC b n M s c) (h5 : M 7 7 = iN i) : (tokF b n s = 59 ∧ ∃ M', b_X7_readRule_78 (iN (3 * i)) σ M = some (1, M') ∧ atC b n M' (bhdF b n s) c ∧ M' 7 7 = iN (i + 1) ∧ M' 9 (3 * i + 2) = iN c ∧ ∀ a j, ¬ (a = 7 ∧ 7 ≤ j ∧ j ≤ 12) → ¬ (a = 9 ∧ j = 3 * i + 2) → M' a j = M a j) ∨ (tokF b n s ≠ 59 ∧ ∃ M', b_X7_readRule_78 (iN (3 * i)) σ M = some (0, M') ∧ M' 7 13 = iN (10 * plcF b n s + 1) ∧ ∀ a j, ¬ (a = 7 ∧ j = 13) → a ≠ 9 → M' a j = M a j) := by
  let B : gM := g_up M 9 (3 * i + 2) (iN c)
  have fB : ∀ a j, ¬ (a = 9 ∧ j = 3 * i + 2) → B a j = M a j := fun a j h => g_up_ne _ _ h
  have aB : atC b n B s c := ⟨h.1.keep (fun a j h => fB a j (by omega)), by rw [fB _ _ (by omega)]; exact h.2.1, by rw [fB _ _ (by omega)]; exact h.2.2.1, by rw [fB _ _ (by omega)]; exact h.2.2.2.1, fun e => by rw [fB _ _ (by omega)]; exact h.2.2.2.2.1 e, by rw [fB _ _ (by omega)]; exact h.2.2.2.2.2⟩
  have start : b_X7_readRule_78 (iN (3 * i)) σ M = if B 7 11 = (59 : Int32) then (f_X7_advance σ B).bind fun q106 => some (1, (g_up q106 7 7 ((q106 7 7) + (1 : Int32)))) else (f_X7_refuse 1 σ B).bind fun q101 => if g_b q101.1 = true then some (q101.1, q101.2) else none := by
    unfold b_X7_readRule_78
    rw [show iN (3 * i) + (2 : Int32) = iN (3 * i + 2) from iN_add _ 2, if_pos (show g_in (iN (3 * i + 2)) 36 = true by rw [iN_in (by omega)]; omega), iN_cl (by omega), h.2.2.2.2.2]
  by_cases t : tokF b n s = 59
  · refine Or.inl ⟨t, ?_⟩
    obtain ⟨M1, q1, q2, q3⟩ := advC (σ := σ) hs aB
    have fr : ∀ a j, ¬ (a = 7 ∧ j = 7) → g_up M1 7 7 (iN (i + 1)) a j = M1 a j := fun a j h => g_up_ne _ _ h
    refine ⟨g_up M1 7 7 (iN (i + 1)), ?_, ⟨q2.1.keep (fun a j h => fr a j (by omega)), by rw [fr _ _ (by omega)]; exact q2.2.1, by rw [fr _ _ (by omega)]; exact q2.2.2.1, by rw [fr _ _ (by omega)]; exact q2.2.2.2.1, fun e => by rw [fr _ _ (by omega)]; exact q2.2.2.2.2.1 e, by rw [fr _ _ (by omega)]; exact q2.2.2.2.2.2⟩, g_up_eq _ _ ⟨rfl, rfl⟩, ?_, fun a j h1 h2 => by rw [fr _ _ (by omega), q3 _ _ (by omega), fB _ _ h2]⟩
    · rw [start, if_pos (show B 7 11 = 59 from (tokC (k := 59) aB (by omega)).mpr t), q1, oB, q3 _ _ (by omega), fB _ _ (by omega), h5, eS]
    · rw [fr _ _ (by omega), q3 _ _ (by omega)]; exact g_up_eq _ _ ⟨rfl, rfl⟩
  · refine Or.inr ⟨t, ?_⟩
    obtain ⟨M1, q1, q2, q3⟩ := refuse_c (σ := σ) aB 1
    refine ⟨M1, ?_, q2, fun a j h1 h2 => by rw [q3 _ _ h1, fB _ _ (by omega)]⟩
    rw [start, if_neg (show ¬ B 7 11 = 59 from fun q => t ((tokC (k := 59) aB (by omega)).mp q)), show f_X7_refuse 1 σ B = _ from q1]
    simp only [oB, if_true, g_b0]
theorem end_m {σ : gS} {b : Nat → Nat} {n s : Nat} {A : gM} {N : gN} (x k v w : Int32) (t : tokF b n s ≠ 59) (h : atM b n A N s 0) : ∃ A', (∀ K, b_X12_goes_116 K x k v w σ A N = some (A', N)) ∧ A' 40 51 = iN 1 ∧ A' 40 52 = iN (plcF b n s) ∧ ∀ a j, ¬ (a = 40 ∧ 47 ≤ j ∧ j ≤ 52) → A' a j = A a j := by
  obtain ⟨A', q1, q2, q3, q4⟩ := wrong_m (σ := σ) h 1
  refine ⟨A', fun K => ?_, q2, q3, q4⟩
  unfold b_X12_goes_116
  rw [h.2.2.2.2.2, if_neg (by decide), (sg_m h).2.2.2.2.1, oB, ifB, if_neg t, q1, oB]
theorem end_f {σ : gS} {A : gM} {N : gN} (x k v w : Int32) {f : Nat} (h1 : 1 ≤ f) (h2 : f ≤ 3) (h : A 40 51 = iN f) (K) : b_X12_goes_116 K x k v w σ A N = some (A, N) := by
  unfold b_X12_goes_116
  rw [if_pos (show (0 : Int32) < A 40 51 by rw [h, show (0 : Int32) = iN 0 from rfl, iN_lt (by omega) (by omega)]; omega)]
