/-! The invariant: what the class's cells and the model's cells have to do with each other. -/
theorem g_up_ne {α : Type} (f : Nat → Nat → α) {a k b j : Nat} (v : α) (h : ¬ (b = a ∧ j = k)) : g_up f a k v b j = f b j := by simp [g_up, h]
theorem g_up_eq {α : Type} (f : Nat → Nat → α) {a k b j : Nat} (v : α) (h : b = a ∧ j = k) : g_up f a k v b j = v := by simp [g_up, h]
theorem g_z_ne {α : Type} (f : Nat → Nat → α) {a b : Nat} (j : Nat) (z : α) (h : b ≠ a) : g_z f a z b j = f b j := by simp [g_z, h]
theorem g_z_eq {α : Type} (f : Nat → Nat → α) {a b : Nat} (j : Nat) (z : α) (h : b = a) : g_z f a z b j = z := by simp [g_z, h]
theorem oB {α β : Type} (a : α) (f : α → Option β) : (some a).bind f = f a := rfl
theorem oBi {α : Type} (o : Option α) : (o.bind fun q => some q) = o := by cases o <;> rfl
theorem oBp {α β : Type} (o : Option (α × β)) : (o.bind fun q => some (q.1, q.2)) = o := by cases o <;> rfl
theorem iff_t {α : Type} {c : Prop} [Decidable c] {a b : α} (h : c) : (if c then a else b) = a := if_pos h
theorem iff_f {α : Type} {c : Prop} [Decidable c] {a b : α} (h : ¬ c) : (if c then a else b) = b := if_neg h
theorem bI_t : bI true = iN 1 := rfl
theorem bI_f : bI false = iN 0 := rfl
theorem bI_0 (b : Bool) : (bI b = iN 0) = (b = false) := by cases b <;> simp [bI, iN_inj]
theorem bI_1 (b : Bool) : (bI b = iN 1) = (b = true) := by cases b <;> simp [bI, iN_inj]
def isB (x : Int32) : Prop := x = iN 0 ∨ x = iN 1
theorem isB_of (b : Bool) : isB (bI b) := by cases b; exact Or.inl rfl; exact Or.inr rfl
def oN (x : Int32) (n : Nat) : Prop := x = iM ∨ ∃ r, r < n ∧ x = iN r
theorem in_lo {x : Int32} {n : Nat} (h : x < 0) (hn : n < 2147483648) : x < iN n := by
  have h1 := Int32.lt_iff_toInt_lt.mp h
  apply Int32.lt_iff_toInt_lt.mpr
  rw [iN_toInt hn]
  have : (0 : Int32).toInt = 0 := rfl
  omega
theorem iN_ne_neg {x : Int32} {n : Nat} (h : x < 0) (hn : n < 2147483648) : x ≠ iN n := fun e => iN_nneg hn (by rw [← e]; exact h)
theorem neg_or (x : Int32) : x < 0 ∨ ∃ n, n < 2147483648 ∧ x = iN n := by
  by_cases h : x < 0
  · exact Or.inl h
  · exact Or.inr ⟨_, (iN_of h).2, (iN_of h).1⟩
/-- a number within bounds, or not -/
theorem in_cases (x : Int32) {a b : Nat} (hb : b < 2147483648) (ha : a < 2147483648) : (∃ n, x = iN n ∧ a ≤ n ∧ n ≤ b ∧ f_X12_in x (iN a) (iN b) = some (iN 1)) ∨ (f_X12_in x (iN a) (iN b) = some (iN 0) ∧ ∀ n, a ≤ n → n ≤ b → x ≠ iN n) := by
  unfold f_X12_in b_X12_in_0
  rcases neg_or x with h | ⟨n, hn, rfl⟩
  · refine Or.inr ⟨?_, fun n h1 h2 => iN_ne_neg h (by omega)⟩
    rw [if_pos (in_lo h ha)]; rfl
  · simp (disch := omega) only [iN_lt]
    by_cases h1 : n < a
    · refine Or.inr ⟨by rw [if_pos h1]; rfl, fun m h3 h4 h5 => ?_⟩
      simp (disch := omega) only [iN_inj] at h5
      omega
    · by_cases h2 : b < n
      · refine Or.inr ⟨by rw [if_neg h1, if_pos h2]; rfl, fun m h3 h4 h5 => ?_⟩
        simp (disch := omega) only [iN_inj] at h5
        omega
      · exact Or.inl ⟨n, rfl, by omega, by omega, by rw [if_neg h1, if_neg h2]; rfl⟩
theorem w_in (x a b : Int32) : f_X11_isWithin x a b = f_X12_in x a b := rfl
theorem iN_pre {P : Nat} (h : 0 < P) : iN P - iN 1 = iN (P - 1) := iN_sub h
theorem iN_0_1 : iN 0 - iN 1 = iM := rfl
theorem in_casesP (x : Int32) {P : Nat} (hP : P < 2147483648) : (∃ n, x = iN n ∧ n < P ∧ f_X12_in x (iN 0) (iN P - iN 1) = some (iN 1)) ∨ (f_X12_in x (iN 0) (iN P - iN 1) = some (iN 0) ∧ ∀ n, n < P → x ≠ iN n) := by
  by_cases h0 : P = 0
  · subst h0
    refine Or.inr ⟨?_, fun n h => by omega⟩
    rw [iN_0_1]
    unfold f_X12_in b_X12_in_0
    rcases neg_or x with h | ⟨n, hn, rfl⟩
    · rw [if_pos (in_lo h (by omega))]; rfl
    · rw [if_neg (by simp (disch := omega) only [iN_lt]; omega), if_pos (Int32.lt_iff_toInt_lt.mpr (by rw [iN_toInt hn]; have : iM.toInt = -1 := rfl; omega))]; rfl
  · rw [iN_pre (by omega)]
    rcases in_cases x (a := 0) (b := P - 1) (by omega) (by omega) with ⟨n, h1, h2, h3, h4⟩ | ⟨h1, h2⟩
    · exact Or.inl ⟨n, h1, by omega, h4⟩
    · exact Or.inr ⟨h1, fun n hn => h2 n (by omega) (by omega)⟩
/-! the layout -/
def lyP (σ : gS) (P : Nat) : Prop := (∀ p, p < P → σ.1 (100 + p) = some (6, 0) ∧ σ.2 3 p = 100 + p) ∧ ∀ p, P ≤ p → p < 10 → σ.1 (100 + p) = none
def lyTt (σ : gS) (t : Nat) : Prop := σ.2 4 t = 110 + t ∧ σ.1 (110 + t) = some (10, 0) ∧ σ.2 (110 + t) 3 = 120 + t ∧ σ.2 (110 + t) 4 = 130 + t ∧ σ.2 (110 + t) 5 = 140 + t ∧ σ.1 (120 + t) = some (18, 10) ∧ σ.1 (130 + t) = some (14, 10)
def lyCt (σ : gS) (t : Nat) : Prop := σ.1 (140 + t) = some (2, 0) ∧ σ.2 (140 + t) 0 = 150 + t ∧ σ.2 (140 + t) 1 = 160 + t ∧ σ.2 (140 + t) 2 = 170 + t ∧ σ.2 (140 + t) 3 = 180 + t ∧ σ.1 (150 + t) = some (14, 12) ∧ σ.1 (160 + t) = some (14, 36) ∧ σ.1 (170 + t) = some (14, 5) ∧ σ.1 (180 + t) = some (14, 20)
def lyT (σ : gS) (T : Nat) : Prop := (∀ t, t < T → lyTt σ t ∧ lyCt σ t) ∧ ∀ t, T ≤ t → t < 6 → ∀ j, 11 ≤ j → j ≤ 19 → σ.1 (10 * j + t) = none
def lyR (σ : gS) (T : Nat) (R : Nat → Nat) : Prop := (∀ t, t < 6 → R t ≤ 10 ∧ (T ≤ t → R t = 0)) ∧ (∀ t r, t < 6 → r < R t → σ.1 (200 + 10 * t + r) = some (8, 0) ∧ σ.2 (120 + t) r = 200 + 10 * t + r) ∧ ∀ t r, t < 6 → R t ≤ r → r < 10 → σ.1 (200 + 10 * t + r) = none
/-- the cell of a town's code -/
def lyD (σ : gS) (T : Nat) : Prop := (∀ t, t < T → ∃ a n, σ.2 (140 + t) 4 = a ∧ σ.1 a = some (14, n) ∧ n ≤ 400 ∧ (a = 190 + t ∧ n = 0 ∨ a = 100000 + 1000 * t + n) ∧ ∀ m, n < m → m ≤ 400 → σ.1 (100000 + 1000 * t + m) = none) ∧ ∀ t, T ≤ t → t < 6 → ∀ m, m ≤ 400 → σ.1 (100000 + 1000 * t + m) = none
/-- the cell of the settler's table -/
def lyB (σ : gS) : Prop := ∃ a n, σ.2 12 13 = a ∧ σ.1 a = some (14, n) ∧ n ≤ 11264 ∧ (a = 36 ∧ n = 0 ∨ a = 10000 + n) ∧ ∀ m, n < m → m ≤ 11264 → σ.1 (10000 + m) = none
def Lay (σ : gS) (P T : Nat) (R : Nat → Nat) : Prop := g_layL σ ∧ lyP σ P ∧ lyT σ T ∧ lyR σ T R ∧ lyD σ T ∧ lyB σ
theorem is_of {σ : gS} {a kd n : Nat} (h : σ.1 a = some (kd, n)) : (g_is σ a kd = true) = True := by unfold g_is; rw [h]; simp
theorem ln_of {σ : gS} {a kd n : Nat} (h : σ.1 a = some (kd, n)) : g_ln σ a = n := by unfold g_ln; rw [h]
/-! the people -/
def vP1 (M : gM) (p : Nat) : Prop := M (100 + p) 0 = M 41 p ∧ M (100 + p) 1 = M 42 p ∧ M (100 + p) 2 = M 43 p ∧ M (100 + p) 3 = M 44 p ∧ M (100 + p) 4 = M 45 p ∧ M (100 + p) 5 = M 46 p ∧ M (100 + p) 6 = M 47 p ∧ M (100 + p) 7 = M 48 p ∧ M (100 + p) 10 = M 64 p
def vP2 (M : gM) (p : Nat) : Prop := isB (M 41 p) ∧ isB (M 43 p) ∧ isB (M 47 p) ∧ ∃ f t, M 45 p = iN f ∧ M 46 p = iN t ∧ f ≤ t ∧ t ≤ 5
/-- bars and absences, as bits -/
def vP3 (M : gM) (p : Nat) : Prop := (∃ b, b < 1024 ∧ M (100 + p) 8 = iN b ∧ ∀ q, q < 10 → M 49 (10 * p + q) = bI (b.testBit q)) ∧ ∃ b, b < 1073741824 ∧ M (100 + p) 9 = iN b ∧ ∀ n, n < 30 → M 61 (10 * n + p) = bI (b.testBit n)
/-- friends are friends of one another -/
def vP4 (M : gM) (P p : Nat) : Prop := M 48 p = iM ∨ ∃ q, q < P ∧ q ≠ p ∧ M 48 p = iN q ∧ M 48 q = iN p ∧ M 47 p = iN 0
/-- whoever isn't yet -/
def vP5 (M : gM) (p : Nat) : Prop := M 47 p = iN 0 ∧ M 64 p = iN 0 ∧ (∀ q, q < 10 → M 49 (10 * p + q) = iN 0) ∧ (∀ n, n < 30 → M 61 (10 * n + p) = iN 0) ∧ ∀ t, t < 6 → M 57 (10 * t + p) = iM
def vP6 (M : gM) : Prop := ∀ a b, a < 10 → b < 10 → M 49 (10 * a + b) = M 49 (10 * b + a)
def vP (M : gM) (P : Nat) : Prop := P ≤ 10 ∧ M 2 1 = iN P ∧ M 40 1 = iN P ∧ (∀ p, p < P → vP1 M p) ∧ (∀ p, p < P → vP2 M p) ∧ (∀ p, p < P → vP3 M p) ∧ (∀ p, p < P → vP4 M P p) ∧ (∀ p, P ≤ p → p < 10 → vP5 M p) ∧ vP6 M
/-! the towns -/
def vT1 (M : gM) (t : Nat) : Prop := M (110 + t) 0 = iN t ∧ M (110 + t) 1 = M 50 t ∧ M (110 + t) 2 = M 51 t ∧ M (110 + t) 6 = M 52 t ∧ ∀ p, p < 10 → M (130 + t) p = M 57 (10 * t + p)
/-- F: the first nights -/
def vT2 (M : gM) (F : Nat → Nat) (t : Nat) : Prop := M 51 t = iN (F t) ∧ F t < F (t + 1) ∧ F (t + 1) ≤ F t + 5 ∧ M 50 t = iN (F (t + 1) - F t)
def vT3 (M : gM) (R : Nat → Nat) (t : Nat) : Prop := M 52 t = iN (R t) ∧ ∀ p, p < 10 → oN (M 57 (10 * t + p)) (R t)
def vR1 (M : gM) (t r : Nat) : Prop := M (200 + 10 * t + r) 0 = M 53 (10 * t + r) ∧ M (200 + 10 * t + r) 1 = M 54 (10 * t + r) ∧ M (200 + 10 * t + r) 2 = M 55 (10 * t + r) ∧ M (200 + 10 * t + r) 3 = M 56 (10 * t + r)
def vR2 (M : gM) (t r : Nat) : Prop := isB (M 54 (10 * t + r)) ∧ isB (M 56 (10 * t + r)) ∧ (∃ b, M 53 (10 * t + r) = iN b ∧ 1 ≤ b ∧ b ≤ 2) ∧ ∃ c, M 55 (10 * t + r) = iN c ∧ 1 ≤ c ∧ c ≤ 1000
def vT (M : gM) (T C : Nat) (R F : Nat → Nat) : Prop := T ≤ 6 ∧ F 0 = 0 ∧ C ≤ F T ∧ M 1 8 = iN T ∧ M 40 11 = iN T ∧ M 1 9 = iN (F T) ∧ M 40 12 = iN (F T) ∧ M 33 0 = iN C ∧ M 40 13 = iN C ∧ (∀ t, t < T → vT1 M t) ∧ (∀ t, t < T → vT2 M F t) ∧ (∀ t, t < 6 → vT3 M R t) ∧ (∀ t r, t < 6 → r < R t → vR1 M t r) ∧ ∀ t r, t < 6 → r < R t → vR2 M t r
/-! days, notes, book, tape, coach -/
def vD (M : gM) : Prop := (∃ d, d ≤ 1000 ∧ M 1 10 = iN d ∧ M 40 14 = iN d) ∧ (∃ f, f ≤ 400 ∧ M 1 11 = iN f ∧ M 40 15 = iN f) ∧ (∃ s, s ≤ 3 ∧ M 1 12 = iN s ∧ M 40 16 = iN s) ∧ M 1 13 = M 40 17 ∧ M 1 14 = M 40 37
def vN1 (M : gM) (k : Nat) : Prop := ∃ d t p r, d ≤ 1000 ∧ t < 6 ∧ p < 10 ∧ r ≤ 10 ∧ M 6 k = iN (2048 * d + 256 * t + 16 * p + r) ∧ M 58 k = iN d ∧ M 59 k = iN (10 * t + p) ∧ M 60 k = iN r - iN 1
def vN (M : gM) : Prop := ∃ s, s ≤ 500 ∧ M 5 1 = iN s ∧ M 40 26 = iN s ∧ ∀ k, k < s → vN1 M k
def vB (M : gM) (C : Nat) : Prop := ∀ n, n < C → M 34 n = M 63 n ∧ ∀ p, p < 10 → M 35 (10 * n + p) = M 62 (10 * n + p)
/-- a byte with its sign -/
def sb (b : Nat) : Int32 := if b < 128 then iN b else iN b - iN 256
def vK (M : gM) : Prop := ∃ n, n ≤ 400 ∧ M 7 6 = iN n ∧ M 40 41 = iN n ∧ ∀ k, k < n → ∃ b, 0 < b ∧ b < 256 ∧ M 11 k = iN b ∧ M 70 k = sb b
def vC1 (M : gM) (s : Nat) : Prop := ∃ o h y, M 25 s = iN o ∧ M 77 s = iN o ∧ M 26 s = iN h ∧ M 78 s = iN h ∧ M 27 s = iN y ∧ M 79 s = iN y ∧ o ≤ 1440 ∧ h ≤ 1440 ∧ y ≤ 300
def vC (M : gM) : Prop := (∃ s, s ≤ 6 ∧ M 24 0 = iN s ∧ M 40 63 = iN s) ∧ (∀ s, s < 7 → vC1 M s) ∧ (∀ k, k < 49 → ∃ w, w ≤ 270 ∧ M 28 k = iN w ∧ M 80 k = iN w) ∧ isB (M 40 70) ∧ M 24 9 = M 40 70 ∧ (∃ m, m ≤ 6 ∧ M 24 10 = iN m ∧ M 40 71 = iN m ∧ (∀ k, k < m → M 31 k = M 83 k ∧ M 32 k = M 84 k)) ∧ M 24 11 = M 40 72 ∧ M 24 12 = M 40 73 ∧ M 24 13 = M 40 74 ∧ M 80 0 = iN 0
/-! contracts: a rule is its kind, its code, the code of its when (none: no when) -/
def joinI (c a b : Int32) : Int32 := if c = -9 then a + b else if c = -8 then (if a = b then 1 else 0) else if c = -7 then (if a < b then 1 else 0) else if c = -6 then (if a = 0 then 0 else if b = 0 then 0 else 1) else a - b
def stepI (fa : Nat → Int32) (c : Int32) (s : List Int32) : List Int32 :=
  if c < -5 then match s with
    | b :: a :: s => joinI c a b :: s
    | s => s
  else (if c < 0 then fa (-1 - c).toNatClampNeg else c) :: s
def runI (fa : Nat → Int32) : List Int32 → List Int32 → List Int32
  | [], s => s
  | c :: cs, s => runI fa cs (stepI fa c s)
/-- a code that leaves one value more, and needs no more than d places for it -/
def okI : List Int32 → Nat → Nat → Prop
  | [], h, _ => h = 1
  | c :: cs, h, d => if c < -5 then 2 ≤ h ∧ -11 < c ∧ okI cs (h - 1) d else h < d ∧ okI cs (h + 1) d
def valI (fa : Nat → Int32) (cs : List Int32) : Int32 := (runI fa cs []).headD 0
def clampI (x : Int32) : Int32 := if x < 0 then 0 else if 100 < x then 100 else x
abbrev gRule : Type := Nat × List Int32 × List Int32
def worthI (fa : Nat → Int32) (kind : Nat) : List gRule → Int32
  | [] => 0
  | r :: rs => if r.1 = kind ∧ (r.2.2 = [] ∨ valI fa r.2.2 ≠ 0) then clampI (valI fa r.2.1) else worthI fa kind rs
def okRule (r : gRule) : Prop := r.1 ≤ 3 ∧ okI r.2.1 0 20 ∧ (r.2.2 = [] ∨ okI r.2.2 0 20)
/-- the rules lie in the class's arrays: kinds k, marks m, code c, from the i-th rule and the place a of the code on -/
def hasR (k m c : Nat → Int32) : Nat → Nat → List gRule → Prop
  | _, _, [] => True
  | i, a, r :: rs => k i = iN r.1 ∧ m (3 * i) = iN a ∧ m (3 * i + 1) = iN (a + r.2.1.length) ∧ m (3 * i + 2) = iN (a + r.2.1.length + r.2.2.length) ∧ (∀ j, j < r.2.1.length → c (a + j) = r.2.1.getD j 0) ∧ (∀ j, j < r.2.2.length → c (a + r.2.1.length + j) = r.2.2.getD j 0) ∧ hasR k m c (i + 1) (a + r.2.1.length + r.2.2.length) rs
def lenR : List gRule → Nat
  | [] => 0
  | r :: rs => r.2.1.length + r.2.2.length + lenR rs
def facts (M : gM) (i : Nat) : Int32 := if i = 0 then M 40 54 else if i = 1 then M 40 55 else if i = 2 then M 40 56 else if i = 3 then M 40 57 else M 40 16
/-- what the telling of a worth leaves as it was -/
def keepT (M M' : gM) : Prop := ∀ a k, a ≠ 74 → ¬ (a = 40 ∧ 46 ≤ k ∧ k ≤ 53) → ¬ (a = 40 ∧ 58 ≤ k ∧ k ≤ 59) → M' a k = M a k
/-- the model's text of a town tells the worths of these rules -/
def tellsR (M : gM) (t : Nat) (rs : List gRule) : Prop := ∀ (σ : gS) (M' : gM) (N' : gN), (∀ k, k < 400 → M' 71 (400 * t + k) = M 71 (400 * t + k)) → M' 72 t = M 72 t → ∀ kind, kind ≤ 3 → ∃ M'' N'', f_X12_told (iN t) (iN kind) σ M' N' = some (worthI (facts M') kind rs, M'', N'') ∧ keepT M' M''
def vXt (σ : gS) (M : gM) (t : Nat) : Prop := ∃ rs : List gRule, rs.length ≤ 12 ∧ (∀ r ∈ rs, okRule r) ∧ lenR rs ≤ g_ln σ (σ.2 (140 + t) 4) ∧ M (140 + t) 5 = iN rs.length ∧ M 73 t = iN rs.length ∧ hasR (M (150 + t)) (M (160 + t)) (M (σ.2 (140 + t) 4)) 0 0 rs ∧ tellsR M t rs
def vX (σ : gS) (M : gM) (T : Nat) : Prop := (∀ t, t < T → vXt σ M t) ∧ ∀ t, T ≤ t → t < 6 → M 72 t = iN 0 ∧ M 73 t = iN 0
def Inv (σ : gS) (M : gM) : Prop := ∃ (P T C : Nat) (R F : Nat → Nat), Lay σ P T R ∧ vP M P ∧ vT M T C R F ∧ vD M ∧ vN M ∧ vB M C ∧ vK M ∧ vC M ∧ vX σ M T
/-! what is kept where nothing of it is written -/
theorem vP.keep {M M' : gM} {P : Nat} (h : vP M P) (k : ∀ a j, (a = 2 ∧ j = 1) ∨ (a = 40 ∧ j = 1) ∨ (100 ≤ a ∧ a < 110) ∨ (41 ≤ a ∧ a ≤ 49) ∨ a = 57 ∨ a = 61 ∨ a = 64 → M' a j = M a j) : vP M' P := by
  obtain ⟨h0, h1, h2, h3, h4, h5, h6, h7, h8⟩ := h
  refine ⟨h0, by rw [k _ _ (by omega)]; exact h1, by rw [k _ _ (by omega)]; exact h2, fun p hp => ?_, fun p hp => ?_, fun p hp => ?_, fun p hp => ?_, fun p hp hq => ?_, fun a b ha hb => ?_⟩
  · have := h3 p hp
    unfold vP1 at *
    simp (disch := omega) only [k]
    exact this
  · have := h4 p hp
    unfold vP2 at *
    simp (disch := omega) only [k]
    exact this
  · have := h5 p hp
    unfold vP3 at *
    simp (disch := omega) only [k]
    exact this
  · have := h6 p hp
    unfold vP4 at *
    simp (disch := omega) only [k]
    exact this
  · have := h7 p hp hq
    unfold vP5 at *
    simp (disch := omega) only [k]
    exact this
  · simp (disch := omega) only [k]
    exact h8 a b ha hb
theorem vT.keep {M M' : gM} {T C : Nat} {R F : Nat → Nat} (h : vT M T C R F) (k : ∀ a j, (a = 1 ∧ 8 ≤ j ∧ j ≤ 9) ∨ (a = 33 ∧ j = 0) ∨ (a = 40 ∧ 11 ≤ j ∧ j ≤ 13) ∨ (110 ≤ a ∧ a < 120) ∨ (130 ≤ a ∧ a < 140) ∨ (200 ≤ a ∧ a < 260) ∨ (50 ≤ a ∧ a ≤ 57) → M' a j = M a j) (hR : ∀ t, t < 6 → R t ≤ 10) : vT M' T C R F := by
  obtain ⟨h0, hF0, hC, h1, h2, h3, h4, h5, h6, h7, h8, h9, h10, h11⟩ := h
  refine ⟨h0, hF0, hC, by rw [k _ _ (by omega)]; exact h1, by rw [k _ _ (by omega)]; exact h2, by rw [k _ _ (by omega)]; exact h3, by rw [k _ _ (by omega)]; exact h4, by rw [k _ _ (by omega)]; exact h5, by rw [k _ _ (by omega)]; exact h6, fun t ht => ?_, fun t ht => ?_, fun t ht => ?_, fun t r ht hr => ?_, fun t r ht hr => ?_⟩
  · have := h7 t ht
    unfold vT1 at *
    simp (disch := omega) only [k]
    exact this
  · have := h8 t ht
    unfold vT2 at *
    simp (disch := omega) only [k]
    exact this
  · have := h9 t ht
    unfold vT3 at *
    simp (disch := omega) only [k]
    exact this
  · have := h10 t r ht hr
    have h12 := hR t ht
    unfold vR1 at *
    simp (disch := omega) only [k]
    exact this
  · have := h11 t r ht hr
    unfold vR2 at *
    simp (disch := omega) only [k]
    exact this
theorem vD.keep {M M' : gM} (h : vD M) (k : ∀ a j, (a = 1 ∧ 10 ≤ j ∧ j ≤ 14) ∨ (a = 40 ∧ 14 ≤ j ∧ j ≤ 17) ∨ (a = 40 ∧ j = 37) → M' a j = M a j) : vD M' := by
  unfold vD at *
  simp (disch := omega) only [k]
  exact h
theorem vN.keep {M M' : gM} (h : vN M) (k : ∀ a j, (a = 5 ∧ j = 1) ∨ (a = 40 ∧ j = 26) ∨ a = 6 ∨ (58 ≤ a ∧ a ≤ 60) → M' a j = M a j) : vN M' := by
  unfold vN vN1 at *
  simp (disch := omega) only [k]
  exact h
theorem vB.keep {M M' : gM} {C : Nat} (h : vB M C) (k : ∀ a j, (34 ≤ a ∧ a ≤ 35) ∨ (62 ≤ a ∧ a ≤ 63) → M' a j = M a j) : vB M' C := by
  unfold vB at *
  simp (disch := omega) only [k]
  exact h
theorem vK.keep {M M' : gM} (h : vK M) (k : ∀ a j, (a = 7 ∧ j = 6) ∨ (a = 40 ∧ j = 41) ∨ a = 11 ∨ a = 70 → M' a j = M a j) : vK M' := by
  unfold vK at *
  simp (disch := omega) only [k]
  exact h
theorem vC.keep {M M' : gM} (h : vC M) (k : ∀ a j, (a = 24 ∧ (j = 0 ∨ 9 ≤ j)) ∨ (a = 40 ∧ (j = 63 ∨ (70 ≤ j ∧ j ≤ 74))) ∨ (25 ≤ a ∧ a ≤ 28) ∨ (31 ≤ a ∧ a ≤ 32) ∨ (77 ≤ a ∧ a ≤ 80) ∨ (83 ≤ a ∧ a ≤ 84) → M' a j = M a j) : vC M' := by
  unfold vC vC1 at *
  simp (disch := omega) only [k]
  exact h
theorem tellsR.keep {M M' : gM} {t : Nat} {rs : List gRule} (h : tellsR M t rs) (k : ∀ a j, a = 71 ∨ a = 72 → M' a j = M a j) : tellsR M' t rs := by
  intro σ M1 N1 h1 h2 kind hk
  exact h σ M1 N1 (fun j hj => by rw [h1 j hj, k _ _ (by omega)]) (by rw [h2, k _ _ (by omega)]) kind hk
theorem hasR.keep {k m c k' m' c' : Nat → Int32} : ∀ (rs : List gRule) (i a : Nat), (∀ j, j < i + rs.length → k' j = k j) → (∀ j, j < 3 * (i + rs.length) → m' j = m j) → (∀ j, j < a + lenR rs → c' j = c j) → hasR k m c i a rs → hasR k' m' c' i a rs := by
  intro rs
  induction rs with
  | nil => intro i a _ _ _ _; trivial
  | cons r rs ih =>
    intro i a h1 h2 h3 h
    obtain ⟨a1, a2, a3, a4, a5, a6, a7⟩ := h
    simp only [List.length_cons, lenR] at h1 h2 h3
    refine ⟨by rw [h1 _ (by omega)]; exact a1, by rw [h2 _ (by omega)]; exact a2, by rw [h2 _ (by omega)]; exact a3, by rw [h2 _ (by omega)]; exact a4, fun j hj => by rw [h3 _ (by omega)]; exact a5 j hj, fun j hj => by rw [h3 _ (by omega)]; exact a6 j hj, ih _ _ (fun j hj => h1 j (by omega)) (fun j hj => h2 j (by omega)) (fun j hj => h3 j (by omega)) a7⟩
/-- the rows of the code -/
theorem lyD.at {σ : gS} {T t : Nat} (h : lyD σ T) (ht : t < T) : (190 ≤ σ.2 (140 + t) 4 ∧ σ.2 (140 + t) 4 < 190 + T) ∨ 100000 ≤ σ.2 (140 + t) 4 := by
  obtain ⟨a, n, h1, h2, h3, h4, h5⟩ := h.1 t ht
  omega
theorem vX.keep {σ : gS} {M M' : gM} {T : Nat} (h : vX σ M T) (hd : lyD σ T) (hT : T ≤ 6) (k : ∀ a j, (71 ≤ a ∧ a ≤ 73) ∨ (140 ≤ a ∧ a < 146 ∧ j = 5) ∨ (150 ≤ a ∧ a < 170) ∨ (190 ≤ a ∧ a < 200) ∨ 100000 ≤ a → M' a j = M a j) : vX σ M' T := by
  refine ⟨fun t ht => ?_, fun t h1 h2 => ?_⟩
  · obtain ⟨rs, h1, h2, h3, h4, h5, h6, h7⟩ := h.1 t ht
    have hd := hd.at ht
    refine ⟨rs, h1, h2, h3, by rw [k _ _ (by omega)]; exact h4, by rw [k _ _ (by omega)]; exact h5, ?_, h7.keep fun a j h => k a j (by omega)⟩
    exact hasR.keep rs 0 0 (fun j _ => k _ _ (by omega)) (fun j _ => k _ _ (by omega)) (fun j _ => k _ _ (by omega)) h6
  · rw [k _ _ (by omega), k _ _ (by omega)]
    exact h.2 t h1 h2
/-- the last night's bound -/
theorem vT.F {M : gM} {T C : Nat} {R F : Nat → Nat} (h : vT M T C R F) : ∀ t, t ≤ T → F t ≤ 5 * t := by
  intro t
  induction t with
  | zero => intro _; have := h.2.1; omega
  | succ t ih =>
    intro ht
    have h1 := ih (by omega)
    have h2 := (h.2.2.2.2.2.2.2.2.2.2.1 t (by omega)).2.2.1
    omega
