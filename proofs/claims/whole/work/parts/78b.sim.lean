/-! read: one parser, both sides: what a reading gives. -/
def okJ (cs : List Int32) (d : Nat) : Prop := ∀ rest h D, h + d ≤ D → okI rest (h + 1) D → okI (cs ++ rest) h D
theorem okJ_atom {c : Int32} (hc : ¬ c < -5) : okJ [c] 1 := fun rest h D hd hr => by
  show okI (c :: rest) h D
  rw [okI, if_neg hc]
  exact ⟨by omega, hr⟩
theorem okJ_mono {cs : List Int32} {d e : Nat} (h : okJ cs d) (hd : d ≤ e) : okJ cs e := fun rest k D h1 h2 => h rest k D (by omega) h2
theorem okJ_op {x y : List Int32} {op : Int32} {d : Nat} (hx : okJ x (d + 1)) (hy : okJ y d) (h1 : op < -5) (h2 : -11 < op) : okJ (x ++ y ++ [op]) (d + 1) := fun rest h D hd hr => by
  rw [List.append_assoc, List.append_assoc]
  refine hx _ h D hd (hy _ (h + 1) D (by omega) ?_)
  show okI (op :: rest) (h + 1 + 1) D
  rw [okI, if_pos h1]
  exact ⟨by omega, h2, by rw [Nat.add_sub_cancel]; exact hr⟩
theorem okJ_ok {cs : List Int32} {d : Nat} (h : okJ cs d) (hd : d ≤ 20) : okI cs 0 20 := by
  have := h [] 0 20 (by omega) rfl
  rw [List.append_nil] at this
  exact this
def pushI (fa : Nat → Int32) (cs : List Int32) (v : Int32) : Prop := ∀ s, runI fa cs s = v :: s
theorem runI_app (fa : Nat → Int32) : ∀ (a b : List Int32) s, runI fa (a ++ b) s = runI fa b (runI fa a s) := by
  intro a
  induction a with
  | nil => intro b s; rfl
  | cons c a ih => intro b s; show runI fa (a ++ b) (stepI fa c s) = _; rw [ih]; rfl
theorem push_op {fa : Nat → Int32} {x y : List Int32} {op v w : Int32} (hx : pushI fa x v) (hy : pushI fa y w) (h1 : op < -5) : pushI fa (x ++ y ++ [op]) (joinI op v w) := fun s => by
  rw [runI_app, runI_app, hx, hy]
  show stepI fa op (w :: v :: s) = _
  unfold stepI
  rw [if_pos h1]
theorem push_num {fa : Nat → Int32} {m : Nat} (hm : m < 2147483648) : pushI fa [iN m] (iN m) := fun s => by
  have h0 := iN_nneg hm
  have h5 : ¬ iN m < -5 := fun h => h0 (Int32.lt_trans h (by decide))
  show stepI fa (iN m) s = _
  unfold stepI
  rw [if_neg h5, if_neg h0]
theorem fact_code : ∀ i, i < 5 → ¬ (5 : Int32) - iN (6 + i) < -5 ∧ (5 : Int32) - iN (6 + i) < 0 ∧ (-1 - ((5 : Int32) - iN (6 + i))).toNatClampNeg = i := by decide
theorem push_fact {fa : Nat → Int32} {i : Nat} (hi : i < 5) : pushI fa [5 - iN (6 + i)] (fa i) := fun s => by
  obtain ⟨h1, h2, h3⟩ := fact_code i hi
  show stepI fa (5 - iN (6 + i)) s = _
  unfold stepI
  rw [if_neg h1, if_pos h2, h3]
theorem push_val {fa : Nat → Int32} {cs : List Int32} {v : Int32} (h : pushI fa cs v) : valI fa cs = v := by
  unfold valI
  rw [h []]
  rfl
theorem getD_app {f : Nat → Int32} {x y : List Int32} (h1 : ∀ j, j < x.length → f j = x.getD j 0) (h2 : ∀ j, j < y.length → f (x.length + j) = y.getD j 0) : ∀ j, j < (x ++ y).length → f j = (x ++ y).getD j 0 := by
  intro j hj
  rw [List.length_append] at hj
  by_cases c : j < x.length
  · rw [h1 j c]
    simp [List.getD, List.getElem?_append_left c]
  · have := h2 (j - x.length) (by omega)
    rw [show x.length + (j - x.length) = j by omega] at this
    rw [this]
    simp [List.getD, List.getElem?_append_right (Nat.le_of_not_lt c)]
abbrev pRes : Type := Sum (Nat × Nat) (List Int32 × Nat)
def okRes (n w s : Nat) : pRes → Prop
  | .inl f => 1 ≤ f.1 ∧ f.1 ≤ 3 ∧ f.2 ≤ n
  | .inr r => s < r.2 ∧ r.2 ≤ n ∧ r.1.length ≤ r.2 - s ∧ okJ r.1 w
def cOut (b : Nat → Nat) (n : Nat) (M : gM) (c : Nat) (o : Option (Int32 × gM)) : pRes → Prop
  | .inl f => ∃ M', o = some (0, M') ∧ M' 7 13 = iN (10 * f.2 + f.1) ∧ ∀ a j, ¬ (a = 7 ∧ 8 ≤ j ∧ j ≤ 13) → a ≠ 10 → M' a j = M a j
  | .inr r => ∃ M', o = some (1, M') ∧ atC b n M' r.2 (c + r.1.length) ∧ (∀ j, j < r.1.length → M' 10 (c + j) = r.1.getD j 0) ∧ ∀ a j, ¬ (a = 7 ∧ 8 ≤ j ∧ j ≤ 12) → ¬ (a = 10 ∧ c ≤ j) → M' a j = M a j
def mOut (b : Nat → Nat) (n : Nat) (A : gM) (d : Nat) (o : Option (Int32 × gM × gN)) : pRes → Prop
  | .inl f => ∃ v A' N', o = some (v, A', N') ∧ A' 40 51 = iN f.1 ∧ A' 40 52 = iN f.2 ∧ ∀ a j, ¬ (a = 40 ∧ 47 ≤ j ∧ j ≤ 52) → A' a j = A a j
  | .inr r => ∃ v A' N', o = some (v, A', N') ∧ pushI (facts A) r.1 v ∧ atM b n A' N' r.2 d ∧ ∀ a j, ¬ (a = 40 ∧ 47 ≤ j ∧ j ≤ 50) → A' a j = A a j
def Sim (b : Nat → Nat) (n w dep s Dc Dm : Nat) (fc : Nat → Int32 → gS → gM → Option (Int32 × gM)) (fm : Nat → gS → gM → gN → Option (Int32 × gM × gN)) : Prop :=
  ∃ res, okRes n w s res ∧ (∀ c σ M D, Dc ≤ D → c ≤ s → atC b n M s c → cOut b n M c (fc D (iN dep) σ M) res) ∧ ∀ σ A N E, Dm ≤ E → atM b n A N s dep → mOut b n A dep (fm E σ A N) res
theorem facts_keep {A A' : gM} (h : ∀ j, (54 ≤ j ∧ j ≤ 57) ∨ j = 16 → A' 40 j = A 40 j) : facts A' = facts A := by
  funext i
  unfold facts
  rw [h 54 (by omega), h 55 (by omega), h 56 (by omega), h 57 (by omega), h 16 (by omega)]
theorem write_c {σ : gS} {b : Nat → Nat} {n s c : Nat} {M : gM} (x : Int32) (hc : c < 400) (h : atC b n M s c) : ∃ M', f_X7_write x σ M = some M' ∧ atC b n M' s (c + 1) ∧ M' 10 c = x ∧ ∀ a j, ¬ (a = 7 ∧ j = 8) → ¬ (a = 10 ∧ j = c) → M' a j = M a j := by
  obtain ⟨h1, h2, h3, h4, h5, h6⟩ := h
  have fr : ∀ a j, ¬ (a = 7 ∧ j = 8) → ¬ (a = 10 ∧ j = c) → g_up (g_up M 10 c x) 7 8 (iN (c + 1)) a j = M a j := fun a j q1 q2 => by rw [g_up_ne _ _ q1, g_up_ne _ _ q2]
  refine ⟨g_up (g_up M 10 c x) 7 8 (iN (c + 1)), ?_, ⟨h1.keep (fun a j h => fr a j (by omega) (by omega)), ?_, ?_, ?_, fun e => ?_, g_up_eq _ _ ⟨rfl, rfl⟩⟩, ?_, fr⟩
  · unfold f_X7_write b_X7_write_0
    rw [h6, if_pos (show iN c < (400 : Int32) by rw [show (400 : Int32) = iN 400 from rfl, iN_lt (by omega) (by omega)]; exact hc), if_pos (show g_in (iN c) 400 = true by rw [iN_in (by omega)]; exact hc), iN_cl (by omega), g_up_ne _ _ (by omega), h6, eS]
  · rw [fr _ _ (by omega) (by omega)]; exact h2
  · rw [fr _ _ (by omega) (by omega)]; exact h3
  · rw [fr _ _ (by omega) (by omega)]; exact h4
  · rw [fr _ _ (by omega) (by omega)]; exact h5 e
  · rw [g_up_ne _ _ (by omega), g_up_eq _ _ ⟨rfl, rfl⟩]
theorem step_s {b : Nat → Nat} {n s : Nat} (hs : s ≤ n) (ht : tokF b n s ≠ 12) : s < bhdF b n s ∧ bhdF b n s ≤ n ∧ s < n := by
  have h1 := plcF_le (b := b) hs
  have h2 := bhdF_le (b := b) hs
  rcases tokF_c b n s with ⟨g, _⟩ | ⟨g, _⟩
  · exact absurd g ht
  · omega
/-- the class: to the next token -/
theorem advC {σ : gS} {b : Nat → Nat} {n s c : Nat} {M : gM} (hs : s ≤ n) (h : atC b n M s c) : ∃ M', f_X7_advance σ M = some M' ∧ atC b n M' (bhdF b n s) c ∧ ∀ a j, ¬ (a = 7 ∧ 10 ≤ j ∧ j ≤ 12) → M' a j = M a j := by
  obtain ⟨h1, h2, h3, ⟨k, hx, hl, hd⟩, h5, h6⟩ := h
  have hp := plcF_le (b := b) hs
  by_cases e : plcF b n (sqF b n k) < n
  · have es : s = sqF b n k := by
      rcases hd with q | q
      · exact q
      · omega
    obtain ⟨M', q1, q2, q3⟩ := take_k (σ := σ) (k := k + 1) h1 (fun i hi => by
      by_cases c : i = k
      · rw [c]; exact e
      · exact hl i (by omega)) hx
    refine ⟨M', q1, ?_, q3⟩
    rw [es]
    exact q2 c h6
  · have pS : n ≤ plcF b n s := by
      rcases hd with q | q
      · rw [q]; omega
      · omega
    have pN := plcF_le (b := b) (Nat.le_refl n)
    have bE : bhdF b n s = n := by unfold bhdF; rw [if_pos pS]; omega
    have tS : tokF b n s = 12 := by unfold tokF; rw [if_pos pS]
    have tN : tokF b n n = 12 := by unfold tokF; rw [if_pos (by omega)]
    refine ⟨M, ?_, ?_, fun _ _ _ => rfl⟩
    · obtain ⟨g1, K, g2, g3, g4, g5, g6⟩ := h1
      have eK : K = k := by
        by_cases c1 : K < k
        · have := hl K c1
          omega
        · by_cases c2 : k < K
          · exact absurd (g3 k c2) e
          · omega
      unfold f_X7_advance b_X7_advance_0
      rw [hx, g5, eK, if_neg (by rw [iN_lt (by omega) (by omega)]; omega)]
    · rw [bE]
      exact ⟨h1, fun _ => by rw [h2 (by omega), tS, tN], by rw [h3]; congr 1; omega, ⟨k, hx, hl, Or.inr ⟨rfl, by omega⟩⟩, fun q => by omega, h6⟩
theorem nextM {σ : gS} {b : Nat → Nat} {n s d : Nat} {A : gM} {N : gN} (hs : s ≤ n) (h : atM b n A N s d) : ∃ A' N', f_X12_next σ A N = some (A', N') ∧ atM b n A' N' (bhdF b n s) d ∧ ∀ a j, ¬ (a = 40 ∧ 47 ≤ j ∧ j ≤ 49) → A' a j = A a j := by
  obtain ⟨h1, h2, h3, h4, h5, h6⟩ := h
  obtain ⟨A', N', q1, q2, q3, q4, q5⟩ := next_m (σ := σ) (N := N) (s := bhdF b n s) (bhdF_le (b := b) hs).2.1 h1 h2
  exact ⟨A', N', q1, ⟨h1.keep (fun a j h => q5 a j (by omega)), q2, q3, q4, by rw [q5 _ _ (by omega)]; exact h5, by rw [q5 _ _ (by omega)]; exact h6⟩, q5⟩
/-- the class: on, a reading, its sign written behind it -/
theorem binC_l {σ : gS} {b : Nat → Nat} {n s c : Nat} {M : gM} {f : Nat × Nat} {rec : gS → gM → Option (Int32 × gM)} {op : Int32} (hs : s ≤ n) (ht : tokF b n s ≠ 12) (hc : c ≤ s) (h : atC b n M s c) (hr : ∀ M, atC b n M (bhdF b n s) c → cOut b n M c (rec σ M) (.inl f)) : ∃ M', (∀ K : gM → Option (Int32 × gM), ((f_X7_advance σ M).bind fun q => (rec σ q).bind fun r => if r.1 = (0 : Int32) then some (0, r.2) else (f_X7_write op σ r.2).bind K) = some (0, M')) ∧ M' 7 13 = iN (10 * f.2 + f.1) ∧ ∀ a j, ¬ (a = 7 ∧ 8 ≤ j ∧ j ≤ 13) → a ≠ 10 → M' a j = M a j := by
  obtain ⟨M1, q1, q2, q3⟩ := advC (σ := σ) hs h
  obtain ⟨M2, r1, r2, r3⟩ := hr M1 q2
  refine ⟨M2, fun K => by rw [q1, oB, r1, oB, if_pos rfl], r2, fun a j h1 h2 => by rw [r3 a j h1 h2, q3 a j (by omega)]⟩
theorem binC_r {σ : gS} {b : Nat → Nat} {n s c : Nat} {M : gM} {r : List Int32 × Nat} {rec : gS → gM → Option (Int32 × gM)} {op : Int32} (hs : s ≤ n) (hn : n ≤ 400) (ht : tokF b n s ≠ 12) (hc : c ≤ s) (h : atC b n M s c) (hr : ∀ M, atC b n M (bhdF b n s) c → cOut b n M c (rec σ M) (.inr r)) (hl : r.1.length ≤ r.2 - bhdF b n s) (hl2 : bhdF b n s < r.2) (hl3 : r.2 ≤ n) : ∃ M', (∀ K : gM → Option (Int32 × gM), ((f_X7_advance σ M).bind fun q => (rec σ q).bind fun r => if r.1 = (0 : Int32) then some (0, r.2) else (f_X7_write op σ r.2).bind K) = K M') ∧ atC b n M' r.2 (c + r.1.length + 1) ∧ (∀ j, j < r.1.length → M' 10 (c + j) = r.1.getD j 0) ∧ M' 10 (c + r.1.length) = op ∧ ∀ a j, ¬ (a = 7 ∧ 8 ≤ j ∧ j ≤ 12) → ¬ (a = 10 ∧ c ≤ j) → M' a j = M a j := by
  obtain ⟨M1, q1, q2, q3⟩ := advC (σ := σ) hs h
  obtain ⟨M2, r1, r2, r3, r4⟩ := hr M1 q2
  have := step_s hs ht
  obtain ⟨M3, w1, w2, w3, w4⟩ := write_c (σ := σ) op (by omega) r2
  refine ⟨M3, fun K => by rw [q1, oB, r1, oB, if_neg (show ¬ (1 : Int32) = 0 by decide), w1, oB], w2, fun j hj => by rw [w4 _ _ (by omega) (by omega)]; exact r3 j hj, w3, fun a j h1 h2 => by rw [w4 a j (by omega) (by omega), r4 a j h1 h2, q3 a j (by omega)]⟩
theorem binM_l {σ : gS} {b : Nat → Nat} {n s d : Nat} {A : gM} {N : gN} {f : Nat × Nat} {rec : gS → gM → gN → Option (Int32 × gM × gN)} {α : Type} (hs : s ≤ n) (h : atM b n A N s d) (hr : ∀ A N, atM b n A N (bhdF b n s) d → mOut b n A d (rec σ A N) (.inl f)) : ∃ v A' N', (∀ K : Int32 × gM × gN → Option α, ((f_X12_next σ A N).bind fun q => (rec σ q.1 q.2).bind K) = K (v, A', N')) ∧ A' 40 51 = iN f.1 ∧ A' 40 52 = iN f.2 ∧ ∀ a j, ¬ (a = 40 ∧ 47 ≤ j ∧ j ≤ 52) → A' a j = A a j := by
  obtain ⟨A1, N1, q1, q2, q3⟩ := nextM (σ := σ) hs h
  obtain ⟨v, A2, N2, r1, r2, r3, r4⟩ := hr A1 N1 q2
  exact ⟨v, A2, N2, fun K => by rw [q1, oB, r1, oB], r2, r3, fun a j h1 => by rw [r4 a j h1, q3 a j (by omega)]⟩
theorem binM_r {σ : gS} {b : Nat → Nat} {n s d : Nat} {A : gM} {N : gN} {r : List Int32 × Nat} {rec : gS → gM → gN → Option (Int32 × gM × gN)} {α : Type} (hs : s ≤ n) (h : atM b n A N s d) (hr : ∀ A N, atM b n A N (bhdF b n s) d → mOut b n A d (rec σ A N) (.inr r)) : ∃ v A' N', (∀ K : Int32 × gM × gN → Option α, ((f_X12_next σ A N).bind fun q => (rec σ q.1 q.2).bind K) = K (v, A', N')) ∧ pushI (facts A) r.1 v ∧ atM b n A' N' r.2 d ∧ ∀ a j, ¬ (a = 40 ∧ 47 ≤ j ∧ j ≤ 50) → A' a j = A a j := by
  obtain ⟨A1, N1, q1, q2, q3⟩ := nextM (σ := σ) hs h
  obtain ⟨v, A2, N2, r1, r2, r3, r4⟩ := hr A1 N1 q2
  rw [facts_keep (fun j hj => q3 40 j (by omega))] at r2
  exact ⟨v, A2, N2, fun K => by rw [q1, oB, r1, oB], r2, r3, fun a j h1 => by rw [r4 a j h1, q3 a j (by omega)]⟩
/-- a wrong token -/
theorem wrong_m {σ : gS} {b : Nat → Nat} {n s d : Nat} {A : gM} {N : gN} (h : atM b n A N s d) (x : Int32) : ∃ A', f_X12_wrong x σ A = some A' ∧ A' 40 51 = x ∧ A' 40 52 = iN (plcF b n s) ∧ ∀ a j, ¬ (a = 40 ∧ 47 ≤ j ∧ j ≤ 52) → A' a j = A a j := by
  obtain ⟨h1, h2, h3, h4, h5, h6⟩ := h
  refine ⟨g_up (g_up (g_up A 40 51 x) 40 52 (iN (plcF b n s))) 40 49 0, ?_, ?_, ?_, fun a j h => ?_⟩
  · unfold f_X12_wrong b_X12_wrong_0
    rw [h6, if_neg (by decide), g_up_ne _ _ (by omega), h3]
  · rw [g_up_ne _ _ (by omega), g_up_ne _ _ (by omega), g_up_eq _ _ ⟨rfl, rfl⟩]
  · rw [g_up_ne _ _ (by omega), g_up_eq _ _ ⟨rfl, rfl⟩]
  · rw [g_up_ne _ _ (by omega), g_up_ne _ _ (by omega), g_up_ne _ _ (by omega)]
theorem refuse_c {σ : gS} {b : Nat → Nat} {n s c : Nat} {M : gM} (h : atC b n M s c) (k : Nat) : ∃ M', f_X7_refuse (iN k) σ M = some (0, M') ∧ M' 7 13 = iN (10 * plcF b n s + k) ∧ ∀ a j, ¬ (a = 7 ∧ j = 13) → M' a j = M a j := by
  refine ⟨g_up M 7 13 (iN (10 * plcF b n s + k)), ?_, g_up_eq _ _ ⟨rfl, rfl⟩, fun a j h => g_up_ne _ _ h⟩
  unfold f_X7_refuse b_X7_refuse_0
  rw [h.2.2.1, show (10 : Int32) = iN 10 from rfl, iN_mul, iN_add, Nat.mul_comm]
theorem kind_m {b : Nat → Nat} {n s : Nat} {k : Int32} {v : Int64} (h : mTk b n s k v) : ((k = 2) = (tokF b n s = 11)) ∧ ((k = 0) = (tokF b n s = 12)) := by
  rcases h with ⟨k, t⟩ | ⟨k, t, _⟩ | ⟨k, t, _⟩ | ⟨k, t, v⟩ | ⟨k, t⟩ <;> subst k
  · exact ⟨propext ⟨fun q => absurd q (by decide), fun q => by omega⟩, propext ⟨fun _ => t, fun _ => rfl⟩⟩
  · exact ⟨propext ⟨fun q => absurd q (by decide), fun q => by omega⟩, propext ⟨fun q => absurd q (by decide), fun q => by omega⟩⟩
  · exact ⟨propext ⟨fun _ => t, fun _ => rfl⟩, propext ⟨fun q => absurd q (by decide), fun q => by omega⟩⟩
  · have t' := of_decide_eq_true t
    exact ⟨propext ⟨fun q => absurd q (by decide), fun q => by omega⟩, propext ⟨fun q => absurd q (by decide), fun q => by omega⟩⟩
  · exact ⟨propext ⟨fun q => absurd q (by decide), fun q => by omega⟩, propext ⟨fun q => absurd q (by decide), fun q => by omega⟩⟩
theorem num_v {b : Nat → Nat} {n s : Nat} {k : Int32} {v : Int64} (h : mTk b n s k v) (ht : tokF b n s = 11) : v.toInt32 = iN (nmbF b n s) := by
  rcases h with ⟨k, t⟩ | ⟨k, t, _⟩ | ⟨k, t, e⟩ | ⟨k, t, v⟩ | ⟨k, t⟩
  · omega
  · omega
  · rw [e]
    apply Int32.toBitVec_inj.mp
    show (BitVec.ofNat 64 (nmbF b n s)).signExtend 32 = BitVec.ofNat 32 (nmbF b n s)
    rw [BitVec.signExtend_eq_setWidth_of_le _ (by omega)]
    apply BitVec.eq_of_toNat_eq
    rw [BitVec.toNat_setWidth, BitVec.toNat_ofNat, BitVec.toNat_ofNat]
    omega
  · have t' := of_decide_eq_true t
    omega
  · omega
theorem nmbF_lt {b : Nat → Nat} {n s : Nat} (ht : tokF b n s = 11) : nmbF b n s < 10000 := by
  rcases tokF_c b n s with ⟨g, _⟩ | ⟨g1, g | g | ⟨g, g2, g3⟩ | ⟨g, g2, g3⟩⟩
  · omega
  · omega
  · omega
  · have eb : bhdF b n s = endR digB b n (n - plcF b n s) (plcF b n s) := by unfold bhdF; rw [if_neg (by omega), if_neg (by rw [g2]; decide), if_pos g3]
    unfold nmbF
    have hm : minN (bhdF b n s - plcF b n s) 4 ≤ 4 ∧ minN (bhdF b n s - plcF b n s) 4 ≤ bhdF b n s - plcF b n s := by unfold minN; split <;> omega
    have h1 := numF_le (b := b) (p := plcF b n s) (minN (bhdF b n s - plcF b n s) 4) (fun j hj => endR_all (n - plcF b n s) (plcF b n s) _ (by omega) (by rw [← eb]; omega))
    have h2 : 10 ^ minN (bhdF b n s - plcF b n s) 4 ≤ 10 ^ 4 := Nat.pow_le_pow_right (by omega) hm.1
    omega
  · omega
