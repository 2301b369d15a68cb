/-! read: one parser, both sides: sums, tests, all. -/
theorem join9 (a b : Int32) : joinI (-9) a b = a + b := by unfold joinI; rw [if_pos rfl]
theorem join10 (a b : Int32) : joinI (-10) a b = a - b := by unfold joinI; rw [if_neg (by decide), if_neg (by decide), if_neg (by decide), if_neg (by decide)]
theorem join8 (a b : Int32) : joinI (-8) a b = if a = b then 1 else 0 := by unfold joinI; rw [if_neg (by decide), if_pos rfl]
theorem join7 (a b : Int32) : joinI (-7) a b = if a < b then 1 else 0 := by unfold joinI; rw [if_neg (by decide), if_neg (by decide), if_pos rfl]
theorem join6 (a b : Int32) : joinI (-6) a b = if a = 0 then 0 else if b = 0 then 0 else 1 := by unfold joinI; rw [if_neg (by decide), if_neg (by decide), if_neg (by decide), if_pos rfl]
/-- codes one behind the other -/
theorem codes3 {M M' : gM} {c : Nat} {x y : List Int32} {op : Int32} (h1 : ∀ j, j < x.length → M 10 (c + j) = x.getD j 0) (h2 : ∀ j, j < y.length → M' 10 (c + x.length + j) = y.getD j 0) (h3 : M' 10 (c + x.length + y.length) = op) (fr : ∀ a j, ¬ (a = 7 ∧ 8 ≤ j ∧ j ≤ 12) → ¬ (a = 10 ∧ c + x.length ≤ j) → M' a j = M a j) : ∀ j, j < (x ++ y ++ [op]).length → M' 10 (c + j) = (x ++ y ++ [op]).getD j 0 := by
  refine getD_app (f := fun j => M' 10 (c + j)) (getD_app (fun j hj => ?_) (fun j hj => ?_)) (fun j hj => ?_)
  · show M' 10 (c + j) = _
    rw [fr _ _ (by omega) (by omega)]; exact h1 j hj
  · show M' 10 (c + (x.length + j)) = _
    rw [← Nat.add_assoc]; exact h2 j hj
  · obtain rfl : j = 0 := by simp only [List.length_singleton] at hj; omega
    show M' 10 (c + ((x ++ y).length + 0)) = op
    rw [List.length_append, Nat.add_zero, ← Nat.add_assoc]; exact h3
theorem len3 (x y : List Int32) (op : Int32) : (x ++ y ++ [op]).length = x.length + y.length + 1 := by simp only [List.length_append, List.length_singleton]
theorem sumL {b : Nat → Nat} {n dep w Dc Dm : Nat} (hn : n ≤ 400) (hP : ∀ s, s ≤ n → Sim b n w dep s Dc Dm f_X7_readPart f_X12_part) : ∀ k s s0 (cs0 : List Int32), n - s ≤ k → s0 < s → s ≤ n → cs0.length ≤ s - s0 → okJ cs0 (w + 1) → ∃ res, okRes n (w + 1) s0 res ∧ (∀ c i σ M D f, Dc ≤ D → k < f → i ≤ s → c ≤ s0 → atC b n M s (c + cs0.length) → (∀ j, j < cs0.length → M 10 (c + j) = cs0.getD j 0) → cOut b n M c (l_X7_readSum_12 (f_X7_readPart D) f (iN dep) (iN i) σ M) res) ∧ ∀ v σ A N E f, Dm ≤ E → k < f → pushI (facts A) cs0 v → atM b n A N s dep → mOut b n A dep (l_X12_sum_5 (f_X12_part E) f v σ A N) res := by
  intro k
  induction k with
  | zero =>
    intro s s0 cs0 hk h0 hs hl ho
    have hp := plcF_le (b := b) hs
    have t : tokF b n s = 12 := by
      rcases tokF_c b n s with ⟨g, _⟩ | ⟨g, _⟩
      · exact g
      · omega
    refine ⟨.inr (cs0, s), ⟨h0, hs, hl, ho⟩, fun c i σ M D f hD hf hi hc h hM => ?_, fun v σ A N E f hE hf hv h => ?_⟩
    · obtain ⟨f, rfl⟩ : ∃ m, f = m + 1 := ⟨f - 1, by omega⟩
      refine ⟨M, ?_, h, hM, fun _ _ _ _ => rfl⟩
      rw [l_X7_readSum_12, h.2.1 (by omega), t, if_neg (by decide), if_neg (by decide)]
    · obtain ⟨f, rfl⟩ : ∃ m, f = m + 1 := ⟨f - 1, by omega⟩
      refine ⟨v, A, N, ?_, hv, h, fun _ _ _ => rfl⟩
      rw [l_X12_sum_5, h.2.2.2.2.2, if_pos (show iN 0 = (0 : Int32) from rfl), (sg_m h).2.2.1, oB, ifB, if_neg (by omega), (sg_m h).2.2.2.1, oB, ifB, if_neg (by omega)]
  | succ k ih =>
    intro s s0 cs0 hk h0 hs hl ho
    by_cases t : tokF b n s = 43 ∨ tokF b n s = 45
    · have st := step_s hs (show tokF b n s ≠ 12 by omega)
      obtain ⟨res1, o1, c1, m1⟩ := hP (bhdF b n s) st.2.1
      -- the sign
      obtain ⟨op, hop, ho1, ho2⟩ : ∃ op : Int32, op = (if tokF b n s = 43 then -9 else -10) ∧ op < -5 ∧ -11 < op := by
        by_cases q : tokF b n s = 43
        · exact ⟨-9, by rw [if_pos q], by decide, by decide⟩
        · exact ⟨-10, by rw [if_neg q], by decide, by decide⟩
      have cE : ∀ {c i σ} {M : gM} {D f}, i ≤ s → atC b n M s c → l_X7_readSum_12 (f_X7_readPart D) (f + 1) (iN dep) (iN i) σ M = (f_X7_advance σ M).bind fun q => (f_X7_readPart D (iN dep) σ q).bind fun r => if r.1 = (0 : Int32) then some (0, r.2) else (f_X7_write op σ r.2).bind fun q => l_X7_readSum_12 (f_X7_readPart D) f (iN dep) (iN (i + 1)) σ q := fun {c i σ M D f} hi h => by
        rw [l_X7_readSum_12]
        unfold b_X7_readSum_30 b_X7_readSum_53
        rw [eS, hop, h.2.1 (by omega)]
        by_cases q : tokF b n s = 43
        · rw [if_pos (show iN (tokF b n s) = 43 by rw [q]; rfl), if_pos (show iN i < (400 : Int32) by rw [show (400 : Int32) = iN 400 from rfl, iN_lt (by omega) (by omega)]; omega), if_pos (show iN (tokF b n s) = 43 by rw [q]; rfl), if_pos q]
        · have q' : ¬ iN (tokF b n s) = 43 := by rw [show (43 : Int32) = iN 43 from rfl, tokI (by omega)]; exact q
          rw [if_neg q', if_pos (show iN (tokF b n s) = 45 by rw [show tokF b n s = 45 by omega]; rfl), if_pos (show iN i < (400 : Int32) by rw [show (400 : Int32) = iN 400 from rfl, iN_lt (by omega) (by omega)]; omega), if_neg q', if_neg q]
      have mE : ∀ {v σ} {A : gM} {N : gN} {E f}, atM b n A N s dep → l_X12_sum_5 (f_X12_part E) (f + 1) v σ A N = (f_X12_next σ A N).bind fun q => (f_X12_part E σ q.1 q.2).bind fun q => l_X12_sum_5 (f_X12_part E) f (joinI op v q.1) σ q.2.1 q.2.2 := fun {v σ A N E f} h => by
        rw [l_X12_sum_5, h.2.2.2.2.2, if_pos (show iN 0 = (0 : Int32) from rfl)]
        unfold b_X12_sum_30 b_X12_sum_59
        rw [(sg_m h).2.2.1, oB, ifB, hop]
        by_cases q : tokF b n s = 43
        · rw [if_pos q, oB, if_pos q]
          simp only [ifB, if_pos q, join9]
        · rw [if_neg q, (sg_m h).2.2.2.1, oB, ifB, if_pos (by omega), oB, if_neg q]
          simp only [ifB, if_neg q, join10]
      cases res1 with
      | inl f =>
        refine ⟨.inl f, o1, fun c i σ M D fu hD hf hi hc h hM => ?_, fun v σ A N E fu hE hf hv h => ?_⟩
        · obtain ⟨fu, rfl⟩ : ∃ m, fu = m + 1 := ⟨fu - 1, by omega⟩
          obtain ⟨M', q1, q2, q3⟩ := binC_l (rec := f_X7_readPart D (iN dep)) (op := op) hs (show tokF b n s ≠ 12 by omega) (by omega) h (fun M h => c1 _ σ M D hD (by omega) h)
          exact ⟨M', by rw [cE hi h]; exact q1 _, q2, q3⟩
        · obtain ⟨fu, rfl⟩ : ∃ m, fu = m + 1 := ⟨fu - 1, by omega⟩
          obtain ⟨w', A', N', q1, q2, q3, q4⟩ := binM_l (α := Int32 × gM × gN) (rec := f_X12_part E) hs h (fun A N h => m1 σ A N E hE h)
          have o1' := o1.1
          have o2' := o1.2.1
          obtain ⟨fu, rfl⟩ : ∃ m, fu = m + 1 := ⟨fu - 1, by omega⟩
          refine ⟨joinI op v w', A', N', ?_, q2, q3, q4⟩
          rw [mE h, q1, l_X12_sum_5, if_neg (show ¬ A' 40 51 = 0 by rw [q2, show (0 : Int32) = iN 0 from rfl, iN_inj (by omega) (by omega)]; omega)]
      | inr r =>
        obtain ⟨o1, o2, o3, o4⟩ := o1
        obtain ⟨res, p1, p2, p3⟩ := ih r.2 s0 (cs0 ++ r.1 ++ [op]) (by omega) (by omega) o2 (by rw [len3]; omega) (okJ_op ho o4 ho1 ho2)
        refine ⟨res, p1, fun c i σ M D fu hD hf hi hc h hM => ?_, fun v σ A N E fu hE hf hv h => ?_⟩
        · obtain ⟨fu, rfl⟩ : ∃ m, fu = m + 1 := ⟨fu - 1, by omega⟩
          obtain ⟨M', q1, q2, q3, q4, q5⟩ := binC_r (rec := f_X7_readPart D (iN dep)) (op := op) hs hn (show tokF b n s ≠ 12 by omega) (by omega) h (fun M h => c1 _ σ M D hD (by omega) h) o3 o1 o2
          have := p2 c (i + 1) σ M' D fu hD (by omega) (by omega) hc (by rw [len3, ← Nat.add_assoc, ← Nat.add_assoc]; exact q2) (codes3 hM q3 q4 q5)
          rw [cE hi h, q1]
          cases res with
          | inl f =>
            obtain ⟨M2, u1, u2, u3⟩ := this
            exact ⟨M2, u1, u2, fun a j h1 h2 => by rw [u3 a j h1 h2, q5 a j (by omega) (by omega)]⟩
          | inr r2 =>
            obtain ⟨M2, u1, u2, u3, u4⟩ := this
            exact ⟨M2, u1, u2, u3, fun a j h1 h2 => by rw [u4 a j h1 h2, q5 a j h1 (by omega)]⟩
        · obtain ⟨fu, rfl⟩ : ∃ m, fu = m + 1 := ⟨fu - 1, by omega⟩
          obtain ⟨w', A', N', q1, q2, q3, q4⟩ := binM_r (α := Int32 × gM × gN) (rec := f_X12_part E) hs h (fun A N h => m1 σ A N E hE h)
          have fe : facts A' = facts A := facts_keep (fun j hj => q4 40 j (by omega))
          have := p3 (joinI op v w') σ A' N' E fu hE (by omega) (by rw [fe]; exact push_op hv q2 ho1) q3
          rw [mE h, q1]
          cases res with
          | inl f =>
            obtain ⟨v2, A2, N2, u1, u2, u3, u4⟩ := this
            exact ⟨v2, A2, N2, u1, u2, u3, fun a j h1 => by rw [u4 a j h1, q4 a j (by omega)]⟩
          | inr r2 =>
            obtain ⟨v2, A2, N2, u1, u2, u3, u4⟩ := this
            exact ⟨v2, A2, N2, u1, by rw [← fe]; exact u2, u3, fun a j h1 => by rw [u4 a j h1, q4 a j h1]⟩
    · refine ⟨.inr (cs0, s), ⟨h0, hs, hl, ho⟩, fun c i σ M D f hD hf hi hc h hM => ?_, fun v σ A N E f hE hf hv h => ?_⟩
      · obtain ⟨f, rfl⟩ : ∃ m, f = m + 1 := ⟨f - 1, by omega⟩
        refine ⟨M, ?_, h, hM, fun _ _ _ _ => rfl⟩
        rw [l_X7_readSum_12, if_neg (show ¬ M 7 11 = 43 from fun q => t (Or.inl ((tokC (k := 43) h (by omega)).mp q))), if_neg (show ¬ M 7 11 = 45 from fun q => t (Or.inr ((tokC (k := 45) h (by omega)).mp q)))]
      · obtain ⟨f, rfl⟩ : ∃ m, f = m + 1 := ⟨f - 1, by omega⟩
        refine ⟨v, A, N, ?_, hv, h, fun _ _ _ => rfl⟩
        rw [l_X12_sum_5, h.2.2.2.2.2, if_pos (show iN 0 = (0 : Int32) from rfl), (sg_m h).2.2.1, oB, ifB, if_neg (by omega), (sg_m h).2.2.2.1, oB, ifB, if_neg (by omega)]
theorem sim_sum {b : Nat → Nat} {n dep w Dc Dm : Nat} (hn : n ≤ 400) (hP : ∀ s, s ≤ n → Sim b n w dep s Dc Dm f_X7_readPart f_X12_part) : ∀ s, s ≤ n → Sim b n (w + 1) dep s (Dc + 1) (Dm + 1) f_X7_readSum f_X12_sum := by
  intro s hs
  have cU : ∀ D σ M, f_X7_readSum (D + 1) (iN dep) σ M = b_X7_readSum_0 (f_X7_readPart D) (iN dep) σ M := fun _ _ _ => rfl
  have mU : ∀ E σ A N, f_X12_sum (E + 1) σ A N = b_X12_sum_0 (f_X12_part E) σ A N := fun _ _ _ _ => rfl
  obtain ⟨res1, o1, c1, m1⟩ := hP s hs
  cases res1 with
  | inl f =>
    refine ⟨.inl f, o1, fun c σ M D hD hc h => ?_, fun σ A N E hE h => ?_⟩
    · obtain ⟨D, rfl⟩ : ∃ m, D = m + 1 := ⟨D - 1, by omega⟩
      obtain ⟨M', q1, q2, q3⟩ := c1 c σ M D (by omega) hc h
      refine ⟨M', ?_, q2, q3⟩
      rw [cU]
      unfold b_X7_readSum_0
      rw [q1, oB, if_pos rfl]
    · obtain ⟨E, rfl⟩ : ∃ m, E = m + 1 := ⟨E - 1, by omega⟩
      obtain ⟨v, A', N', q1, q2, q3, q4⟩ := m1 σ A N E (by omega) h
      have o1' := o1.1
      have o2' := o1.2.1
      refine ⟨v, A', N', ?_, q2, q3, q4⟩
      rw [mU]
      unfold b_X12_sum_0
      rw [q1, oB, show g_FU = 99999 + 1 from rfl, l_X12_sum_5, if_neg (show ¬ A' 40 51 = 0 by rw [q2, show (0 : Int32) = iN 0 from rfl, iN_inj (by omega) (by omega)]; omega)]
  | inr r =>
    obtain ⟨o1, o2, o3, o4⟩ := o1
    obtain ⟨res, p1, p2, p3⟩ := sumL hn hP n r.2 s r.1 (by omega) o1 o2 o3 (okJ_mono o4 (by omega))
    refine ⟨res, p1, fun c σ M D hD hc h => ?_, fun σ A N E hE h => ?_⟩
    · obtain ⟨D, rfl⟩ : ∃ m, D = m + 1 := ⟨D - 1, by omega⟩
      obtain ⟨M', q1, q2, q3, q4⟩ := c1 c σ M D (by omega) hc h
      have := p2 c 0 σ M' D g_FU (by omega) (by unfold g_FU; omega) (by omega) hc q2 q3
      rw [cU]
      unfold b_X7_readSum_0
      rw [q1, oB, if_neg (show ¬ (1 : Int32) = 0 by decide)]
      cases res with
      | inl f =>
        obtain ⟨M2, u1, u2, u3⟩ := this
        exact ⟨M2, u1, u2, fun a j h1 h2 => by rw [u3 a j h1 h2, q4 a j (by omega) (by omega)]⟩
      | inr r2 =>
        obtain ⟨M2, u1, u2, u3, u4⟩ := this
        exact ⟨M2, u1, u2, u3, fun a j h1 h2 => by rw [u4 a j h1 h2, q4 a j h1 h2]⟩
    · obtain ⟨E, rfl⟩ : ∃ m, E = m + 1 := ⟨E - 1, by omega⟩
      obtain ⟨v, A', N', q1, q2, q3, q4⟩ := m1 σ A N E (by omega) h
      have fe : facts A' = facts A := facts_keep (fun j hj => q4 40 j (by omega))
      have := p3 v σ A' N' E g_FU (by omega) (by unfold g_FU; omega) (by rw [fe]; exact q2) q3
      rw [mU]
      unfold b_X12_sum_0
      rw [q1, oB]
      cases res with
      | inl f =>
        obtain ⟨v2, A2, N2, u1, u2, u3, u4⟩ := this
        exact ⟨v2, A2, N2, u1, u2, u3, fun a j h1 => by rw [u4 a j h1, q4 a j (by omega)]⟩
      | inr r2 =>
        obtain ⟨v2, A2, N2, u1, u2, u3, u4⟩ := this
        exact ⟨v2, A2, N2, u1, by rw [← fe]; exact u2, u3, fun a j h1 => by rw [u4 a j h1, q4 a j h1]⟩
