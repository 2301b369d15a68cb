/-! read: one parser, both sides: tests, all. -/
theorem sim_test {b : Nat → Nat} {n dep w Dc Dm : Nat} (hn : n ≤ 400) (hP : ∀ s, s ≤ n → Sim b n w dep s Dc Dm f_X7_readSum f_X12_sum) : ∀ s, s ≤ n → Sim b n (w + 1) dep s (Dc + 1) (Dm + 1) f_X7_readTest f_X12_test := by
  intro s hs
  have cU : ∀ D σ M, f_X7_readTest (D + 1) (iN dep) σ M = b_X7_readTest_0 (f_X7_readSum D) (iN dep) σ M := fun _ _ _ => rfl
  have mU : ∀ E σ A N, f_X12_test (E + 1) σ A N = b_X12_test_0 (f_X12_sum E) σ A N := fun _ _ _ _ => rfl
  obtain ⟨res1, o1, c1, m1⟩ := hP s hs
  cases res1 with
  | inl f =>
    refine ⟨.inl f, o1, fun c σ M D hD hc h => ?_, fun σ A N E hE h => ?_⟩
    · obtain ⟨D, rfl⟩ : ∃ m, D = m + 1 := ⟨D - 1, by omega⟩
      obtain ⟨M', q1, q2, q3⟩ := c1 c σ M D (by omega) hc h
      refine ⟨M', ?_, q2, q3⟩
      rw [cU]
      unfold b_X7_readTest_0
      rw [q1, oB, if_pos rfl]
    · obtain ⟨E, rfl⟩ : ∃ m, E = m + 1 := ⟨E - 1, by omega⟩
      obtain ⟨v, A', N', q1, q2, q3, q4⟩ := m1 σ A N E (by omega) h
      have o1' := o1.1
      have o2' := o1.2.1
      refine ⟨v, A', N', ?_, q2, q3, q4⟩
      rw [mU]
      unfold b_X12_test_0
      rw [q1, oB, if_pos (show (0 : Int32) < A' 40 51 by rw [q2, show (0 : Int32) = iN 0 from rfl, iN_lt (by omega) (by omega)]; omega)]
  | inr r =>
    obtain ⟨o1, o2, o3, o4⟩ := o1
    have cF : ∀ {c σ} {M : gM} {D}, Dc ≤ D → c ≤ s → atC b n M s c → ∃ M', f_X7_readSum D (iN dep) σ M = some (1, M') ∧ atC b n M' r.2 (c + r.1.length) ∧ (∀ j, j < r.1.length → M' 10 (c + j) = r.1.getD j 0) ∧ ∀ a j, ¬ (a = 7 ∧ 8 ≤ j ∧ j ≤ 12) → ¬ (a = 10 ∧ c ≤ j) → M' a j = M a j := fun {c σ M D} hD hc h => c1 c σ M D hD hc h
    have mF : ∀ {σ} {A : gM} {N : gN} {E}, Dm ≤ E → atM b n A N s dep → ∃ v A' N', f_X12_sum E σ A N = some (v, A', N') ∧ pushI (facts A) r.1 v ∧ atM b n A' N' r.2 dep ∧ ∀ a j, ¬ (a = 40 ∧ 47 ≤ j ∧ j ≤ 50) → A' a j = A a j := fun {σ A N E} hE h => m1 σ A N E hE h
    by_cases t : tokF b n r.2 = 60 ∨ tokF b n r.2 = 61
    · have st := step_s o2 (show tokF b n r.2 ≠ 12 by omega)
      obtain ⟨op, hop, ho1, ho2⟩ : ∃ op : Int32, op = (if tokF b n r.2 = 60 then -7 else -8) ∧ op < -5 ∧ -11 < op := by
        by_cases q : tokF b n r.2 = 60
        · exact ⟨-7, by rw [if_pos q], by decide, by decide⟩
        · exact ⟨-8, by rw [if_neg q], by decide, by decide⟩
      have cE : ∀ {c σ} {M M1 : gM} {D}, f_X7_readSum D (iN dep) σ M = some (1, M1) → atC b n M1 r.2 c → b_X7_readTest_0 (f_X7_readSum D) (iN dep) σ M = (f_X7_advance σ M1).bind fun q => (f_X7_readSum D (iN dep) σ q).bind fun r => if r.1 = (0 : Int32) then some (0, r.2) else (f_X7_write op σ r.2).bind fun q => some (1, q) := fun {c σ M M1 D} q1 h => by
        unfold b_X7_readTest_0 b_X7_readTest_30 b_X7_readTest_46
        rw [q1, oB, if_neg (show ¬ (1 : Int32) = 0 by decide), hop]
        have e60 := tokC (k := 60) h (by omega)
        have e61 := tokC (k := 61) h (by omega)
        by_cases q : tokF b n r.2 = 60
        · have q' : M1 7 11 = 60 := e60.mpr q
          rw [if_pos q', if_pos q', if_pos q]
        · have q' : ¬ M1 7 11 = 60 := fun x => q (e60.mp x)
          rw [if_neg q', if_pos (show M1 7 11 = 61 from e61.mpr (by omega)), if_neg q', if_neg q]
      have mE : ∀ {v σ} {A A1 : gM} {N N1 : gN} {E}, f_X12_sum E σ A N = some (v, A1, N1) → atM b n A1 N1 r.2 dep → b_X12_test_0 (f_X12_sum E) σ A N = (f_X12_next σ A1 N1).bind fun q => (f_X12_sum E σ q.1 q.2).bind fun q => some (joinI op v q.1, q.2.1, q.2.2) := fun {v σ A A1 N N1 E} q1 h => by
        unfold b_X12_test_0 b_X12_test_32 b_X12_test_65
        rw [q1, oB, if_neg (show ¬ (0 : Int32) < A1 40 51 by rw [h.2.2.2.2.2]; decide), hop]
        by_cases q : tokF b n r.2 = 60
        · rw [(sg_m h).2.2.2.2.2.1, oB, ifB, if_pos q, oB, if_pos q]
          simp only [ifB, if_pos q, join7]
          congr 1
          funext q
          congr 1
          funext q
          by_cases z : v < q.1
          · rw [if_pos z, if_pos z]
          · rw [if_neg z, if_neg z]
        · rw [(sg_m h).2.2.2.2.2.1, oB, ifB, if_neg q, (sg_m h).2.2.2.2.2.2, oB, ifB, if_pos (by omega), oB, if_neg q]
          simp only [ifB, if_neg q, join8]
          congr 1
          funext q
          congr 1
          funext q
          by_cases z : v = q.1
          · rw [if_pos z, if_pos z]
          · rw [if_neg z, if_neg z]
      obtain ⟨res2, p0, c2, m2⟩ := hP (bhdF b n r.2) st.2.1
      cases res2 with
      | inl f =>
        refine ⟨.inl f, p0, fun c σ M D hD hc h => ?_, fun σ A N E hE h => ?_⟩
        · obtain ⟨D, rfl⟩ : ∃ m, D = m + 1 := ⟨D - 1, by omega⟩
          obtain ⟨M1, q1, q2, q3, q4⟩ := cF (σ := σ) (show Dc ≤ D by omega) hc h
          obtain ⟨M', u1, u2, u3⟩ := binC_l (rec := f_X7_readSum D (iN dep)) (op := op) o2 (show tokF b n r.2 ≠ 12 by omega) (by omega) q2 (fun M h => c2 _ σ M D (by omega) (by omega) h)
          exact ⟨M', by rw [cU, cE q1 q2]; exact u1 _, u2, fun a j h1 h2 => by rw [u3 a j h1 h2, q4 a j (by omega) (by omega)]⟩
        · obtain ⟨E, rfl⟩ : ∃ m, E = m + 1 := ⟨E - 1, by omega⟩
          obtain ⟨v, A1, N1, q1, q2, q3, q4⟩ := mF (σ := σ) (show Dm ≤ E by omega) h
          obtain ⟨w', A', N', u1, u2, u3, u4⟩ := binM_l (α := Int32 × gM × gN) (rec := f_X12_sum E) o2 q3 (fun A N h => m2 σ A N E (by omega) h)
          exact ⟨joinI op v w', A', N', by rw [mU, mE q1 q3]; exact u1 _, u2, u3, fun a j h1 => by rw [u4 a j h1, q4 a j (by omega)]⟩
      | inr r2 =>
        obtain ⟨p1, p2, p3, p4⟩ := p0
        refine ⟨.inr (r.1 ++ r2.1 ++ [op], r2.2), ⟨by simp only; omega, p2, by simp only [len3]; omega, okJ_op (okJ_mono o4 (by omega)) p4 ho1 ho2⟩, fun c σ M D hD hc h => ?_, fun σ A N E hE h => ?_⟩
        · obtain ⟨D, rfl⟩ : ∃ m, D = m + 1 := ⟨D - 1, by omega⟩
          obtain ⟨M1, q1, q2, q3, q4⟩ := cF (σ := σ) (show Dc ≤ D by omega) hc h
          obtain ⟨M', u1, u2, u3, u4, u5⟩ := binC_r (rec := f_X7_readSum D (iN dep)) (op := op) o2 hn (show tokF b n r.2 ≠ 12 by omega) (by omega) q2 (fun M h => c2 _ σ M D (by omega) (by omega) h) p3 p1 p2
          exact ⟨M', by rw [cU, cE q1 q2]; exact u1 _, by simp only [len3]; rw [← Nat.add_assoc, ← Nat.add_assoc]; exact u2, codes3 q3 u3 u4 u5, fun a j h1 h2 => by rw [u5 a j h1 (by omega), q4 a j h1 h2]⟩
        · obtain ⟨E, rfl⟩ : ∃ m, E = m + 1 := ⟨E - 1, by omega⟩
          obtain ⟨v, A1, N1, q1, q2, q3, q4⟩ := mF (σ := σ) (show Dm ≤ E by omega) h
          obtain ⟨w', A', N', u1, u2, u3, u4⟩ := binM_r (α := Int32 × gM × gN) (rec := f_X12_sum E) o2 q3 (fun A N h => m2 σ A N E (by omega) h)
          rw [facts_keep (fun j hj => q4 40 j (by omega))] at u2
          exact ⟨joinI op v w', A', N', by rw [mU, mE q1 q3]; exact u1 _, push_op q2 u2 ho1, u3, fun a j h1 => by rw [u4 a j h1, q4 a j h1]⟩
    · refine ⟨.inr r, ⟨o1, o2, o3, okJ_mono o4 (by omega)⟩, fun c σ M D hD hc h => ?_, fun σ A N E hE h => ?_⟩
      · obtain ⟨D, rfl⟩ : ∃ m, D = m + 1 := ⟨D - 1, by omega⟩
        obtain ⟨M1, q1, q2, q3, q4⟩ := cF (σ := σ) (show Dc ≤ D by omega) hc h
        refine ⟨M1, ?_, q2, q3, q4⟩
        rw [cU]
        unfold b_X7_readTest_0
        rw [q1, oB, if_neg (show ¬ (1 : Int32) = 0 by decide), if_neg (show ¬ M1 7 11 = 60 from fun q => t (Or.inl ((tokC (k := 60) q2 (by omega)).mp q))), if_neg (show ¬ M1 7 11 = 61 from fun q => t (Or.inr ((tokC (k := 61) q2 (by omega)).mp q)))]
      · obtain ⟨E, rfl⟩ : ∃ m, E = m + 1 := ⟨E - 1, by omega⟩
        obtain ⟨v, A1, N1, q1, q2, q3, q4⟩ := mF (σ := σ) (show Dm ≤ E by omega) h
        refine ⟨v, A1, N1, ?_, q2, q3, q4⟩
        rw [mU]
        unfold b_X12_test_0
        rw [q1, oB, if_neg (show ¬ (0 : Int32) < A1 40 51 by rw [q3.2.2.2.2.2]; decide), (sg_m q3).2.2.2.2.2.1, oB, ifB, if_neg (by omega), (sg_m q3).2.2.2.2.2.2, oB, ifB, if_neg (by omega)]
theorem allL {b : Nat → Nat} {n dep w Dc Dm : Nat} (hn : n ≤ 400) (hP : ∀ s, s ≤ n → Sim b n w dep s Dc Dm f_X7_readTest f_X12_test) : ∀ k s s0 (cs0 : List Int32), n - s ≤ k → s0 < s → s ≤ n → cs0.length ≤ s - s0 → okJ cs0 (w + 1) → ∃ res, okRes n (w + 1) s0 res ∧ (∀ c i σ M D f, Dc ≤ D → k < f → i ≤ s → c ≤ s0 → atC b n M s (c + cs0.length) → (∀ j, j < cs0.length → M 10 (c + j) = cs0.getD j 0) → cOut b n M c (l_X7_readAll_12 (f_X7_readTest D) f (iN dep) (iN i) σ M) res) ∧ ∀ v σ A N E f, Dm ≤ E → k < f → pushI (facts A) cs0 v → atM b n A N s dep → mOut b n A dep (l_X12_whole_5 (f_X12_test E) f v σ A N) res := by
  have stop : ∀ k s s0 (cs0 : List Int32), tokF b n s ≠ 5 → s0 < s → s ≤ n → cs0.length ≤ s - s0 → okJ cs0 (w + 1) → ∃ res, okRes n (w + 1) s0 res ∧ (∀ c i σ M D f, Dc ≤ D → k < f → i ≤ s → c ≤ s0 → atC b n M s (c + cs0.length) → (∀ j, j < cs0.length → M 10 (c + j) = cs0.getD j 0) → cOut b n M c (l_X7_readAll_12 (f_X7_readTest D) f (iN dep) (iN i) σ M) res) ∧ ∀ v σ A N E f, Dm ≤ E → k < f → pushI (facts A) cs0 v → atM b n A N s dep → mOut b n A dep (l_X12_whole_5 (f_X12_test E) f v σ A N) res := by
    intro k s s0 cs0 t h0 hs hl ho
    refine ⟨.inr (cs0, s), ⟨h0, hs, hl, ho⟩, fun c i σ M D f hD hf hi hc h hM => ?_, fun v σ A N E f hE hf hv h => ?_⟩
    · obtain ⟨f, rfl⟩ : ∃ m, f = m + 1 := ⟨f - 1, by omega⟩
      refine ⟨M, ?_, h, hM, fun _ _ _ _ => rfl⟩
      rw [l_X7_readAll_12, if_neg (show ¬ M 7 11 = 5 from fun q => t ((tokC (k := 5) h (by omega)).mp q))]
    · obtain ⟨f, rfl⟩ : ∃ m, f = m + 1 := ⟨f - 1, by omega⟩
      refine ⟨v, A, N, ?_, hv, h, fun _ _ _ => rfl⟩
      rw [l_X12_whole_5, h.2.2.2.2.2, if_pos (show iN 0 = (0 : Int32) from rfl), (wd_m h).2.2.2.2.2.1, oB, ifB, if_neg t]
  intro k
  induction k with
  | zero =>
    intro s s0 cs0 hk h0 hs hl ho
    have hp := plcF_le (b := b) hs
    refine stop 0 s s0 cs0 ?_ h0 hs hl ho
    rcases tokF_c b n s with ⟨g, _⟩ | ⟨g, _⟩
    · omega
    · omega
  | succ k ih =>
    intro s s0 cs0 hk h0 hs hl ho
    by_cases t : tokF b n s = 5
    · have st := step_s hs (show tokF b n s ≠ 12 by omega)
      obtain ⟨res1, o1, c1, m1⟩ := hP (bhdF b n s) st.2.1
      have ho1 : (-6 : Int32) < -5 := by decide
      have ho2 : (-11 : Int32) < -6 := by decide
      have cE : ∀ {c i σ} {M : gM} {D f}, i ≤ s → atC b n M s c → l_X7_readAll_12 (f_X7_readTest D) (f + 1) (iN dep) (iN i) σ M = (f_X7_advance σ M).bind fun q => (f_X7_readTest D (iN dep) σ q).bind fun r => if r.1 = (0 : Int32) then some (0, r.2) else (f_X7_write (-6) σ r.2).bind fun q => l_X7_readAll_12 (f_X7_readTest D) f (iN dep) (iN (i + 1)) σ q := fun {c i σ M D f} hi h => by
        rw [l_X7_readAll_12, eS, if_pos (show M 7 11 = 5 from (tokC (k := 5) h (by omega)).mpr t), if_pos (show iN i < (400 : Int32) by rw [show (400 : Int32) = iN 400 from rfl, iN_lt (by omega) (by omega)]; omega)]
      have mE : ∀ {v σ} {A : gM} {N : gN} {E f}, atM b n A N s dep → l_X12_whole_5 (f_X12_test E) (f + 1) v σ A N = (f_X12_next σ A N).bind fun q => (f_X12_test E σ q.1 q.2).bind fun q => l_X12_whole_5 (f_X12_test E) f (joinI (-6) v q.1) σ q.2.1 q.2.2 := fun {v σ A N E f} h => by
        rw [l_X12_whole_5, h.2.2.2.2.2, if_pos (show iN 0 = (0 : Int32) from rfl)]
        unfold b_X12_whole_43 b_X12_whole_44
        rw [(wd_m h).2.2.2.2.2.1, oB, ifB, if_pos t]
        simp only [join6]
        congr 1
        funext q
        congr 1
        funext q
        by_cases z : v = 0
        · rw [if_pos z, if_pos z]
        · rw [if_neg z, if_neg z]
          by_cases z2 : q.1 = 0
          · rw [if_pos z2, if_pos z2]
          · rw [if_neg z2, if_neg z2]
      cases res1 with
      | inl f =>
        refine ⟨.inl f, o1, fun c i σ M D fu hD hf hi hc h hM => ?_, fun v σ A N E fu hE hf hv h => ?_⟩
        · obtain ⟨fu, rfl⟩ : ∃ m, fu = m + 1 := ⟨fu - 1, by omega⟩
          obtain ⟨M', q1, q2, q3⟩ := binC_l (rec := f_X7_readTest D (iN dep)) (op := -6) hs (show tokF b n s ≠ 12 by omega) (by omega) h (fun M h => c1 _ σ M D hD (by omega) h)
          exact ⟨M', by rw [cE hi h]; exact q1 _, q2, q3⟩
        · obtain ⟨fu, rfl⟩ : ∃ m, fu = m + 1 := ⟨fu - 1, by omega⟩
          obtain ⟨w', A', N', q1, q2, q3, q4⟩ := binM_l (α := Int32 × gM × gN) (rec := f_X12_test E) hs h (fun A N h => m1 σ A N E hE h)
          have o1' := o1.1
          have o2' := o1.2.1
          obtain ⟨fu, rfl⟩ : ∃ m, fu = m + 1 := ⟨fu - 1, by omega⟩
          refine ⟨joinI (-6) v w', A', N', ?_, q2, q3, q4⟩
          rw [mE h, q1, l_X12_whole_5, if_neg (show ¬ A' 40 51 = 0 by rw [q2, show (0 : Int32) = iN 0 from rfl, iN_inj (by omega) (by omega)]; omega)]
      | inr r =>
        obtain ⟨o1, o2, o3, o4⟩ := o1
        obtain ⟨res, p1, p2, p3⟩ := ih r.2 s0 (cs0 ++ r.1 ++ [-6]) (by omega) (by omega) o2 (by rw [len3]; omega) (okJ_op ho o4 ho1 ho2)
        refine ⟨res, p1, fun c i σ M D fu hD hf hi hc h hM => ?_, fun v σ A N E fu hE hf hv h => ?_⟩
        · obtain ⟨fu, rfl⟩ : ∃ m, fu = m + 1 := ⟨fu - 1, by omega⟩
          obtain ⟨M', q1, q2, q3, q4, q5⟩ := binC_r (rec := f_X7_readTest D (iN dep)) (op := -6) hs hn (show tokF b n s ≠ 12 by omega) (by omega) h (fun M h => c1 _ σ M D hD (by omega) h) o3 o1 o2
          have := p2 c (i + 1) σ M' D fu hD (by omega) (by omega) hc (by rw [len3, ← Nat.add_assoc, ← Nat.add_assoc]; exact q2) (codes3 hM q3 q4 q5)
          rw [cE hi h, q1]
          cases res with
          | inl f =>
            obtain ⟨M2, u1, u2, u3⟩ := this
            exact ⟨M2, u1, u2, fun a j h1 h2 => by rw [u3 a j h1 h2, q5 a j (by omega) (by omega)]⟩
          | inr r2 =>
            obtain ⟨M2, u1, u2, u3, u4⟩ := this
            exact ⟨M2, u1, u2, u3, fun a j h1 h2 => by rw [u4 a j h1 h2, q5 a j h1 (by omega)]⟩
        · obtain ⟨fu, rfl⟩ : ∃ m, fu = m + 1 := ⟨fu - 1, by omega⟩
          obtain ⟨w', A', N', q1, q2, q3, q4⟩ := binM_r (α := Int32 × gM × gN) (rec := f_X12_test E) hs h (fun A N h => m1 σ A N E hE h)
          have fe : facts A' = facts A := facts_keep (fun j hj => q4 40 j (by omega))
          have := p3 (joinI (-6) v w') σ A' N' E fu hE (by omega) (by rw [fe]; exact push_op hv q2 ho1) q3
          rw [mE h, q1]
          cases res with
          | inl f =>
            obtain ⟨v2, A2, N2, u1, u2, u3, u4⟩ := this
            exact ⟨v2, A2, N2, u1, u2, u3, fun a j h1 => by rw [u4 a j h1, q4 a j (by omega)]⟩
          | inr r2 =>
            obtain ⟨v2, A2, N2, u1, u2, u3, u4⟩ := this
            exact ⟨v2, A2, N2, u1, by rw [← fe]; exact u2, u3, fun a j h1 => by rw [u4 a j h1, q4 a j h1]⟩
    · exact stop (k + 1) s s0 cs0 t h0 hs hl ho
theorem sim_all {b : Nat → Nat} {n dep w Dc Dm : Nat} (hn : n ≤ 400) (hP : ∀ s, s ≤ n → Sim b n w dep s Dc Dm f_X7_readTest f_X12_test) : ∀ s, s ≤ n → Sim b n (w + 1) dep s (Dc + 1) (Dm + 1) f_X7_readAll f_X12_whole := by
  intro s hs
  have cU : ∀ D σ M, f_X7_readAll (D + 1) (iN dep) σ M = b_X7_readAll_0 (f_X7_readTest D) (iN dep) σ M := fun _ _ _ => rfl
  have mU : ∀ E σ A N, f_X12_whole (E + 1) σ A N = b_X12_whole_0 (f_X12_test E) σ A N := fun _ _ _ _ => rfl
  obtain ⟨res1, o1, c1, m1⟩ := hP s hs
  cases res1 with
  | inl f =>
    refine ⟨.inl f, o1, fun c σ M D hD hc h => ?_, fun σ A N E hE h => ?_⟩
    · obtain ⟨D, rfl⟩ : ∃ m, D = m + 1 := ⟨D - 1, by omega⟩
      obtain ⟨M', q1, q2, q3⟩ := c1 c σ M D (by omega) hc h
      refine ⟨M', ?_, q2, q3⟩
      rw [cU]
      unfold b_X7_readAll_0
      rw [q1, oB, if_pos rfl]
    · obtain ⟨E, rfl⟩ : ∃ m, E = m + 1 := ⟨E - 1, by omega⟩
      obtain ⟨v, A', N', q1, q2, q3, q4⟩ := m1 σ A N E (by omega) h
      have o1' := o1.1
      have o2' := o1.2.1
      refine ⟨v, A', N', ?_, q2, q3, q4⟩
      rw [mU]
      unfold b_X12_whole_0
      rw [q1, oB, show g_FU = 99999 + 1 from rfl, l_X12_whole_5, if_neg (show ¬ A' 40 51 = 0 by rw [q2, show (0 : Int32) = iN 0 from rfl, iN_inj (by omega) (by omega)]; omega)]
  | inr r =>
    obtain ⟨o1, o2, o3, o4⟩ := o1
    obtain ⟨res, p1, p2, p3⟩ := allL hn hP n r.2 s r.1 (by omega) o1 o2 o3 (okJ_mono o4 (by omega))
    refine ⟨res, p1, fun c σ M D hD hc h => ?_, fun σ A N E hE h => ?_⟩
    · obtain ⟨D, rfl⟩ : ∃ m, D = m + 1 := ⟨D - 1, by omega⟩
      obtain ⟨M', q1, q2, q3, q4⟩ := c1 c σ M D (by omega) hc h
      have := p2 c 0 σ M' D g_FU (by omega) (by unfold g_FU; omega) (by omega) hc q2 q3
      rw [cU]
      unfold b_X7_readAll_0
      rw [q1, oB, if_neg (show ¬ (1 : Int32) = 0 by decide)]
      cases res with
      | inl f =>
        obtain ⟨M2, u1, u2, u3⟩ := this
        exact ⟨M2, u1, u2, fun a j h1 h2 => by rw [u3 a j h1 h2, q4 a j (by omega) (by omega)]⟩
      | inr r2 =>
        obtain ⟨M2, u1, u2, u3, u4⟩ := this
        exact ⟨M2, u1, u2, u3, fun a j h1 h2 => by rw [u4 a j h1 h2, q4 a j h1 h2]⟩
    · obtain ⟨E, rfl⟩ : ∃ m, E = m + 1 := ⟨E - 1, by omega⟩
      obtain ⟨v, A', N', q1, q2, q3, q4⟩ := m1 σ A N E (by omega) h
      have fe : facts A' = facts A := facts_keep (fun j hj => q4 40 j (by omega))
      have := p3 v σ A' N' E g_FU (by omega) (by unfold g_FU; omega) (by rw [fe]; exact q2) q3
      rw [mU]
      unfold b_X12_whole_0
      rw [q1, oB]
      cases res with
      | inl f =>
        obtain ⟨v2, A2, N2, u1, u2, u3, u4⟩ := this
        exact ⟨v2, A2, N2, u1, u2, u3, fun a j h1 => by rw [u4 a j h1, q4 a j (by omega)]⟩
      | inr r2 =>
        obtain ⟨v2, A2, N2, u1, u2, u3, u4⟩ := this
        exact ⟨v2, A2, N2, u1, by rw [← fe]; exact u2, u3, fun a j h1 => by rw [u4 a j h1, q4 a j h1]⟩
theorem sim_E {b : Nat → Nat} {n : Nat} (hn : n ≤ 400) : ∀ k, k ≤ 5 → ∀ s, s ≤ n → Sim b n (4 + 3 * k) (5 - k) s (4 + 4 * k) (4 + 4 * k) f_X7_readAll f_X12_whole := by
  intro k
  induction k with
  | zero =>
    intro _
    exact sim_all hn (sim_test hn (sim_sum hn (sim_part (Dc := 0) (Dm := 0) hn (by omega) (by omega) (fun h => by omega))))
  | succ k ih =>
    intro hk
    have e : 5 - (k + 1) + 1 = 5 - k := by omega
    have := sim_all hn (sim_test hn (sim_sum hn (sim_part (dep := 5 - (k + 1)) (w := 4 + 3 * k) (Dc := 4 + 4 * k) (Dm := 4 + 4 * k) hn (by omega) (by omega) (fun _ => by rw [e]; exact ih (by omega)))))
    exact this
/-- an E, from its first token on -/
theorem sim_top {b : Nat → Nat} {n : Nat} (hn : n ≤ 400) : ∀ s, s ≤ n → Sim b n 19 0 s 24 24 f_X7_readAll f_X12_whole := sim_E hn 5 (by omega)
