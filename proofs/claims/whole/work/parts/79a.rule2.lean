/-! read: a rule, both sides: put together. -/
theorem iteC {α : Type} {p q : Prop} [Decidable p] [Decidable q] {x y : α} (h : p ↔ q) : (if p then x else y) = if q then x else y := by
  by_cases c : p
  · rw [if_pos c, if_pos (h.mp c)]
  · rw [if_neg c, if_neg (fun z => c (h.mpr z))]
theorem rule_c {σ : gS} {b : Nat → Nat} {n s c i : Nat} {M : gM} (hs : s ≤ n) (hi : i < 12) (h : atC b n M s c) (h5 : M 7 7 = iN i) (ht : tokF b n s ≤ 3) : ∃ M1, atC b n M1 (bhdF b n s) c ∧ M1 8 i = iN (tokF b n s) ∧ M1 9 (3 * i) = iN c ∧ (∀ a j, ¬ (a = 7 ∧ 10 ≤ j ∧ j ≤ 12) → ¬ (a = 8 ∧ j = i) → ¬ (a = 9 ∧ j = 3 * i) → M1 a j = M a j) ∧ f_X7_readRule σ M = (f_X7_readAll 64 (iN 0) σ M1).bind fun q36 => if q36.1 = (0 : Int32) then some (0, q36.2) else b_X7_readRule_56 (iN (3 * i)) σ (g_up q36.2 9 (3 * i + 1) (q36.2 7 8)) := by
  let B : gM := g_up (g_up M 8 i (iN (tokF b n s))) 9 (3 * i) (iN c)
  have fB : ∀ a j, ¬ (a = 8 ∧ j = i) → ¬ (a = 9 ∧ j = 3 * i) → B a j = M a j := fun a j h1 h2 => by show g_up (g_up M 8 i (iN (tokF b n s))) 9 (3 * i) (iN c) a j = _; rw [g_up_ne _ _ h2, g_up_ne _ _ h1]
  have aB : atC b n B s c := ⟨h.1.keep (fun a j h => fB a j (by omega) (by omega)), by rw [fB _ _ (by omega) (by omega)]; exact h.2.1, by rw [fB _ _ (by omega) (by omega)]; exact h.2.2.1, by rw [fB _ _ (by omega) (by omega)]; exact h.2.2.2.1, fun e => by rw [fB _ _ (by omega) (by omega)]; exact h.2.2.2.2.1 e, by rw [fB _ _ (by omega) (by omega)]; exact h.2.2.2.2.2⟩
  obtain ⟨M1, q1, q2, q3⟩ := advC (σ := σ) hs aB
  refine ⟨M1, q2, ?_, ?_, fun a j h1 h2 h3 => by rw [q3 _ _ h1, fB _ _ h2 h3], ?_⟩
  · rw [q3 _ _ (by omega)]
    show g_up (g_up M 8 i (iN (tokF b n s))) 9 (3 * i) (iN c) 8 i = _
    rw [g_up_ne _ _ (by omega), g_up_eq _ _ ⟨rfl, rfl⟩]
  · rw [q3 _ _ (by omega)]; exact g_up_eq _ _ ⟨rfl, rfl⟩
  · unfold f_X7_readRule b_X7_readRule_0
    rw [h5, h.2.1 (by omega), show iN i * (3 : Int32) = iN (3 * i) from by rw [show (3 : Int32) = iN 3 from rfl, iN_mul, Nat.mul_comm], if_pos (show g_in (iN i) 12 = true by rw [iN_in (by omega)]; exact hi), if_pos (show g_in (iN (3 * i)) 36 = true by rw [iN_in (by omega)]; omega), iN_cl (by omega), iN_cl (by omega), g_up_ne (b := 7) _ _ (by omega), h.2.2.2.2.2, eS]
    have gi : g_in (iN (3 * i + 1)) 36 = true := by rw [iN_in (by omega)]; omega
    have ci : (iN (3 * i + 1)).toNatClampNeg = 3 * i + 1 := iN_cl (by omega)
    rw [show f_X7_advance σ (g_up (g_up M 8 i (iN (tokF b n s))) 9 (3 * i) (iN c)) = some M1 from q1, oB]
    simp only [gi, if_true, ci]
    rfl
theorem sim_rule {b : Nat → Nat} {n s : Nat} (hn : n ≤ 400) (hs : s ≤ n) (ht : tokF b n s ≤ 3) : ∃ res, okRR b n s res ∧ (∀ i c σ M, i < 12 → c ≤ s → atC b n M s c → M 7 7 = iN i → cRR b n M i c (f_X7_readRule σ M) res) ∧ ∀ x σ A N, atM b n A N s 0 → mRR b n A x (iN (tokF b n s)) (fun K => bodyM K x (iN (tokF b n s)) σ A N) σ res := by
  have st := step_s hs (show tokF b n s ≠ 12 by omega)
  obtain ⟨res1, o1, c1, m1⟩ := sim_top hn (bhdF b n s) st.2.1
  cases res1 with
  | inl f =>
    refine ⟨.inl f, o1, fun i c σ M hi hc h h5 => ?_, fun x σ A N h => ?_⟩
    · obtain ⟨M1, q1, q2, q3, q4, q5⟩ := rule_c (σ := σ) hs hi h h5 ht
      obtain ⟨M2, u1, u2, u3⟩ := c1 c σ M1 64 (by omega) (by omega) q1
      refine ⟨M2, ?_, u2, fun a j h1 h2 h3 h4 => by rw [u3 a j h1 h4, q4 a j (by omega) (by omega) (by omega)]⟩
      rw [q5, u1, oB, if_pos rfl]
    · obtain ⟨v, A', N', q1, q2, q3, q4⟩ := binM_l (α := gM × gN) (rec := f_X12_whole 64) hs h (fun A N h => m1 σ A N 64 (by omega) h)
      have o1' := o1.1
      have o2' := o1.2.1
      refine ⟨A', N', fun K => ?_, q2, q3, q4⟩
      show bodyM K x (iN (tokF b n s)) σ A N = _
      unfold bodyM
      rw [q1, if_neg (show ¬ A' 40 51 = 0 by rw [q2, show (0 : Int32) = iN 0 from rfl, iN_inj (by omega) (by omega)]; omega)]
      exact end_f _ _ _ _ o1' o2' q2 K
  | inr r =>
    obtain ⟨o1, o2, o3, o4⟩ := o1
    have cF : ∀ {i c σ} {M : gM}, i < 12 → c ≤ s → atC b n M s c → M 7 7 = iN i → ∃ M2, atC b n M2 r.2 (c + r.1.length) ∧ M2 7 7 = iN i ∧ M2 8 i = iN (tokF b n s) ∧ M2 9 (3 * i) = iN c ∧ M2 9 (3 * i + 1) = iN (c + r.1.length) ∧ (∀ j, j < r.1.length → M2 10 (c + j) = r.1.getD j 0) ∧ (∀ a j, ¬ (a = 7 ∧ 8 ≤ j ∧ j ≤ 12) → ¬ (a = 8 ∧ j = i) → ¬ (a = 9 ∧ 3 * i ≤ j) → ¬ (a = 10 ∧ c ≤ j) → M2 a j = M a j) ∧ f_X7_readRule σ M = b_X7_readRule_56 (iN (3 * i)) σ M2 := fun {i c σ M} hi hc h h5 => by
      obtain ⟨M1, q1, q2, q3, q4, q5⟩ := rule_c (σ := σ) hs hi h h5 ht
      obtain ⟨M2, u1, u2, u3, u4⟩ := c1 c σ M1 64 (by omega) (by omega) q1
      have fr : ∀ a j, ¬ (a = 9 ∧ j = 3 * i + 1) → g_up M2 9 (3 * i + 1) (M2 7 8) a j = M2 a j := fun a j h => g_up_ne _ _ h
      refine ⟨g_up M2 9 (3 * i + 1) (M2 7 8), ⟨u2.1.keep (fun a j h => fr a j (by omega)), by rw [fr _ _ (by omega)]; exact u2.2.1, by rw [fr _ _ (by omega)]; exact u2.2.2.1, by rw [fr _ _ (by omega)]; exact u2.2.2.2.1, fun e => by rw [fr _ _ (by omega)]; exact u2.2.2.2.2.1 e, by rw [fr _ _ (by omega)]; exact u2.2.2.2.2.2⟩, ?_, ?_, ?_, ?_, fun j hj => by rw [fr _ _ (by omega)]; exact u3 j hj, fun a j h1 h2 h3 h4 => by rw [fr _ _ (by omega), u4 _ _ h1 h4, q4 _ _ (by omega) h2 (by omega)], ?_⟩
      · rw [fr _ _ (by omega), u4 _ _ (by omega) (by omega), q4 _ _ (by omega) (by omega) (by omega)]; exact h5
      · rw [fr _ _ (by omega), u4 _ _ (by omega) (by omega)]; exact q2
      · rw [fr _ _ (by omega), u4 _ _ (by omega) (by omega)]; exact q3
      · rw [g_up_eq _ _ ⟨rfl, rfl⟩]; exact u2.2.2.2.2.2
      · rw [q5, u1, oB, if_neg (show ¬ (1 : Int32) = 0 by decide)]
    have mF : ∀ {x k σ} {A : gM} {N : gN}, atM b n A N s 0 → ∃ v A1 N1, pushI (facts A) r.1 v ∧ atM b n A1 N1 r.2 0 ∧ (∀ a j, ¬ (a = 40 ∧ 47 ≤ j ∧ j ≤ 50) → A1 a j = A a j) ∧ ∀ K, bodyM K x k σ A N = if tokF b n r.2 = 4 then (f_X12_next σ A1 N1).bind fun q107 => (f_X12_whole 64 σ q107.1 q107.2).bind fun q111 => b_X12_goes_116 K x k v q111.1 σ q111.2.1 q111.2.2 else b_X12_goes_116 K x k v 1 σ A1 N1 := fun {x k σ A N} h => by
      obtain ⟨v, A', N', q1, q2, q3, q4⟩ := binM_r (α := gM × gN) (rec := f_X12_whole 64) hs h (fun A N h => m1 σ A N 64 (by omega) h)
      refine ⟨v, A', N', q2, q3, q4, fun K => ?_⟩
      unfold bodyM
      rw [q1, if_pos (show A' 40 51 = 0 from q3.2.2.2.2.2), (wd_m q3).2.2.2.2.1, oB, ifB]
    have okk : okI r.1 0 20 := okJ_ok o4 (by omega)
    by_cases t4 : tokF b n r.2 = 4
    · have st2 := step_s o2 (show tokF b n r.2 ≠ 12 by omega)
      obtain ⟨res2, p0, c2, m2⟩ := sim_top hn (bhdF b n r.2) st2.2.1
      have c56 : ∀ {i σ c} {M2 : gM}, atC b n M2 r.2 c → ∃ M3, atC b n M3 (bhdF b n r.2) c ∧ (∀ a j, ¬ (a = 7 ∧ 10 ≤ j ∧ j ≤ 12) → M3 a j = M2 a j) ∧ b_X7_readRule_56 (iN (3 * i)) σ M2 = (f_X7_readAll 64 (iN 0) σ M3).bind fun q70 => if q70.1 = (0 : Int32) then some (0, q70.2) else b_X7_readRule_78 (iN (3 * i)) σ q70.2 := fun {i σ c M2} h => by
        obtain ⟨M3, q1, q2, q3⟩ := advC (σ := σ) o2 h
        refine ⟨M3, q2, q3, ?_⟩
        unfold b_X7_readRule_56
        rw [if_pos (show M2 7 11 = 4 from (tokC (k := 4) h (by omega)).mpr t4), q1, oB]
        rfl
      cases res2 with
      | inl f =>
        refine ⟨.inl f, p0, fun i c σ M hi hc h h5 => ?_, fun x σ A N h => ?_⟩
        · obtain ⟨M2, q1, q2, q3, q4, q5, q6, q7, q8⟩ := cF (σ := σ) hi hc h h5
          obtain ⟨M3, u1, u2, u3⟩ := c56 (i := i) (σ := σ) q1
          obtain ⟨M4, w1, w2, w3⟩ := c2 _ σ M3 64 (by omega) (by omega) u1
          refine ⟨M4, ?_, w2, fun a j h1 h2 h3 h4 => by rw [w3 a j h1 h4, u2 a j (by omega), q7 a j (by omega) (by omega) (by omega) (by omega)]⟩
          rw [q8, u3, w1, oB, if_pos rfl]
        · obtain ⟨v, A1, N1, q1, q2, q3, q4⟩ := mF (x := x) (k := iN (tokF b n s)) (σ := σ) h
          obtain ⟨w, A', N', u1, u2, u3, u4⟩ := binM_l (α := gM × gN) (rec := f_X12_whole 64) o2 q2 (fun A N h => m2 σ A N 64 (by omega) h)
          refine ⟨A', N', fun K => ?_, u2, u3, fun a j h1 => by rw [u4 a j h1, q3 a j (by omega)]⟩
          show bodyM K x (iN (tokF b n s)) σ A N = _
          rw [q4, if_pos t4, u1]
          exact end_f _ _ _ _ p0.1 p0.2.1 u2 K
      | inr r2 =>
        obtain ⟨p1, p2, p3, p4⟩ := p0
        have okk2 : okI r2.1 0 20 := okJ_ok p4 (by omega)
        by_cases t59 : tokF b n r2.2 = 59
        · have st3 := step_s p2 (show tokF b n r2.2 ≠ 12 by omega)
          refine ⟨.inr ((tokF b n s, r.1, r2.1), bhdF b n r2.2), ⟨by simp only; omega, st3.2.1, by simp only; omega, ⟨ht, okk, Or.inr okk2⟩, rfl⟩, fun i c σ M hi hc h h5 => ?_, fun x σ A N h => ?_⟩
          · obtain ⟨M2, q1, q2, q3, q4, q5, q6, q7, q8⟩ := cF (σ := σ) hi hc h h5
            obtain ⟨M3, u1, u2, u3⟩ := c56 (i := i) (σ := σ) q1
            obtain ⟨M4, w1, w2, w3, w4⟩ := c2 _ σ M3 64 (by omega) (by omega) u1
            rcases end_c (σ := σ) p2 hi w2 (by rw [w4 _ _ (by omega) (by omega), u2 _ _ (by omega)]; exact q2) with ⟨_, M5, z1, z2, z3, z4, z5⟩ | ⟨z, _⟩
            · refine ⟨M5, ?_, z2, z3, ?_, ?_, ?_, z4, fun j hj => ?_, fun j hj => ?_, fun a j h1 h2 h3 h4 => ?_⟩
              · rw [q8, u3, w1, oB, if_neg (show ¬ (1 : Int32) = 0 by decide), z1]
              · rw [z5 _ _ (by omega) (by omega), w4 _ _ (by omega) (by omega), u2 _ _ (by omega)]; exact q3
              · rw [z5 _ _ (by omega) (by omega), w4 _ _ (by omega) (by omega), u2 _ _ (by omega)]; exact q4
              · rw [z5 _ _ (by omega) (by omega), w4 _ _ (by omega) (by omega), u2 _ _ (by omega)]; exact q5
              · have hj' : j < r.1.length := hj
                rw [z5 _ _ (by omega) (by omega), w4 _ _ (by omega) (by omega), u2 _ _ (by omega)]; exact q6 j hj
              · rw [z5 _ _ (by omega) (by omega)]; exact w3 j hj
              · rw [z5 _ _ (by omega) (by omega), w4 _ _ (by omega) (by omega), u2 _ _ (by omega), q7 _ _ (by omega) (by omega) (by omega) (by omega)]
            · exact absurd t59 z
          · obtain ⟨v, A1, N1, q1, q2, q3, q4⟩ := mF (x := x) (k := iN (tokF b n s)) (σ := σ) h
            obtain ⟨w, A2, N2, u1, u2, u3, u4⟩ := binM_r (α := gM × gN) (rec := f_X12_whole 64) o2 q2 (fun A N h => m2 σ A N 64 (by omega) h)
            rw [facts_keep (fun j hj => q3 40 j (by omega))] at u2
            obtain ⟨A3, N3, w1, w2, w3, w4, w5⟩ := g116 (σ := σ) x (iN (tokF b n s)) v w p2 t59 u3
            have e8 : A2 40 58 = A 40 58 := by rw [u4 _ _ (by omega), q3 _ _ (by omega)]
            have e9 : A2 40 59 = A 40 59 := by rw [u4 _ _ (by omega), q3 _ _ (by omega)]
            have hne : r2.1 ≠ [] := fun e => by rw [e] at okk2; exact absurd okk2 (by unfold okI; omega)
            refine ⟨A3, N3, fun K => ?_, w2, by rw [w3, e8], ?_, fun a j h1 h2 => by rw [w5 a j (by omega) h2, u4 a j h1, q3 a j h1]⟩
            · show bodyM K x (iN (tokF b n s)) σ A N = _
              rw [q4, if_pos t4, u1]
              exact w1 K
            · rw [w4, e9, push_val q1, push_val u2]
              refine iteC ?_
              constructor
              · rintro ⟨a1, a2, a3⟩; exact ⟨a1, Or.inr a2, a3⟩
              · rintro ⟨a1, a2 | a2, a3⟩
                · exact absurd a2 hne
                · exact ⟨a1, a2, a3⟩
        · have hp2 := plcF_le (b := b) p2
          refine ⟨.inl (1, plcF b n r2.2), ⟨by omega, by simp only; omega, hp2.2⟩, fun i c σ M hi hc h h5 => ?_, fun x σ A N h => ?_⟩
          · obtain ⟨M2, q1, q2, q3, q4, q5, q6, q7, q8⟩ := cF (σ := σ) hi hc h h5
            obtain ⟨M3, u1, u2, u3⟩ := c56 (i := i) (σ := σ) q1
            obtain ⟨M4, w1, w2, w3, w4⟩ := c2 _ σ M3 64 (by omega) (by omega) u1
            rcases end_c (σ := σ) p2 hi w2 (by rw [w4 _ _ (by omega) (by omega), u2 _ _ (by omega)]; exact q2) with ⟨z, _⟩ | ⟨_, M5, z1, z2, z3⟩
            · exact absurd z t59
            · refine ⟨M5, ?_, z2, fun a j h1 h2 h3 h4 => by rw [z3 _ _ (by omega) h3, w4 _ _ (by omega) (by omega), u2 _ _ (by omega), q7 _ _ (by omega) (by omega) (by omega) (by omega)]⟩
              rw [q8, u3, w1, oB, if_neg (show ¬ (1 : Int32) = 0 by decide), z1]
          · obtain ⟨v, A1, N1, q1, q2, q3, q4⟩ := mF (x := x) (k := iN (tokF b n s)) (σ := σ) h
            obtain ⟨w, A2, N2, u1, u2, u3, u4⟩ := binM_r (α := gM × gN) (rec := f_X12_whole 64) o2 q2 (fun A N h => m2 σ A N 64 (by omega) h)
            obtain ⟨A3, w1, w2, w3, w4⟩ := end_m (σ := σ) x (iN (tokF b n s)) v w t59 u3
            refine ⟨A3, N2, fun K => ?_, w2, w3, fun a j h1 => by rw [w4 a j h1, u4 a j (by omega), q3 a j (by omega)]⟩
            show bodyM K x (iN (tokF b n s)) σ A N = _
            rw [q4, if_pos t4, u1]
            exact w1 K
    · have c56 : ∀ {i σ c} {M2 : gM}, atC b n M2 r.2 c → b_X7_readRule_56 (iN (3 * i)) σ M2 = b_X7_readRule_78 (iN (3 * i)) σ M2 := fun {i σ c M2} h => by
        unfold b_X7_readRule_56
        rw [if_neg (show ¬ M2 7 11 = 4 from fun q => t4 ((tokC (k := 4) h (by omega)).mp q))]
      by_cases t59 : tokF b n r.2 = 59
      · have st3 := step_s o2 (show tokF b n r.2 ≠ 12 by omega)
        refine ⟨.inr ((tokF b n s, r.1, []), bhdF b n r.2), ⟨by simp only; omega, st3.2.1, by simp only [List.length_nil]; omega, ⟨ht, okk, Or.inl rfl⟩, rfl⟩, fun i c σ M hi hc h h5 => ?_, fun x σ A N h => ?_⟩
        · obtain ⟨M2, q1, q2, q3, q4, q5, q6, q7, q8⟩ := cF (σ := σ) hi hc h h5
          rcases end_c (σ := σ) o2 hi q1 q2 with ⟨_, M5, z1, z2, z3, z4, z5⟩ | ⟨z, _⟩
          · refine ⟨M5, ?_, z2, z3, ?_, ?_, ?_, z4, fun j hj => ?_, fun j hj => ?_, fun a j h1 h2 h3 h4 => ?_⟩
            · rw [q8, c56 q1, z1]
            · rw [z5 _ _ (by omega) (by omega)]; exact q3
            · rw [z5 _ _ (by omega) (by omega)]; exact q4
            · rw [z5 _ _ (by omega) (by omega)]; exact q5
            · rw [z5 _ _ (by omega) (by omega)]; exact q6 j hj
            · exact absurd hj (Nat.not_lt_zero _)
            · rw [z5 _ _ (by omega) (by omega), q7 _ _ (by omega) (by omega) (by omega) (by omega)]
          · exact absurd t59 z
        · obtain ⟨v, A1, N1, q1, q2, q3, q4⟩ := mF (x := x) (k := iN (tokF b n s)) (σ := σ) h
          obtain ⟨A3, N3, w1, w2, w3, w4, w5⟩ := g116 (σ := σ) x (iN (tokF b n s)) v 1 o2 t59 q2
          have e8 : A1 40 58 = A 40 58 := q3 _ _ (by omega)
          have e9 : A1 40 59 = A 40 59 := q3 _ _ (by omega)
          refine ⟨A3, N3, fun K => ?_, w2, by rw [w3, e8], ?_, fun a j h1 h2 => by rw [w5 a j (by omega) h2, q3 a j h1]⟩
          · show bodyM K x (iN (tokF b n s)) σ A N = _
            rw [q4, if_neg t4]
            exact w1 K
          · rw [w4, e9, push_val q1]
            refine iteC ?_
            constructor
            · rintro ⟨a1, a2, a3⟩; exact ⟨a1, Or.inl rfl, a3⟩
            · rintro ⟨a1, _, a3⟩; exact ⟨a1, by decide, a3⟩
      · have hp2 := plcF_le (b := b) o2
        refine ⟨.inl (1, plcF b n r.2), ⟨by omega, by simp only; omega, hp2.2⟩, fun i c σ M hi hc h h5 => ?_, fun x σ A N h => ?_⟩
        · obtain ⟨M2, q1, q2, q3, q4, q5, q6, q7, q8⟩ := cF (σ := σ) hi hc h h5
          rcases end_c (σ := σ) o2 hi q1 q2 with ⟨z, _⟩ | ⟨_, M5, z1, z2, z3⟩
          · exact absurd z t59
          · refine ⟨M5, ?_, z2, fun a j h1 h2 h3 h4 => by rw [z3 _ _ (by omega) h3, q7 _ _ (by omega) (by omega) (by omega) (by omega)]⟩
            rw [q8, c56 q1, z1]
        · obtain ⟨v, A1, N1, q1, q2, q3, q4⟩ := mF (x := x) (k := iN (tokF b n s)) (σ := σ) h
          obtain ⟨A3, w1, w2, w3, w4⟩ := end_m (σ := σ) x (iN (tokF b n s)) v 1 t59 q2
          refine ⟨A3, N1, fun K => ?_, w2, w3, fun a j h1 => by rw [w4 a j h1, q3 a j (by omega)]⟩
          show bodyM K x (iN (tokF b n s)) σ A N = _
          rw [q4, if_neg t4]
          exact w1 K
