/-! read: a text, both sides. -/
def foundI (fa : Nat → Int32) (kind : Nat) : List gRule → Int32
  | [] => -1
  | r :: rs => if r.1 = kind ∧ (r.2.2 = [] ∨ valI fa r.2.2 ≠ 0) then clampI (valI fa r.2.1) else foundI fa kind rs
theorem clamp_ne (v : Int32) : clampI v ≠ -1 := by
  unfold clampI
  by_cases z : v < 0
  · rw [if_pos z]; decide
  · rw [if_neg z]
    by_cases z2 : 100 < v
    · rw [if_pos z2]; decide
    · rw [if_neg z2]
      intro e
      rw [e] at z
      exact z (by decide)
theorem found_worth (fa : Nat → Int32) (kind : Nat) : ∀ rs, worthI fa kind rs = if foundI fa kind rs = -1 then 0 else foundI fa kind rs := by
  intro rs
  induction rs with
  | nil => rfl
  | cons r rs ih =>
    unfold worthI foundI
    by_cases c : r.1 = kind ∧ (r.2.2 = [] ∨ valI fa r.2.2 ≠ 0)
    · rw [if_pos c, if_pos c, if_neg (clamp_ne _)]
    · rw [if_neg c, if_neg c]; exact ih
abbrev tRes : Type := Sum (Nat × Nat) (List gRule)
def okTT (n s i : Nat) : tRes → Prop
  | .inl f => 1 ≤ f.1 ∧ f.1 ≤ 3 ∧ f.2 ≤ n
  | .inr rs => i + rs.length ≤ 12 ∧ (∀ r ∈ rs, okRule r) ∧ lenR rs ≤ n - s
def cTT (M : gM) (i c : Nat) (o : Option (Int32 × gM)) : tRes → Prop
  | .inl f => ∃ M', o = some (iN (10 * f.2 + f.1), M') ∧ M' 7 6 = iN 0 ∧ ∀ a j, ¬ (a = 7 ∧ 6 ≤ j ∧ j ≤ 13 ∨ a = 37 ∨ a = 38) → a ≠ 8 → a ≠ 9 → a ≠ 10 → M' a j = M a j
  | .inr rs => ∃ M', o = some (iN 0, M') ∧ M' 7 6 = iN 0 ∧ M' 7 7 = iN (i + rs.length) ∧ M' 7 8 = iN (c + lenR rs) ∧ hasR (M' 8) (M' 9) (M' 10) i c rs ∧ ∀ a j, ¬ (a = 7 ∧ 6 ≤ j ∧ j ≤ 13 ∨ a = 37 ∨ a = 38) → ¬ (a = 8 ∧ i ≤ j) → ¬ (a = 9 ∧ 3 * i ≤ j) → ¬ (a = 10 ∧ c ≤ j) → M' a j = M a j
def mTT (A : gM) (i : Nat) (x : Int32) (o : Option (gM × gN)) : tRes → Prop
  | .inl f => ∃ A' N', o = some (A', N') ∧ A' 40 51 = iN f.1 ∧ A' 40 52 = iN f.2 ∧ ∀ a j, ¬ (a = 40 ∧ 47 ≤ j ∧ j ≤ 52) → ¬ (a = 40 ∧ 58 ≤ j ∧ j ≤ 59) → A' a j = A a j
  | .inr rs => ∃ A' N', o = some (A', N') ∧ A' 40 51 = iN 0 ∧ A' 40 58 = iN (i + rs.length) ∧ (∀ kind, kind ≤ 3 → x = iN kind → A' 40 59 = if A 40 59 = -1 then foundI (facts A) kind rs else A 40 59) ∧ ∀ a j, ¬ (a = 40 ∧ 47 ≤ j ∧ j ≤ 52) → ¬ (a = 40 ∧ 58 ≤ j ∧ j ≤ 59) → A' a j = A a j
theorem hasR_keep {k m c k' m' c' : Nat → Int32} (rs : List gRule) (i a : Nat) (h1 : ∀ j, i ≤ j → k' j = k j) (h2 : ∀ j, 3 * i ≤ j → m' j = m j) (h3 : ∀ j, a ≤ j → c' j = c j) (h : hasR k m c i a rs) : hasR k' m' c' i a rs := by
  induction rs generalizing i a with
  | nil => trivial
  | cons r rs ih =>
    obtain ⟨a1, a2, a3, a4, a5, a6, a7⟩ := h
    exact ⟨by rw [h1 _ (by omega)]; exact a1, by rw [h2 _ (by omega)]; exact a2, by rw [h2 _ (by omega)]; exact a3, by rw [h2 _ (by omega)]; exact a4, fun j hj => by rw [h3 _ (by omega)]; exact a5 j hj, fun j hj => by rw [h3 _ (by omega)]; exact a6 j hj, ih _ _ (fun j hj => h1 j (by omega)) (fun j hj => h2 j (by omega)) (fun j hj => h3 j (by omega)) a7⟩
theorem stop_c {σ : gS} {M : gM} {i f : Nat} (hf : 1 < f) : l_X7_readText_37 f 0 (iN i) σ M = some (M 7 13, M) := by
  obtain ⟨f, rfl⟩ : ∃ m, f = m + 1 := ⟨f - 1, by omega⟩
  rw [l_X7_readText_37, if_pos rfl]
  rfl
theorem textL {b : Nat → Nat} {n : Nat} (hn : n ≤ 400) : ∀ k s i, n - s ≤ k → i ≤ 12 → s ≤ n → ∃ res, okTT n s i res ∧ (∀ c σ M f, c ≤ s → k + 3 < f → atC b n M s c → M 7 7 = iN i → M 7 13 = iN 0 → M 7 6 = iN 0 → cTT M i c (l_X7_readText_37 f 1 (iN i) σ M) res) ∧ ∀ x σ A N f, k + 3 < f → atM b n A N s 0 → A 40 58 = iN i → mTT A i x (l_X12_goes_29 f x σ A N) res := by
  intro k
  induction k with
  | zero =>
    intro s i hk hi hs
    have hp := plcF_le (b := b) hs
    have t : tokF b n s = 12 := by
      rcases tokF_c b n s with ⟨g, _⟩ | ⟨g, _⟩
      · exact g
      · omega
    refine ⟨.inr [], ⟨by simp only [List.length_nil]; omega, fun r hr => absurd hr (List.not_mem_nil), Nat.zero_le _⟩, fun c σ M f hc hf h h5 h11 hL => ?_, fun x σ A N f hf h h8 => ?_⟩
    · obtain ⟨f, rfl⟩ : ∃ m, f = m + 1 := ⟨f - 1, by omega⟩
      refine ⟨M, ?_, hL, h5, h.2.2.2.2.2, trivial, fun _ _ _ _ _ _ => rfl⟩
      rw [l_X7_readText_37, if_neg (by decide), if_neg (show ¬ (12 : Int32) < iN i by rw [show (12 : Int32) = iN 12 from rfl, iN_lt (by omega) (by omega)]; omega), if_pos (show M 7 11 = 12 from (tokC (k := 12) h (by omega)).mpr t)]
      unfold b_X7_readText_101
      rw [eS]
      show l_X7_readText_37 f 0 (iN (i + 1)) σ M = _
      rw [stop_c (f := f) (by omega), h11]
    · obtain ⟨f, rfl⟩ : ∃ m, f = m + 1 := ⟨f - 1, by omega⟩
      refine ⟨A, N, ?_, h.2.2.2.2.2, h8, fun kind _ _ => ?_, fun _ _ _ _ => rfl⟩
      · rw [l_X12_goes_29, if_pos (show A 40 51 = 0 from h.2.2.2.2.2), if_pos ((kind_m h.2.2.2.1).2.mpr t)]
      · by_cases c : A 40 59 = -1
        · rw [if_pos c]; exact c
        · rw [if_neg c]
  | succ k ih =>
    intro s i hk hi hs
    have hp := plcF_le (b := b) hs
    have cS : ∀ {c σ} {M : gM} {f}, atC b n M s c → M 7 7 = iN i → tokF b n s ≠ 12 → l_X7_readText_37 (f + 1) 1 (iN i) σ M = if (3 : Int32) < (M 7 11) then (f_X7_refuse 1 σ M).bind fun q62 => l_X7_readText_37 f q62.1 (iN (i + 1)) σ q62.2 else if iN i < (12 : Int32) then (f_X7_readRule σ M).bind fun q88 => l_X7_readText_37 f q88.1 (iN (i + 1)) σ q88.2 else (f_X7_refuse 2 σ M).bind fun q80 => l_X7_readText_37 f q80.1 (iN (i + 1)) σ q80.2 := fun {c σ M f} h h5 ht => by
      rw [l_X7_readText_37, if_neg (by decide), if_neg (show ¬ (12 : Int32) < iN i by rw [show (12 : Int32) = iN 12 from rfl, iN_lt (by omega) (by omega)]; omega), if_neg (show ¬ M 7 11 = 12 from fun q => ht ((tokC (k := 12) h (by omega)).mp q)), h5]
      unfold b_X7_readText_101
      rw [eS]
    have mS : ∀ {x σ} {A : gM} {N : gN} {f}, atM b n A N s 0 → A 40 58 = iN i → tokF b n s ≠ 12 → l_X12_goes_29 (f + 1) x σ A N = if tokF b n s ≤ 3 then (if i = 12 then b_X12_goes_73 2 σ A N else bodyM (fun x1 σ M N => l_X12_goes_29 f x1 σ M N) x (iN (tokF b n s)) σ A N) else b_X12_goes_73 1 σ A N := fun {x σ A N f} h h8 ht => by
      rw [l_X12_goes_29, if_pos (show A 40 51 = 0 from h.2.2.2.2.2), if_neg (fun q => ht ((kind_m h.2.2.2.1).2.mp q)), kind_here h, oB, h8]
      unfold b_X12_goes_62
      by_cases c : tokF b n s ≤ 3
      · have nm : ¬ iN (tokF b n s) = (-1 : Int32) := fun q => by rw [show (-1 : Int32) = iM from rfl, iM_ne (by omega)] at q; exact q
        rw [if_pos c, if_pos c, if_neg nm, if_neg nm]
        by_cases c2 : i = 12
        · rw [if_pos c2, if_pos (show iN i = (12 : Int32) by rw [c2]; rfl)]
        · rw [if_neg c2, if_neg (show ¬ iN i = (12 : Int32) by rw [show (12 : Int32) = iN 12 from rfl, iN_inj (by omega) (by omega)]; exact c2)]
          rfl
      · rw [if_neg c, if_neg c, if_pos rfl, if_pos rfl]
    by_cases t12 : tokF b n s = 12
    · refine ⟨.inr [], ⟨by simp only [List.length_nil]; omega, fun r hr => absurd hr (List.not_mem_nil), Nat.zero_le _⟩, fun c σ M f hc hf h h5 h11 hL => ?_, fun x σ A N f hf h h8 => ?_⟩
      · obtain ⟨f, rfl⟩ : ∃ m, f = m + 1 := ⟨f - 1, by omega⟩
        refine ⟨M, ?_, hL, h5, h.2.2.2.2.2, trivial, fun _ _ _ _ _ _ => rfl⟩
        rw [l_X7_readText_37, if_neg (by decide), if_neg (show ¬ (12 : Int32) < iN i by rw [show (12 : Int32) = iN 12 from rfl, iN_lt (by omega) (by omega)]; omega), if_pos (show M 7 11 = 12 from (tokC (k := 12) h (by omega)).mpr t12)]
        unfold b_X7_readText_101
        rw [eS]
        show l_X7_readText_37 f 0 (iN (i + 1)) σ M = _
        rw [stop_c (f := f) (by omega), h11]
      · obtain ⟨f, rfl⟩ : ∃ m, f = m + 1 := ⟨f - 1, by omega⟩
        refine ⟨A, N, ?_, h.2.2.2.2.2, h8, fun kind _ _ => ?_, fun _ _ _ _ => rfl⟩
        · rw [l_X12_goes_29, if_pos (show A 40 51 = 0 from h.2.2.2.2.2), if_pos ((kind_m h.2.2.2.1).2.mpr t12)]
        · by_cases c : A 40 59 = -1
          · rw [if_pos c]; exact c
          · rw [if_neg c]
    · by_cases t3 : tokF b n s ≤ 3
      · by_cases i12 : i = 12
        · refine ⟨.inl (2, plcF b n s), ⟨by omega, by simp only; omega, hp.2⟩, fun c σ M f hc hf h h5 h11 hL => ?_, fun x σ A N f hf h h8 => ?_⟩
          · obtain ⟨f, rfl⟩ : ∃ m, f = m + 1 := ⟨f - 1, by omega⟩
            obtain ⟨M', q1, q2, q3⟩ := refuse_c (σ := σ) h 2
            refine ⟨M', ?_, by rw [q3 _ _ (by omega)]; exact hL, fun a j h1 h2 h3 h4 => q3 _ _ (by omega)⟩
            rw [cS h h5 t12, if_neg (by rw [h.2.1 (by omega), show (3 : Int32) = iN 3 from rfl, iN_lt (by omega) (by omega)]; omega), if_neg (show ¬ iN i < (12 : Int32) by rw [show (12 : Int32) = iN 12 from rfl, iN_lt (by omega) (by omega)]; omega), show f_X7_refuse 2 σ M = _ from q1, oB]
            show l_X7_readText_37 f 0 (iN (i + 1)) σ M' = _
            rw [stop_c (f := f) (by omega), q2]
          · obtain ⟨f, rfl⟩ : ∃ m, f = m + 1 := ⟨f - 1, by omega⟩
            obtain ⟨A', q1, q2, q3, q4⟩ := wrong_m (σ := σ) h 2
            refine ⟨A', N, ?_, q2, q3, fun a j h1 _ => q4 a j h1⟩
            rw [mS h h8 t12, if_pos t3, if_pos i12]
            unfold b_X12_goes_73
            rw [q1, oB]
        · obtain ⟨res1, o1, c1, m1⟩ := sim_rule hn hs t3
          have cR : ∀ {c σ} {M : gM} {f}, atC b n M s c → M 7 7 = iN i → l_X7_readText_37 (f + 1) 1 (iN i) σ M = (f_X7_readRule σ M).bind fun q88 => l_X7_readText_37 f q88.1 (iN (i + 1)) σ q88.2 := fun {c σ M f} h h5 => by
            rw [cS h h5 t12, if_neg (by rw [h.2.1 (by omega), show (3 : Int32) = iN 3 from rfl, iN_lt (by omega) (by omega)]; omega), if_pos (show iN i < (12 : Int32) by rw [show (12 : Int32) = iN 12 from rfl, iN_lt (by omega) (by omega)]; omega)]
          cases res1 with
          | inl f =>
            refine ⟨.inl f, o1, fun c σ M fu hc hf h h5 h11 hL => ?_, fun x σ A N fu hf h h8 => ?_⟩
            · obtain ⟨fu, rfl⟩ : ∃ m, fu = m + 1 := ⟨fu - 1, by omega⟩
              obtain ⟨M', q1, q2, q3⟩ := c1 i c σ M (by omega) hc h h5
              refine ⟨M', ?_, by rw [q3 _ _ (by omega) (by omega) (by omega) (by omega)]; exact hL, fun a j h1 h2 h3 h4 => q3 _ _ (by omega) h2 h3 h4⟩
              rw [cR h h5, q1, oB]
              show l_X7_readText_37 fu 0 (iN (i + 1)) σ M' = _
              rw [stop_c (f := fu) (by omega), q2]
            · obtain ⟨fu, rfl⟩ : ∃ m, fu = m + 1 := ⟨fu - 1, by omega⟩
              obtain ⟨A', N', q1, q2, q3, q4⟩ := m1 x σ A N h
              refine ⟨A', N', ?_, q2, q3, fun a j h1 _ => q4 a j h1⟩
              rw [mS h h8 t12, if_pos t3, if_neg i12]
              exact q1 _
          | inr r =>
            obtain ⟨o1, o2, o3, o4, o5⟩ := o1
            obtain ⟨res, p1, p2, p3⟩ := ih r.2 (i + 1) (by omega) (by omega) o2
            cases res with
            | inl f =>
              refine ⟨.inl f, p1, fun c σ M fu hc hf h h5 h11 hL => ?_, fun x σ A N fu hf h h8 => ?_⟩
              · obtain ⟨fu, rfl⟩ : ∃ m, fu = m + 1 := ⟨fu - 1, by omega⟩
                obtain ⟨M1, q1, q2, q3, _, _, _, _, _, _, q4⟩ := c1 i c σ M (by omega) hc h h5
                obtain ⟨M2, u1, u2, u3⟩ := p2 _ σ M1 fu (by omega) (by omega) q2 q3 (by rw [q4 _ _ (by omega) (by omega) (by omega) (by omega)]; exact h11) (by rw [q4 _ _ (by omega) (by omega) (by omega) (by omega)]; exact hL)
                refine ⟨M2, ?_, u2, fun a j h1 h2 h3 h4 => by rw [u3 _ _ h1 h2 h3 h4, q4 _ _ (by omega) (by omega) (by omega) (by omega)]⟩
                rw [cR h h5, q1, oB]
                exact u1
              · obtain ⟨fu, rfl⟩ : ∃ m, fu = m + 1 := ⟨fu - 1, by omega⟩
                obtain ⟨A1, N1, q1, q2, q3, q4, q5⟩ := m1 x σ A N h
                obtain ⟨A2, N2, u1, u2, u3, u4⟩ := p3 x σ A1 N1 fu (by omega) q2 (by rw [q3, h8, eS])
                refine ⟨A2, N2, ?_, u2, u3, fun a j h1 h2 => by rw [u4 a j h1 h2, q5 a j (by omega) h2]⟩
                rw [mS h h8 t12, if_pos t3, if_neg i12]
                exact (q1 _).trans u1
            | inr rs =>
              obtain ⟨p1, p4, p5⟩ := p1
              refine ⟨.inr (r.1 :: rs), ⟨by simp only [List.length_cons]; omega, fun r' hr' => ?_, by simp only [lenR]; omega⟩, fun c σ M fu hc hf h h5 h11 hL => ?_, fun x σ A N fu hf h h8 => ?_⟩
              · rcases List.mem_cons.mp hr' with e | e
                · rw [e]; exact o4
                · exact p4 r' e
              · obtain ⟨fu, rfl⟩ : ∃ m, fu = m + 1 := ⟨fu - 1, by omega⟩
                obtain ⟨M1, q1, q2, q3, r1, r2, r3, r4, r5, r6, q4⟩ := c1 i c σ M (by omega) hc h h5
                obtain ⟨M2, u1, u2, u3, u4, u5, u6⟩ := p2 _ σ M1 fu (by omega) (by omega) q2 q3 (by rw [q4 _ _ (by omega) (by omega) (by omega) (by omega)]; exact h11) (by rw [q4 _ _ (by omega) (by omega) (by omega) (by omega)]; exact hL)
                refine ⟨M2, ?_, u2, by rw [u3, List.length_cons]; congr 1; omega, by rw [u4, lenR]; congr 1; omega, ⟨?_, ?_, ?_, ?_, fun j hj => ?_, fun j hj => ?_, u5⟩, fun a j h1 h2 h3 h4 => by rw [u6 _ _ h1 (by omega) (by omega) (by omega), q4 _ _ (by omega) (by omega) (by omega) (by omega)]⟩
                · rw [cR h h5, q1, oB]
                  exact u1
                · rw [u6 _ _ (by omega) (by omega) (by omega) (by omega)]; exact r1
                · rw [u6 _ _ (by omega) (by omega) (by omega) (by omega)]; exact r2
                · rw [u6 _ _ (by omega) (by omega) (by omega) (by omega)]; exact r3
                · rw [u6 _ _ (by omega) (by omega) (by omega) (by omega)]; exact r4
                · rw [u6 _ _ (by omega) (by omega) (by omega) (by omega)]; exact r5 j hj
                · rw [u6 _ _ (by omega) (by omega) (by omega) (by omega)]; exact r6 j hj
              · obtain ⟨fu, rfl⟩ : ∃ m, fu = m + 1 := ⟨fu - 1, by omega⟩
                obtain ⟨A1, N1, q1, q2, q3, q4, q5⟩ := m1 x σ A N h
                obtain ⟨A2, N2, u1, u2, u3, u4, u5⟩ := p3 x σ A1 N1 fu (by omega) q2 (by rw [q3, h8, eS])
                have fe : facts A1 = facts A := facts_keep (fun j hj => q5 40 j (by omega) (by omega))
                refine ⟨A2, N2, ?_, u2, by rw [u3, List.length_cons]; congr 1; omega, fun kind hk hx => ?_, fun a j h1 h2 => by rw [u5 a j h1 h2, q5 a j (by omega) h2]⟩
                · rw [mS h h8 t12, if_pos t3, if_neg i12]
                  exact (q1 _).trans u1
                · have e59 : A1 40 59 = if (r.1.1 = kind ∧ (r.1.2.2 = [] ∨ valI (facts A) r.1.2.2 ≠ 0)) ∧ A 40 59 = -1 then clampI (valI (facts A) r.1.2.1) else A 40 59 := by
                    rw [q4]
                    refine iteC ⟨fun q => ⟨⟨?_, q.2.1⟩, q.2.2⟩, fun q => ⟨?_, q.1.2, q.2⟩⟩
                    · have := q.1
                      rw [hx, iN_inj (by omega) (by omega)] at this
                      omega
                    · rw [hx, ← o5, q.1.1]
                  rw [u4 kind hk hx, fe, show foundI (facts A) kind (r.1 :: rs) = if r.1.1 = kind ∧ (r.1.2.2 = [] ∨ valI (facts A) r.1.2.2 ≠ 0) then clampI (valI (facts A) r.1.2.1) else foundI (facts A) kind rs from rfl]
                  by_cases z : A 40 59 = -1
                  · by_cases c : r.1.1 = kind ∧ (r.1.2.2 = [] ∨ valI (facts A) r.1.2.2 ≠ 0)
                    · rw [if_pos ⟨c, z⟩] at e59
                      rw [if_pos z, if_pos c, e59, if_neg (clamp_ne _)]
                    · rw [if_neg (fun q => c q.1)] at e59
                      rw [if_pos z, if_neg c, e59, if_pos z]
                  · rw [if_neg (fun q => z q.2)] at e59
                    rw [if_neg z, e59, if_neg z]
      · refine ⟨.inl (1, plcF b n s), ⟨by omega, by simp only; omega, hp.2⟩, fun c σ M f hc hf h h5 h11 hL => ?_, fun x σ A N f hf h h8 => ?_⟩
        · obtain ⟨f, rfl⟩ : ∃ m, f = m + 1 := ⟨f - 1, by omega⟩
          obtain ⟨M', q1, q2, q3⟩ := refuse_c (σ := σ) h 1
          have tl := tok_lt b n s
          refine ⟨M', ?_, by rw [q3 _ _ (by omega)]; exact hL, fun a j h1 h2 h3 h4 => q3 _ _ (by omega)⟩
          rw [cS h h5 t12, if_pos (tok3 h t3), show f_X7_refuse 1 σ M = _ from q1, oB]
          show l_X7_readText_37 f 0 (iN (i + 1)) σ M' = _
          rw [stop_c (f := f) (by omega), q2]
        · obtain ⟨f, rfl⟩ : ∃ m, f = m + 1 := ⟨f - 1, by omega⟩
          obtain ⟨A', q1, q2, q3, q4⟩ := wrong_m (σ := σ) h 1
          refine ⟨A', N, ?_, q2, q3, fun a j h1 _ => q4 a j h1⟩
          rw [mS h h8 t12, if_neg t3]
          unfold b_X12_goes_73
          rw [q1, oB]
