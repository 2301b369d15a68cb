/-! more rows: fields, branches, arrays -/
section GR
variable {α : Type} {E : gE} {cc : ByteArray} {own nm : String} {ret : Option FieldType} {nL : Nat} {tab : gT} {rk mc ms : Nat} {l : Launch} {ce sl pc : Nat} {lv : List (Nat × gV)} {st : List gV} {u : gU} {om : Option α} {emb : α → gO} {iv : Int32}
/-- a long into a field -/
theorem r_putL (J : g_J E cc own nm ret nL tab rk mc ms l) {idx kd n a k N : Nat} {C : String} {T : u_T} {x : Int64} (hc : g_cls kd C T N) (hf : g_find tab pc = some (.putfield idx, 3, iv)) (hk : k < N) (hw : Cond.fieldLink own idx (T k).1 (T k).2.1 (T k).2.2.1 ∈ g_tb) (ht : g_ty kd k = .long) (hfin : (T k).2.2.2 = false) (hs : u.1.1 a = some (kd, n))
    (kk : g_H E ce sl (pc + 3) lv st (u.1, u.2.1, g_up u.2.2 a k x) om emb) : g_H E ce sl pc lv (vL x :: vR a :: st) u om emb := by
  intro r hr
  have kk := kk r hr
  obtain ⟨⟨⟨hx, hb, hml, hown, hts⟩, hrt, hlocks, hK⟩, -, hT, hE⟩ := J
  obtain ⟨p, l, e, R, s, m, args, below, meth, c, D, cy, ad0, u0, nL, mc, ms⟩ := E
  obtain ⟨-, hR, rfl, rfl, hnm⟩ := hE
  obtain ⟨c1, c2, c3, c4, c5, c6⟩ := hc
  intro ad H locs ls a1 a2 a3 a4 a5 a6 a7
  obtain ⟨L, q, hL, hP, hD, hq, hcell⟩ := a2.get hs
  rw [g_cl_obj c4] at hcell
  show W p l e R s m args below meth c H locs ce sl _ (F0 m pc ls (.long x :: g_cv ad (vR a) :: st.map (g_cv ad)))
  rw [g_cv_R (g_ne0 a3 hs)]
  refine va_put hx hb hts c2 (g_ty kd) c5 c6 hown hK.1 hP hD a4 q hcell c1 k hk (hts _ hw) (fun _ h => h) hfin (c5 k hk) (by rw [ht]; rfl) (by rw [ht]; rfl) (by rw [List.length_map, List.length_range, c3]; exact hk) (g_find_ok hT hf).1 ?_
  intro H1 locs1 p1 p2 p3
  refine kk ad H1 locs1 ls a1 ?_ a3 p3 (fun v hv => a5 v (List.mem_cons_of_mem _ (List.mem_cons_of_mem _ hv))) a6 a7
  refine g_P.set hL hD hq rfl (g_put_cell hs rfl c4 ?_ ?_) (fun b hb => g_cell_eq rfl rfl ?_ rfl) p1 p2
  · unfold g_sv; rw [ht]; show Value.long (g_up u.2.2 a k x a k) = _; rw [g_up_s]
  · exact fun j hj => g_sv_eq rfl (g_up_k _ _ _ _ hj) rfl
  · funext j; exact g_up_a _ _ _ _ hb
theorem g_C_up {σ : gS} {a k b : Nat} (h : g_C σ) (hb : b = 0 ∨ σ.1 b ≠ none) (ht : ∀ kd n t, σ.1 a = some (kd, n) → g_rt kd k = some t → g_q σ b t) : g_C (σ.1, g_up σ.2 a k b) := by
  refine ⟨h.1, fun c j hc => ?_, fun c kd n j t hc hj => ?_⟩
  · show g_up σ.2 a k b c j = 0 ∨ σ.1 (g_up σ.2 a k b c j) ≠ none
    by_cases e : c = a ∧ j = k
    · obtain ⟨rfl, rfl⟩ := e; rw [g_up_s]; exact hb
    · rw [show g_up σ.2 a k b c j = σ.2 c j by unfold g_up; rw [if_neg e]]; exact h.2.1 c j hc
  · show g_up σ.2 a k b c j = 0 ∨ ∃ n', σ.1 (g_up σ.2 a k b c j) = some (t, n')
    by_cases e : c = a ∧ j = k
    · obtain ⟨rfl, rfl⟩ := e; rw [g_up_s]; exact ht kd n t hc hj
    · rw [show g_up σ.2 a k b c j = σ.2 c j by unfold g_up; rw [if_neg e]]; exact h.2.2 c kd n j t hc hj
theorem g_fit_ref {t : FieldType} {v : Value} (h : g_fc t = 2) (hv : v = .null ∨ ∃ a, v = .ref a) : narrow t v = v ∧ fits t v = true := by
  cases t <;> first | (exact absurd h (by decide)) | (rcases hv with rfl | ⟨a, rfl⟩ <;> exact ⟨rfl, rfl⟩)
/-- a reference into a field -/
theorem r_putR (J : g_J E cc own nm ret nL tab rk mc ms l) {idx kd n a k N b t : Nat} {C : String} {T : u_T} (hc : g_cls kd C T N) (hf : g_find tab pc = some (.putfield idx, 3, iv)) (hk : k < N) (hw : Cond.fieldLink own idx (T k).1 (T k).2.1 (T k).2.2.1 ∈ g_tb) (ht : g_fc (g_ty kd k) = 2) (hrt : g_rt kd k = some t) (hfin : (T k).2.2.2 = false ∨ ((T k).2.2.2 = true ∧ nm = "<init>" ∧ (T k).1 = own)) (hs : u.1.1 a = some (kd, n)) (hb0 : g_q u.1 b t)
    (kk : g_H E ce sl (pc + 3) lv st ((u.1.1, g_up u.1.2 a k b), u.2) om emb) : g_H E ce sl pc lv (vR b :: vR a :: st) u om emb := by
  intro r hr
  have kk := kk r hr
  obtain ⟨⟨⟨hx, hb, hml, hown, hts⟩, hrt2, hlocks, hK⟩, -, hT, hE⟩ := J
  obtain ⟨p, l, e, R, s, m, args, below, meth, c, D, cy, ad0, u0, nL, mc, ms⟩ := E
  obtain ⟨-, -, -, -, hnm⟩ := hE
  obtain ⟨c1, c2, c3, c4, c5, c6⟩ := hc
  intro ad H locs ls a1 a2 a3 a4 a5 a6 a7
  obtain ⟨L, q, hL, hP, hD, hq, hcell⟩ := a2.get hs
  rw [g_cl_obj c4] at hcell
  show W p l e R s m args below meth c H locs ce sl _ (F0 m pc ls (g_cv ad (vR b) :: g_cv ad (vR a) :: st.map (g_cv ad)))
  rw [g_cv_R (g_ne0 a3 hs)]
  have fin : ∀ (H1 : Heap) (locs1 : List Loc), va_P D vwCl ((g_W cy ad u L).set q (ad a, .inr (kd, ((List.range (g_nf kd)).map fun k => g_sv ad u a k (g_ty kd k)).set k (g_cv ad (vR b))))) H1 → va_D (g_F ad0 u0 s.heap.size) ((g_W cy ad u L).set q (ad a, .inr (kd, ((List.range (g_nf kd)).map fun k => g_sv ad u a k (g_ty kd k)).set k (g_cv ad (vR b))))) → va_S (g_F ad0 u0 s.heap.size) s.heap H1 locs1 → W p l e R s m args below meth c H1 locs1 ce sl (g_end below D cy ad0 u0 args s mc ms (emb r)) (F0 m (pc + 3) ls (st.map (g_cv ad))) := by
    intro H1 locs1 p1 p2 p3
    refine kk ad H1 locs1 ls a1 ?_ (g_C_up a3 (g_q_ok hb0) (fun kd' n' t' h1 h2 => ?_)) p3 (fun v hv => a5 v (List.mem_cons_of_mem _ (List.mem_cons_of_mem _ hv))) a6 a7
    · refine g_P.set hL hD hq rfl (g_put_cell hs rfl c4 ?_ ?_) (fun b hb => g_cell_eq rfl rfl rfl ?_) p1 p2
      · unfold g_sv; rw [if_neg (by rw [ht]; decide), if_neg (by rw [ht]; decide)]; show va_rf (g_rf ad (g_up u.1.2 a k b a k)) = _; rw [g_up_s]; rfl
      · exact fun j hj => g_sv_eq rfl rfl (g_up_k _ _ _ _ hj)
      · funext j; exact g_up_a _ _ _ _ hb
    · rw [hs] at h1; cases h1; rw [hrt] at h2; cases h2; exact hb0
  have hfv := g_fit_ref ht (g_cv_ref ad (.inl b))
  rcases hfin with hfin | ⟨hfin, h1, h2⟩
  · exact va_put hx hb hts c2 (g_ty kd) c5 c6 hown hK.1 hP hD a4 q hcell c1 k hk (hts _ hw) (fun _ h => h) hfin (c5 k hk) hfv.1 hfv.2 (by rw [List.length_map, List.length_range, c3]; exact hk) (g_find_ok hT hf).1 fin
  · exact va_putF hx hb hts c2 (g_ty kd) c5 c6 hown hK.1 hP hD a4 q hcell c1 k hk (hts _ hw) (fun _ h => h) hfin (by rw [hnm]; exact h1) h2 (c5 k hk) hfv.1 hfv.2 (by rw [List.length_map, List.length_range, c3]; exact hk) (g_find_ok hT hf).1 fin
theorem r_if_eq (J : g_J E cc own nm ret nL tab rk mc ms l) {x : Int32} {off : Int} {tgt : Nat} {o1 o2 : Option α} (hf : g_find tab pc = some (.ifCond .eq off, 3, iv)) (ht : (pc : Int) + off = (tgt : Int)) (k1 : x = 0 → g_H E ce sl tgt lv st u o1 emb) (k2 : ¬ x = 0 → g_H E ce sl (pc + 3) lv st u o2 emb) : g_H E ce sl pc lv (vI x :: st) u (if x = 0 then o1 else o2) emb := by
  intro r hr
  have hk1 : x = 0 → g_G E ce sl tgt lv st u (emb r) := fun h => k1 h r (by rw [if_pos h] at hr; exact hr)
  have hk2 : ¬ x = 0 → g_G E ce sl (pc + 3) lv st u (emb r) := fun h => k2 h r (by rw [if_neg h] at hr; exact hr)
  obtain ⟨⟨⟨hx, hb, hml, hown, hts⟩, hrt, hlocks, hK⟩, -, hT, hE⟩ := J
  obtain ⟨p, l, e, R, s, m, args, below, meth, c, D, cy, ad0, u0, nL, mc, ms⟩ := E
  obtain ⟨-, hR, rfl, rfl, hnm⟩ := hE
  intro ad H locs ls a1 a2 a3 a4 a5 a6 a7
  have kt2 := fun h => hk1 h ad H locs ls a1 a2 a3 a4 (fun v hv => a5 v (List.mem_cons_of_mem _ hv)) a6 a7
  have kf2 := fun h => hk2 h ad H locs ls a1 a2 a3 a4 (fun v hv => a5 v (List.mem_cons_of_mem _ hv)) a6 a7
  exact lv_if_eq (pc := pc) (ls := ls) (rest := st.map (g_cv ad)) hx hb (g_find_ok hT hf).1 ht (fun h => kt2 h) (fun h => kf2 h)
theorem r_if_ne (J : g_J E cc own nm ret nL tab rk mc ms l) {x : Int32} {off : Int} {tgt : Nat} {o1 o2 : Option α} (hf : g_find tab pc = some (.ifCond .ne off, 3, iv)) (ht : (pc : Int) + off = (tgt : Int)) (k1 : x = 0 → g_H E ce sl (pc + 3) lv st u o1 emb) (k2 : ¬ x = 0 → g_H E ce sl tgt lv st u o2 emb) : g_H E ce sl pc lv (vI x :: st) u (if x = 0 then o1 else o2) emb := by
  intro r hr
  have hk1 : x = 0 → g_G E ce sl (pc + 3) lv st u (emb r) := fun h => k1 h r (by rw [if_pos h] at hr; exact hr)
  have hk2 : ¬ x = 0 → g_G E ce sl tgt lv st u (emb r) := fun h => k2 h r (by rw [if_neg h] at hr; exact hr)
  obtain ⟨⟨⟨hx, hb, hml, hown, hts⟩, hrt, hlocks, hK⟩, -, hT, hE⟩ := J
  obtain ⟨p, l, e, R, s, m, args, below, meth, c, D, cy, ad0, u0, nL, mc, ms⟩ := E
  obtain ⟨-, hR, rfl, rfl, hnm⟩ := hE
  intro ad H locs ls a1 a2 a3 a4 a5 a6 a7
  have kt2 := fun h => hk1 h ad H locs ls a1 a2 a3 a4 (fun v hv => a5 v (List.mem_cons_of_mem _ hv)) a6 a7
  have kf2 := fun h => hk2 h ad H locs ls a1 a2 a3 a4 (fun v hv => a5 v (List.mem_cons_of_mem _ hv)) a6 a7
  exact lv_if_ne (pc := pc) (ls := ls) (rest := st.map (g_cv ad)) hx hb (g_find_ok hT hf).1 ht (fun h => kf2 h) (fun h => kt2 h)
theorem r_if_lt (J : g_J E cc own nm ret nL tab rk mc ms l) {x : Int32} {off : Int} {tgt : Nat} {o1 o2 : Option α} (hf : g_find tab pc = some (.ifCond .lt off, 3, iv)) (ht : (pc : Int) + off = (tgt : Int)) (k1 : x < 0 → g_H E ce sl tgt lv st u o1 emb) (k2 : ¬ x < 0 → g_H E ce sl (pc + 3) lv st u o2 emb) : g_H E ce sl pc lv (vI x :: st) u (if x < 0 then o1 else o2) emb := by
  intro r hr
  have hk1 : x < 0 → g_G E ce sl tgt lv st u (emb r) := fun h => k1 h r (by rw [if_pos h] at hr; exact hr)
  have hk2 : ¬ x < 0 → g_G E ce sl (pc + 3) lv st u (emb r) := fun h => k2 h r (by rw [if_neg h] at hr; exact hr)
  obtain ⟨⟨⟨hx, hb, hml, hown, hts⟩, hrt, hlocks, hK⟩, -, hT, hE⟩ := J
  obtain ⟨p, l, e, R, s, m, args, below, meth, c, D, cy, ad0, u0, nL, mc, ms⟩ := E
  obtain ⟨-, hR, rfl, rfl, hnm⟩ := hE
  intro ad H locs ls a1 a2 a3 a4 a5 a6 a7
  have kt2 := fun h => hk1 h ad H locs ls a1 a2 a3 a4 (fun v hv => a5 v (List.mem_cons_of_mem _ hv)) a6 a7
  have kf2 := fun h => hk2 h ad H locs ls a1 a2 a3 a4 (fun v hv => a5 v (List.mem_cons_of_mem _ hv)) a6 a7
  exact lv_if_lt (pc := pc) (ls := ls) (rest := st.map (g_cv ad)) hx hb (g_find_ok hT hf).1 ht (fun h => kt2 h) (fun h => kf2 h)
theorem r_if_ge (J : g_J E cc own nm ret nL tab rk mc ms l) {x : Int32} {off : Int} {tgt : Nat} {o1 o2 : Option α} (hf : g_find tab pc = some (.ifCond .ge off, 3, iv)) (ht : (pc : Int) + off = (tgt : Int)) (k1 : x < 0 → g_H E ce sl (pc + 3) lv st u o1 emb) (k2 : ¬ x < 0 → g_H E ce sl tgt lv st u o2 emb) : g_H E ce sl pc lv (vI x :: st) u (if x < 0 then o1 else o2) emb := by
  intro r hr
  have hk1 : x < 0 → g_G E ce sl (pc + 3) lv st u (emb r) := fun h => k1 h r (by rw [if_pos h] at hr; exact hr)
  have hk2 : ¬ x < 0 → g_G E ce sl tgt lv st u (emb r) := fun h => k2 h r (by rw [if_neg h] at hr; exact hr)
  obtain ⟨⟨⟨hx, hb, hml, hown, hts⟩, hrt, hlocks, hK⟩, -, hT, hE⟩ := J
  obtain ⟨p, l, e, R, s, m, args, below, meth, c, D, cy, ad0, u0, nL, mc, ms⟩ := E
  obtain ⟨-, hR, rfl, rfl, hnm⟩ := hE
  intro ad H locs ls a1 a2 a3 a4 a5 a6 a7
  have kt2 := fun h => hk1 h ad H locs ls a1 a2 a3 a4 (fun v hv => a5 v (List.mem_cons_of_mem _ hv)) a6 a7
  have kf2 := fun h => hk2 h ad H locs ls a1 a2 a3 a4 (fun v hv => a5 v (List.mem_cons_of_mem _ hv)) a6 a7
  exact lv_if_ge (pc := pc) (ls := ls) (rest := st.map (g_cv ad)) hx hb (g_find_ok hT hf).1 ht (fun h => kf2 (Int32.not_lt.mpr h)) (fun h => kt2 (Int32.not_le.mp h))
theorem r_if_gt (J : g_J E cc own nm ret nL tab rk mc ms l) {x : Int32} {off : Int} {tgt : Nat} {o1 o2 : Option α} (hf : g_find tab pc = some (.ifCond .gt off, 3, iv)) (ht : (pc : Int) + off = (tgt : Int)) (k1 : 0 < x → g_H E ce sl tgt lv st u o1 emb) (k2 : ¬ 0 < x → g_H E ce sl (pc + 3) lv st u o2 emb) : g_H E ce sl pc lv (vI x :: st) u (if 0 < x then o1 else o2) emb := by
  intro r hr
  have hk1 : 0 < x → g_G E ce sl tgt lv st u (emb r) := fun h => k1 h r (by rw [if_pos h] at hr; exact hr)
  have hk2 : ¬ 0 < x → g_G E ce sl (pc + 3) lv st u (emb r) := fun h => k2 h r (by rw [if_neg h] at hr; exact hr)
  obtain ⟨⟨⟨hx, hb, hml, hown, hts⟩, hrt, hlocks, hK⟩, -, hT, hE⟩ := J
  obtain ⟨p, l, e, R, s, m, args, below, meth, c, D, cy, ad0, u0, nL, mc, ms⟩ := E
  obtain ⟨-, hR, rfl, rfl, hnm⟩ := hE
  intro ad H locs ls a1 a2 a3 a4 a5 a6 a7
  have kt2 := fun h => hk1 h ad H locs ls a1 a2 a3 a4 (fun v hv => a5 v (List.mem_cons_of_mem _ hv)) a6 a7
  have kf2 := fun h => hk2 h ad H locs ls a1 a2 a3 a4 (fun v hv => a5 v (List.mem_cons_of_mem _ hv)) a6 a7
  exact lv_if_gt (pc := pc) (ls := ls) (rest := st.map (g_cv ad)) hx hb (g_find_ok hT hf).1 ht (fun h => kt2 h) (fun h => kf2 h)
theorem r_if_le (J : g_J E cc own nm ret nL tab rk mc ms l) {x : Int32} {off : Int} {tgt : Nat} {o1 o2 : Option α} (hf : g_find tab pc = some (.ifCond .le off, 3, iv)) (ht : (pc : Int) + off = (tgt : Int)) (k1 : 0 < x → g_H E ce sl (pc + 3) lv st u o1 emb) (k2 : ¬ 0 < x → g_H E ce sl tgt lv st u o2 emb) : g_H E ce sl pc lv (vI x :: st) u (if 0 < x then o1 else o2) emb := by
  intro r hr
  have hk1 : 0 < x → g_G E ce sl (pc + 3) lv st u (emb r) := fun h => k1 h r (by rw [if_pos h] at hr; exact hr)
  have hk2 : ¬ 0 < x → g_G E ce sl tgt lv st u (emb r) := fun h => k2 h r (by rw [if_neg h] at hr; exact hr)
  obtain ⟨⟨⟨hx, hb, hml, hown, hts⟩, hrt, hlocks, hK⟩, -, hT, hE⟩ := J
  obtain ⟨p, l, e, R, s, m, args, below, meth, c, D, cy, ad0, u0, nL, mc, ms⟩ := E
  obtain ⟨-, hR, rfl, rfl, hnm⟩ := hE
  intro ad H locs ls a1 a2 a3 a4 a5 a6 a7
  have kt2 := fun h => hk1 h ad H locs ls a1 a2 a3 a4 (fun v hv => a5 v (List.mem_cons_of_mem _ hv)) a6 a7
  have kf2 := fun h => hk2 h ad H locs ls a1 a2 a3 a4 (fun v hv => a5 v (List.mem_cons_of_mem _ hv)) a6 a7
  exact lv_if_le (pc := pc) (ls := ls) (rest := st.map (g_cv ad)) hx hb (g_find_ok hT hf).1 ht (fun h => kf2 (Int32.not_lt.mpr h)) (fun h => kt2 (Int32.not_le.mp h))
theorem r_icmp_eq (J : g_J E cc own nm ret nL tab rk mc ms l) {x y : Int32} {off : Int} {tgt : Nat} {o1 o2 : Option α} (hf : g_find tab pc = some (.if_icmp .eq off, 3, iv)) (ht : (pc : Int) + off = (tgt : Int)) (k1 : x = y → g_H E ce sl tgt lv st u o1 emb) (k2 : ¬ x = y → g_H E ce sl (pc + 3) lv st u o2 emb) : g_H E ce sl pc lv (vI y :: vI x :: st) u (if x = y then o1 else o2) emb := by
  intro r hr
  have hk1 : x = y → g_G E ce sl tgt lv st u (emb r) := fun h => k1 h r (by rw [if_pos h] at hr; exact hr)
  have hk2 : ¬ x = y → g_G E ce sl (pc + 3) lv st u (emb r) := fun h => k2 h r (by rw [if_neg h] at hr; exact hr)
  obtain ⟨⟨⟨hx, hb, hml, hown, hts⟩, hrt, hlocks, hK⟩, -, hT, hE⟩ := J
  obtain ⟨p, l, e, R, s, m, args, below, meth, c, D, cy, ad0, u0, nL, mc, ms⟩ := E
  obtain ⟨-, hR, rfl, rfl, hnm⟩ := hE
  intro ad H locs ls a1 a2 a3 a4 a5 a6 a7
  have kt2 := fun h => hk1 h ad H locs ls a1 a2 a3 a4 (fun v hv => a5 v (List.mem_cons_of_mem _ (List.mem_cons_of_mem _ hv))) a6 a7
  have kf2 := fun h => hk2 h ad H locs ls a1 a2 a3 a4 (fun v hv => a5 v (List.mem_cons_of_mem _ (List.mem_cons_of_mem _ hv))) a6 a7
  exact lv_icmp_eq (pc := pc) (ls := ls) (rest := st.map (g_cv ad)) hx hb (g_find_ok hT hf).1 ht (fun h => kt2 h) (fun h => kf2 h)
theorem r_icmp_ne (J : g_J E cc own nm ret nL tab rk mc ms l) {x y : Int32} {off : Int} {tgt : Nat} {o1 o2 : Option α} (hf : g_find tab pc = some (.if_icmp .ne off, 3, iv)) (ht : (pc : Int) + off = (tgt : Int)) (k1 : x = y → g_H E ce sl (pc + 3) lv st u o1 emb) (k2 : ¬ x = y → g_H E ce sl tgt lv st u o2 emb) : g_H E ce sl pc lv (vI y :: vI x :: st) u (if x = y then o1 else o2) emb := by
  intro r hr
  have hk1 : x = y → g_G E ce sl (pc + 3) lv st u (emb r) := fun h => k1 h r (by rw [if_pos h] at hr; exact hr)
  have hk2 : ¬ x = y → g_G E ce sl tgt lv st u (emb r) := fun h => k2 h r (by rw [if_neg h] at hr; exact hr)
  obtain ⟨⟨⟨hx, hb, hml, hown, hts⟩, hrt, hlocks, hK⟩, -, hT, hE⟩ := J
  obtain ⟨p, l, e, R, s, m, args, below, meth, c, D, cy, ad0, u0, nL, mc, ms⟩ := E
  obtain ⟨-, hR, rfl, rfl, hnm⟩ := hE
  intro ad H locs ls a1 a2 a3 a4 a5 a6 a7
  have kt2 := fun h => hk1 h ad H locs ls a1 a2 a3 a4 (fun v hv => a5 v (List.mem_cons_of_mem _ (List.mem_cons_of_mem _ hv))) a6 a7
  have kf2 := fun h => hk2 h ad H locs ls a1 a2 a3 a4 (fun v hv => a5 v (List.mem_cons_of_mem _ (List.mem_cons_of_mem _ hv))) a6 a7
  exact lv_icmp_ne (pc := pc) (ls := ls) (rest := st.map (g_cv ad)) hx hb (g_find_ok hT hf).1 ht (fun h => kf2 h) (fun h => kt2 h)
theorem r_icmp_lt (J : g_J E cc own nm ret nL tab rk mc ms l) {x y : Int32} {off : Int} {tgt : Nat} {o1 o2 : Option α} (hf : g_find tab pc = some (.if_icmp .lt off, 3, iv)) (ht : (pc : Int) + off = (tgt : Int)) (k1 : x < y → g_H E ce sl tgt lv st u o1 emb) (k2 : ¬ x < y → g_H E ce sl (pc + 3) lv st u o2 emb) : g_H E ce sl pc lv (vI y :: vI x :: st) u (if x < y then o1 else o2) emb := by
  intro r hr
  have hk1 : x < y → g_G E ce sl tgt lv st u (emb r) := fun h => k1 h r (by rw [if_pos h] at hr; exact hr)
  have hk2 : ¬ x < y → g_G E ce sl (pc + 3) lv st u (emb r) := fun h => k2 h r (by rw [if_neg h] at hr; exact hr)
  obtain ⟨⟨⟨hx, hb, hml, hown, hts⟩, hrt, hlocks, hK⟩, -, hT, hE⟩ := J
  obtain ⟨p, l, e, R, s, m, args, below, meth, c, D, cy, ad0, u0, nL, mc, ms⟩ := E
  obtain ⟨-, hR, rfl, rfl, hnm⟩ := hE
  intro ad H locs ls a1 a2 a3 a4 a5 a6 a7
  have kt2 := fun h => hk1 h ad H locs ls a1 a2 a3 a4 (fun v hv => a5 v (List.mem_cons_of_mem _ (List.mem_cons_of_mem _ hv))) a6 a7
  have kf2 := fun h => hk2 h ad H locs ls a1 a2 a3 a4 (fun v hv => a5 v (List.mem_cons_of_mem _ (List.mem_cons_of_mem _ hv))) a6 a7
  exact lv_icmp_lt (pc := pc) (ls := ls) (rest := st.map (g_cv ad)) hx hb (g_find_ok hT hf).1 ht (fun h => kt2 h) (fun h => kf2 h)
theorem r_icmp_ge (J : g_J E cc own nm ret nL tab rk mc ms l) {x y : Int32} {off : Int} {tgt : Nat} {o1 o2 : Option α} (hf : g_find tab pc = some (.if_icmp .ge off, 3, iv)) (ht : (pc : Int) + off = (tgt : Int)) (k1 : x < y → g_H E ce sl (pc + 3) lv st u o1 emb) (k2 : ¬ x < y → g_H E ce sl tgt lv st u o2 emb) : g_H E ce sl pc lv (vI y :: vI x :: st) u (if x < y then o1 else o2) emb := by
  intro r hr
  have hk1 : x < y → g_G E ce sl (pc + 3) lv st u (emb r) := fun h => k1 h r (by rw [if_pos h] at hr; exact hr)
  have hk2 : ¬ x < y → g_G E ce sl tgt lv st u (emb r) := fun h => k2 h r (by rw [if_neg h] at hr; exact hr)
  obtain ⟨⟨⟨hx, hb, hml, hown, hts⟩, hrt, hlocks, hK⟩, -, hT, hE⟩ := J
  obtain ⟨p, l, e, R, s, m, args, below, meth, c, D, cy, ad0, u0, nL, mc, ms⟩ := E
  obtain ⟨-, hR, rfl, rfl, hnm⟩ := hE
  intro ad H locs ls a1 a2 a3 a4 a5 a6 a7
  have kt2 := fun h => hk1 h ad H locs ls a1 a2 a3 a4 (fun v hv => a5 v (List.mem_cons_of_mem _ (List.mem_cons_of_mem _ hv))) a6 a7
  have kf2 := fun h => hk2 h ad H locs ls a1 a2 a3 a4 (fun v hv => a5 v (List.mem_cons_of_mem _ (List.mem_cons_of_mem _ hv))) a6 a7
  exact lv_icmp_ge (pc := pc) (ls := ls) (rest := st.map (g_cv ad)) hx hb (g_find_ok hT hf).1 ht (fun h => kf2 (Int32.not_lt.mpr h)) (fun h => kt2 (Int32.not_le.mp h))
theorem r_icmp_gt (J : g_J E cc own nm ret nL tab rk mc ms l) {x y : Int32} {off : Int} {tgt : Nat} {o1 o2 : Option α} (hf : g_find tab pc = some (.if_icmp .gt off, 3, iv)) (ht : (pc : Int) + off = (tgt : Int)) (k1 : y < x → g_H E ce sl tgt lv st u o1 emb) (k2 : ¬ y < x → g_H E ce sl (pc + 3) lv st u o2 emb) : g_H E ce sl pc lv (vI y :: vI x :: st) u (if y < x then o1 else o2) emb := by
  intro r hr
  have hk1 : y < x → g_G E ce sl tgt lv st u (emb r) := fun h => k1 h r (by rw [if_pos h] at hr; exact hr)
  have hk2 : ¬ y < x → g_G E ce sl (pc + 3) lv st u (emb r) := fun h => k2 h r (by rw [if_neg h] at hr; exact hr)
  obtain ⟨⟨⟨hx, hb, hml, hown, hts⟩, hrt, hlocks, hK⟩, -, hT, hE⟩ := J
  obtain ⟨p, l, e, R, s, m, args, below, meth, c, D, cy, ad0, u0, nL, mc, ms⟩ := E
  obtain ⟨-, hR, rfl, rfl, hnm⟩ := hE
  intro ad H locs ls a1 a2 a3 a4 a5 a6 a7
  have kt2 := fun h => hk1 h ad H locs ls a1 a2 a3 a4 (fun v hv => a5 v (List.mem_cons_of_mem _ (List.mem_cons_of_mem _ hv))) a6 a7
  have kf2 := fun h => hk2 h ad H locs ls a1 a2 a3 a4 (fun v hv => a5 v (List.mem_cons_of_mem _ (List.mem_cons_of_mem _ hv))) a6 a7
  exact lv_icmp_gt (pc := pc) (ls := ls) (rest := st.map (g_cv ad)) hx hb (g_find_ok hT hf).1 ht (fun h => kt2 h) (fun h => kf2 h)
theorem r_icmp_le (J : g_J E cc own nm ret nL tab rk mc ms l) {x y : Int32} {off : Int} {tgt : Nat} {o1 o2 : Option α} (hf : g_find tab pc = some (.if_icmp .le off, 3, iv)) (ht : (pc : Int) + off = (tgt : Int)) (k1 : y < x → g_H E ce sl (pc + 3) lv st u o1 emb) (k2 : ¬ y < x → g_H E ce sl tgt lv st u o2 emb) : g_H E ce sl pc lv (vI y :: vI x :: st) u (if y < x then o1 else o2) emb := by
  intro r hr
  have hk1 : y < x → g_G E ce sl (pc + 3) lv st u (emb r) := fun h => k1 h r (by rw [if_pos h] at hr; exact hr)
  have hk2 : ¬ y < x → g_G E ce sl tgt lv st u (emb r) := fun h => k2 h r (by rw [if_neg h] at hr; exact hr)
  obtain ⟨⟨⟨hx, hb, hml, hown, hts⟩, hrt, hlocks, hK⟩, -, hT, hE⟩ := J
  obtain ⟨p, l, e, R, s, m, args, below, meth, c, D, cy, ad0, u0, nL, mc, ms⟩ := E
  obtain ⟨-, hR, rfl, rfl, hnm⟩ := hE
  intro ad H locs ls a1 a2 a3 a4 a5 a6 a7
  have kt2 := fun h => hk1 h ad H locs ls a1 a2 a3 a4 (fun v hv => a5 v (List.mem_cons_of_mem _ (List.mem_cons_of_mem _ hv))) a6 a7
  have kf2 := fun h => hk2 h ad H locs ls a1 a2 a3 a4 (fun v hv => a5 v (List.mem_cons_of_mem _ (List.mem_cons_of_mem _ hv))) a6 a7
  exact lv_icmp_le (pc := pc) (ls := ls) (rest := st.map (g_cv ad)) hx hb (g_find_ok hT hf).1 ht (fun h => kf2 (Int32.not_lt.mpr h)) (fun h => kt2 (Int32.not_le.mp h))
theorem r_ifnull (J : g_J E cc own nm ret nL tab rk mc ms l) {a : Nat} {off : Int} {tgt : Nat} {o1 o2 : Option α} (hf : g_find tab pc = some (.ifnull off, 3, iv)) (ht : (pc : Int) + off = (tgt : Int)) (k1 : a = 0 → g_H E ce sl tgt lv st u o1 emb) (k2 : ¬ a = 0 → g_H E ce sl (pc + 3) lv st u o2 emb) : g_H E ce sl pc lv (vR a :: st) u (if a = 0 then o1 else o2) emb := by
  intro r hr
  have hk1 : a = 0 → g_G E ce sl tgt lv st u (emb r) := fun h => k1 h r (by rw [if_pos h] at hr; exact hr)
  have hk2 : ¬ a = 0 → g_G E ce sl (pc + 3) lv st u (emb r) := fun h => k2 h r (by rw [if_neg h] at hr; exact hr)
  obtain ⟨⟨⟨hx, hb, hml, hown, hts⟩, hrt, hlocks, hK⟩, -, hT, hE⟩ := J
  obtain ⟨p, l, e, R, s, m, args, below, meth, c, D, cy, ad0, u0, nL, mc, ms⟩ := E
  obtain ⟨-, hR, rfl, rfl, hnm⟩ := hE
  intro ad H locs ls a1 a2 a3 a4 a5 a6 a7
  have tl : ∀ v ∈ st, g_ok u.1 v := fun v hv => a5 v (List.mem_cons_of_mem _ hv)
  by_cases h : a = 0
  · subst h
    show W p l e R s m args below meth c H locs ce sl _ (F0 m pc ls (.null :: st.map (g_cv ad)))
    exact lv_ifnullN hx hb (g_find_ok hT hf).1 ht (hk1 rfl ad H locs ls a1 a2 a3 a4 tl a6 a7)
  · show W p l e R s m args below meth c H locs ce sl _ (F0 m pc ls (g_cv ad (vR a) :: st.map (g_cv ad)))
    rw [g_cv_R h]
    exact lv_ifnull hx hb (g_find_ok hT hf).1 (hk2 h ad H locs ls a1 a2 a3 a4 tl a6 a7)
theorem r_ifnonnull (J : g_J E cc own nm ret nL tab rk mc ms l) {a : Nat} {off : Int} {tgt : Nat} {o1 o2 : Option α} (hf : g_find tab pc = some (.ifnonnull off, 3, iv)) (ht : (pc : Int) + off = (tgt : Int)) (k1 : a = 0 → g_H E ce sl (pc + 3) lv st u o1 emb) (k2 : ¬ a = 0 → g_H E ce sl tgt lv st u o2 emb) : g_H E ce sl pc lv (vR a :: st) u (if a = 0 then o1 else o2) emb := by
  intro r hr
  have hk1 : a = 0 → g_G E ce sl (pc + 3) lv st u (emb r) := fun h => k1 h r (by rw [if_pos h] at hr; exact hr)
  have hk2 : ¬ a = 0 → g_G E ce sl tgt lv st u (emb r) := fun h => k2 h r (by rw [if_neg h] at hr; exact hr)
  obtain ⟨⟨⟨hx, hb, hml, hown, hts⟩, hrt, hlocks, hK⟩, -, hT, hE⟩ := J
  obtain ⟨p, l, e, R, s, m, args, below, meth, c, D, cy, ad0, u0, nL, mc, ms⟩ := E
  obtain ⟨-, hR, rfl, rfl, hnm⟩ := hE
  intro ad H locs ls a1 a2 a3 a4 a5 a6 a7
  have tl : ∀ v ∈ st, g_ok u.1 v := fun v hv => a5 v (List.mem_cons_of_mem _ hv)
  by_cases h : a = 0
  · subst h
    show W p l e R s m args below meth c H locs ce sl _ (F0 m pc ls (.null :: st.map (g_cv ad)))
    exact lv_ifnonnullN hx hb (g_find_ok hT hf).1 (hk1 rfl ad H locs ls a1 a2 a3 a4 tl a6 a7)
  · show W p l e R s m args below meth c H locs ce sl _ (F0 m pc ls (g_cv ad (vR a) :: st.map (g_cv ad)))
    rw [g_cv_R h]
    exact lv_ifnonnull hx hb (g_find_ok hT hf).1 ht (hk2 h ad H locs ls a1 a2 a3 a4 tl a6 a7)
theorem r_idiv (J : g_J E cc own nm ret nL tab rk mc ms l) {x y : Int32} (hf : g_find tab pc = some (.idiv, 1, iv)) (k : ¬ y = 0 → g_H E ce sl (pc + 1) lv (vI (x / y) :: st) u om emb) : g_H E ce sl pc lv (vI y :: vI x :: st) u (if y = 0 then none else om) emb := by
  intro r hr
  by_cases h : y = 0
  · rw [if_pos h] at hr; cases hr
  · rw [if_neg h] at hr
    have k := k h r hr
    obtain ⟨⟨⟨hx, hb, hml, hown, hts⟩, hrt, hlocks, hK⟩, -, hT, hE⟩ := J
    obtain ⟨p, l, e, R, s, m, args, below, meth, c, D, cy, ad0, u0, nL, mc, ms⟩ := E
    obtain ⟨-, hR, rfl, rfl, hnm⟩ := hE
    intro ad H locs ls a1 a2 a3 a4 a5 a6 a7
    exact lv_idiv (pc := pc) (ls := ls) (rest := st.map (g_cv ad)) hx hb (g_find_ok hT hf).1 h (k ad H locs ls a1 a2 a3 a4 (List.forall_mem_cons.mpr ⟨trivial, fun v hv => a5 v (List.mem_cons_of_mem _ (List.mem_cons_of_mem _ hv))⟩) a6 a7)
theorem r_irem (J : g_J E cc own nm ret nL tab rk mc ms l) {x y : Int32} (hf : g_find tab pc = some (.irem, 1, iv)) (k : ¬ y = 0 → g_H E ce sl (pc + 1) lv (vI (x - x / y * y) :: st) u om emb) : g_H E ce sl pc lv (vI y :: vI x :: st) u (if y = 0 then none else om) emb := by
  intro r hr
  by_cases h : y = 0
  · rw [if_pos h] at hr; cases hr
  · rw [if_neg h] at hr
    have k := k h r hr
    obtain ⟨⟨⟨hx, hb, hml, hown, hts⟩, hrt, hlocks, hK⟩, -, hT, hE⟩ := J
    obtain ⟨p, l, e, R, s, m, args, below, meth, c, D, cy, ad0, u0, nL, mc, ms⟩ := E
    obtain ⟨-, hR, rfl, rfl, hnm⟩ := hE
    intro ad H locs ls a1 a2 a3 a4 a5 a6 a7
    exact lv_irem (pc := pc) (ls := ls) (rest := st.map (g_cv ad)) hx hb (g_find_ok hT hf).1 h (k ad H locs ls a1 a2 a3 a4 (List.forall_mem_cons.mpr ⟨trivial, fun v hv => a5 v (List.mem_cons_of_mem _ (List.mem_cons_of_mem _ hv))⟩) a6 a7)
theorem r_ldc (J : g_J E cc own nm ret nL tab rk mc ms l) {idx : Nat} {x : Int32} (hf : g_find tab pc = some (.ldc idx, 2, iv)) (hw : Cond.constant own idx x ∈ g_tb) (k : g_H E ce sl (pc + 2) lv (vI x :: st) u om emb) : g_H E ce sl pc lv st u om emb := by
  intro r hr
  have k := k r hr
  obtain ⟨⟨⟨hx, hb, hml, hown, hts⟩, hrt, hlocks, hK⟩, -, hT, hE⟩ := J
  obtain ⟨p, l, e, R, s, m, args, below, meth, c, D, cy, ad0, u0, nL, mc, ms⟩ := E
  obtain ⟨-, hR, rfl, rfl, hnm⟩ := hE
  intro ad H locs ls a1 a2 a3 a4 a5 a6 a7
  exact lv_ldc hx hb hown (hts _ hw) (g_find_ok hT hf).1 (k ad H locs ls a1 a2 a3 a4 (List.forall_mem_cons.mpr ⟨trivial, a5⟩) a6 a7)
theorem r_ldcw (J : g_J E cc own nm ret nL tab rk mc ms l) {idx : Nat} {x : Int32} (hf : g_find tab pc = some (.ldc_w idx, 3, iv)) (hw : Cond.constant own idx x ∈ g_tb) (k : g_H E ce sl (pc + 3) lv (vI x :: st) u om emb) : g_H E ce sl pc lv st u om emb := by
  intro r hr
  have k := k r hr
  obtain ⟨⟨⟨hx, hb, hml, hown, hts⟩, hrt, hlocks, hK⟩, -, hT, hE⟩ := J
  obtain ⟨p, l, e, R, s, m, args, below, meth, c, D, cy, ad0, u0, nL, mc, ms⟩ := E
  obtain ⟨-, hR, rfl, rfl, hnm⟩ := hE
  intro ad H locs ls a1 a2 a3 a4 a5 a6 a7
  exact lv_ldcw hx hb hown (hts _ hw) (g_find_ok hT hf).1 (k ad H locs ls a1 a2 a3 a4 (List.forall_mem_cons.mpr ⟨trivial, a5⟩) a6 a7)
theorem r_ldc2 (J : g_J E cc own nm ret nL tab rk mc ms l) {idx : Nat} {x : Int64} (hf : g_find tab pc = some (.ldc2_w idx, 3, iv)) (hw : Cond.constantLong own idx x ∈ g_tb) (k : g_H E ce sl (pc + 3) lv (vL x :: st) u om emb) : g_H E ce sl pc lv st u om emb := by
  intro r hr
  have k := k r hr
  obtain ⟨⟨⟨hx, hb, hml, hown, hts⟩, hrt, hlocks, hK⟩, -, hT, hE⟩ := J
  obtain ⟨p, l, e, R, s, m, args, below, meth, c, D, cy, ad0, u0, nL, mc, ms⟩ := E
  obtain ⟨-, hR, rfl, rfl, hnm⟩ := hE
  intro ad H locs ls a1 a2 a3 a4 a5 a6 a7
  exact lv_ldc2 hx hb hown (hts _ hw) (g_find_ok hT hf).1 (k ad H locs ls a1 a2 a3 a4 (List.forall_mem_cons.mpr ⟨trivial, a5⟩) a6 a7)
theorem r_iald (J : g_J E cc own nm ret nL tab rk mc ms l) {a n : Nat} {i : Int32} (hf : g_find tab pc = some (.iaload, 1, iv)) (hs : u.1.1 a = some (14, n)) (k : g_in i n = true → g_H E ce sl (pc + 1) lv (vI (u.2.1 a i.toNatClampNeg) :: st) u om emb) : g_H E ce sl pc lv (vI i :: vR a :: st) u (if g_in i n = true then om else none) emb := by
  intro r hr
  by_cases h : g_in i n = true
  · rw [if_pos h] at hr
    have k := k h r hr
    obtain ⟨⟨⟨hx, hb, hml, hown, hts⟩, hrt, hlocks, hK⟩, -, hT, hE⟩ := J
    obtain ⟨p, l, e, R, s, m, args, below, meth, c, D, cy, ad0, u0, nL, mc, ms⟩ := E
    obtain ⟨-, hR, rfl, rfl, hnm⟩ := hE
    intro ad H locs ls a1 a2 a3 a4 a5 a6 a7
    obtain ⟨L, q, hL, hP, hD, hq, hcell⟩ := a2.get hs
    rw [g_cl_arr (by decide)] at hcell
    show W p l e R s m args below meth c H locs ce sl _ (F0 m pc ls (.int i :: g_cv ad (vR a) :: st.map (g_cv ad)))
    rw [g_cv_R (g_ne0 a3 hs)]
    exact va_iald hx hb hK.1 hP q 1 hcell rfl (g_in_vp h) (g_find_ok hT hf).1 (k ad H locs ls a1 a2 a3 a4 (List.forall_mem_cons.mpr ⟨trivial, fun v hv => a5 v (List.mem_cons_of_mem _ (List.mem_cons_of_mem _ hv))⟩) a6 a7)
  · rw [if_neg h] at hr; cases hr
theorem r_bald (J : g_J E cc own nm ret nL tab rk mc ms l) {a n : Nat} {i : Int32} (hf : g_find tab pc = some (.baload, 1, iv)) (hs : u.1.1 a = some (13, n)) (k : g_in i n = true → g_H E ce sl (pc + 1) lv (vI (u.2.1 a i.toNatClampNeg) :: st) u om emb) : g_H E ce sl pc lv (vI i :: vR a :: st) u (if g_in i n = true then om else none) emb := by
  intro r hr
  by_cases h : g_in i n = true
  · rw [if_pos h] at hr
    have k := k h r hr
    obtain ⟨⟨⟨hx, hb, hml, hown, hts⟩, hrt, hlocks, hK⟩, -, hT, hE⟩ := J
    obtain ⟨p, l, e, R, s, m, args, below, meth, c, D, cy, ad0, u0, nL, mc, ms⟩ := E
    obtain ⟨-, hR, rfl, rfl, hnm⟩ := hE
    intro ad H locs ls a1 a2 a3 a4 a5 a6 a7
    obtain ⟨L, q, hL, hP, hD, hq, hcell⟩ := a2.get hs
    rw [g_cl_arr (by decide)] at hcell
    show W p l e R s m args below meth c H locs ce sl _ (F0 m pc ls (.int i :: g_cv ad (vR a) :: st.map (g_cv ad)))
    rw [g_cv_R (g_ne0 a3 hs)]
    exact va_bald hx hb hK.1 hP q 0 hcell rfl (g_in_vp h) (g_find_ok hT hf).1 (k ad H locs ls a1 a2 a3 a4 (List.forall_mem_cons.mpr ⟨trivial, fun v hv => a5 v (List.mem_cons_of_mem _ (List.mem_cons_of_mem _ hv))⟩) a6 a7)
  · rw [if_neg h] at hr; cases hr
theorem r_zald (J : g_J E cc own nm ret nL tab rk mc ms l) {a n : Nat} {i : Int32} (hf : g_find tab pc = some (.baload, 1, iv)) (hs : u.1.1 a = some (15, n)) (k : g_in i n = true → g_H E ce sl (pc + 1) lv (vI (u.2.1 a i.toNatClampNeg) :: st) u om emb) : g_H E ce sl pc lv (vI i :: vR a :: st) u (if g_in i n = true then om else none) emb := by
  intro r hr
  by_cases h : g_in i n = true
  · rw [if_pos h] at hr
    have k := k h r hr
    obtain ⟨⟨⟨hx, hb, hml, hown, hts⟩, hrt, hlocks, hK⟩, -, hT, hE⟩ := J
    obtain ⟨p, l, e, R, s, m, args, below, meth, c, D, cy, ad0, u0, nL, mc, ms⟩ := E
    obtain ⟨-, hR, rfl, rfl, hnm⟩ := hE
    intro ad H locs ls a1 a2 a3 a4 a5 a6 a7
    obtain ⟨L, q, hL, hP, hD, hq, hcell⟩ := a2.get hs
    rw [g_cl_arr (by decide)] at hcell
    show W p l e R s m args below meth c H locs ce sl _ (F0 m pc ls (.int i :: g_cv ad (vR a) :: st.map (g_cv ad)))
    rw [g_cv_R (g_ne0 a3 hs)]
    exact va_zald hx hb hK.1 hP q 2 hcell rfl (g_in_vp h) (g_find_ok hT hf).1 (k ad H locs ls a1 a2 a3 a4 (List.forall_mem_cons.mpr ⟨trivial, fun v hv => a5 v (List.mem_cons_of_mem _ (List.mem_cons_of_mem _ hv))⟩) a6 a7)
  · rw [if_neg h] at hr; cases hr
theorem r_lald (J : g_J E cc own nm ret nL tab rk mc ms l) {a n : Nat} {i : Int32} (hf : g_find tab pc = some (.laload, 1, iv)) (hs : u.1.1 a = some (16, n)) (k : g_in i n = true → g_H E ce sl (pc + 1) lv (vL (u.2.2 a i.toNatClampNeg) :: st) u om emb) : g_H E ce sl pc lv (vI i :: vR a :: st) u (if g_in i n = true then om else none) emb := by
  intro r hr
  by_cases h : g_in i n = true
  · rw [if_pos h] at hr
    have k := k h r hr
    obtain ⟨⟨⟨hx, hb, hml, hown, hts⟩, hrt, hlocks, hK⟩, -, hT, hE⟩ := J
    obtain ⟨p, l, e, R, s, m, args, below, meth, c, D, cy, ad0, u0, nL, mc, ms⟩ := E
    obtain ⟨-, hR, rfl, rfl, hnm⟩ := hE
    intro ad H locs ls a1 a2 a3 a4 a5 a6 a7
    obtain ⟨L, q, hL, hP, hD, hq, hcell⟩ := a2.get hs
    rw [g_cl_arr (by decide)] at hcell
    show W p l e R s m args below meth c H locs ce sl _ (F0 m pc ls (.int i :: g_cv ad (vR a) :: st.map (g_cv ad)))
    rw [g_cv_R (g_ne0 a3 hs)]
    exact va_lald hx hb hK.1 hP q 3 hcell rfl (g_in_vp h) (g_find_ok hT hf).1 (k ad H locs ls a1 a2 a3 a4 (List.forall_mem_cons.mpr ⟨trivial, fun v hv => a5 v (List.mem_cons_of_mem _ (List.mem_cons_of_mem _ hv))⟩) a6 a7)
  · rw [if_neg h] at hr; cases hr
/-- a reference out of an array -/
theorem r_aald (J : g_J E cc own nm ret nL tab rk mc ms l) {a n kd t : Nat} {i : Int32} (hf : g_find tab pc = some (.aaload, 1, iv)) (hkd : (kd = 17 ∧ t = 6) ∨ (kd = 18 ∧ t = 8) ∨ (kd = 19 ∧ t = 10)) (hs : u.1.1 a = some (kd, n)) (k : g_in i n = true → g_q u.1 (u.1.2 a i.toNatClampNeg) t → g_H E ce sl (pc + 1) lv (vR (u.1.2 a i.toNatClampNeg) :: st) u om emb) : g_H E ce sl pc lv (vI i :: vR a :: st) u (if g_in i n = true then om else none) emb := by
  intro r hr
  by_cases h : g_in i n = true
  · rw [if_pos h] at hr
    obtain ⟨⟨⟨hx, hb, hml, hown, hts⟩, hrt, hlocks, hK⟩, -, hT, hE⟩ := J
    obtain ⟨p, l, e, R, s, m, args, below, meth, c, D, cy, ad0, u0, nL, mc, ms⟩ := E
    obtain ⟨-, hR, rfl, rfl, hnm⟩ := hE
    intro ad H locs ls a1 a2 a3 a4 a5 a6 a7
    obtain ⟨L, q, hL, hP, hD, hq, hcell⟩ := a2.get hs
    have hqq : g_q u.1 (u.1.2 a i.toNatClampNeg) t := by
      rcases hkd with ⟨rfl, rfl⟩ | ⟨rfl, rfl⟩ | ⟨rfl, rfl⟩ <;> exact a3.2.2 a _ n _ _ hs rfl
    have k := k h hqq r hr
    show W p l e R s m args below meth c H locs ce sl _ (F0 m pc ls (.int i :: g_cv ad (vR a) :: st.map (g_cv ad)))
    rw [g_cv_R (g_ne0 a3 hs)]
    have h2 := k ad H locs ls a1 a2 a3 a4 (List.forall_mem_cons.mpr ⟨g_q_ok hqq, fun v hv => a5 v (List.mem_cons_of_mem _ (List.mem_cons_of_mem _ hv))⟩) a6 a7
    rcases hkd with ⟨rfl, rfl⟩ | ⟨rfl, rfl⟩ | ⟨rfl, rfl⟩
    · rw [g_cl_arr (by decide)] at hcell
      exact va_aldq hx hb hK.1 hP q 4 hcell rfl (g_in_vp h) (g_find_ok hT hf).1 h2
    · rw [g_cl_arr (by decide)] at hcell
      exact va_aldq hx hb hK.1 hP q 5 hcell rfl (g_in_vp h) (g_find_ok hT hf).1 h2
    · rw [g_cl_arr (by decide)] at hcell
      exact va_aldq hx hb hK.1 hP q 6 hcell rfl (g_in_vp h) (g_find_ok hT hf).1 h2
  · rw [if_neg h] at hr; cases hr
theorem r_iast (J : g_J E cc own nm ret nL tab rk mc ms l) {a n : Nat} {i : Int32} {x : Int32} (hf : g_find tab pc = some (.iastore, 1, iv)) (hs : u.1.1 a = some (14, n)) (k : g_in i n = true → g_H E ce sl (pc + 1) lv st (u.1, g_up u.2.1 a i.toNatClampNeg x, u.2.2) om emb) : g_H E ce sl pc lv (vI x :: vI i :: vR a :: st) u (if g_in i n = true then om else none) emb := by
  intro r hr
  by_cases h : g_in i n = true
  · rw [if_pos h] at hr
    have k := k h r hr
    obtain ⟨⟨⟨hx, hb, hml, hown, hts⟩, hrt, hlocks, hK⟩, -, hT, hE⟩ := J
    obtain ⟨p, l, e, R, s, m, args, below, meth, c, D, cy, ad0, u0, nL, mc, ms⟩ := E
    obtain ⟨-, hR, rfl, rfl, hnm⟩ := hE
    intro ad H locs ls a1 a2 a3 a4 a5 a6 a7
    obtain ⟨L, q, hL, hP, hD, hq, hcell⟩ := a2.get hs
    rw [g_cl_arr (by decide)] at hcell
    show W p l e R s m args below meth c H locs ce sl _ (F0 m pc ls (.int x :: .int i :: g_cv ad (vR a) :: st.map (g_cv ad)))
    rw [g_cv_R (g_ne0 a3 hs)]
    refine va_iast hx hb hK.1 hP hD a4 q 1 hcell rfl (g_in_vp h) (g_find_ok hT hf).1 (fun H1 locs1 p1 p2 p3 => ?_)
    refine k ad H1 locs1 ls a1 ?_ a3 p3 (fun v hv => a5 v (List.mem_cons_of_mem _ (List.mem_cons_of_mem _ (List.mem_cons_of_mem _ hv)))) a6 a7
    refine g_P.set hL hD hq rfl ?_ (fun b hb => g_cell_eq rfl (by funext j; exact g_up_a _ _ _ _ hb) rfl rfl) p1 p2
    rw [g_cell_of (u := (u.1, g_up u.2.1 a i.toNatClampNeg x, u.2.2)) hs, g_cl_arr (by decide)]
    have e : upd (u.2.1 a) i.toNatClampNeg x = g_up u.2.1 a i.toNatClampNeg x a := by
      funext j; simp [upd, g_up]
    show (Sum.inl (cy 14, n, _) : va_E) = _
    rw [e]; rfl
  · rw [if_neg h] at hr; cases hr
theorem r_bast (J : g_J E cc own nm ret nL tab rk mc ms l) {a n : Nat} {i : Int32} {x : Int32} (hf : g_find tab pc = some (.bastore, 1, iv)) (hs : u.1.1 a = some (13, n)) (k : g_in i n = true → g_H E ce sl (pc + 1) lv st (u.1, g_up u.2.1 a i.toNatClampNeg (vp_nar .byte x), u.2.2) om emb) : g_H E ce sl pc lv (vI x :: vI i :: vR a :: st) u (if g_in i n = true then om else none) emb := by
  intro r hr
  by_cases h : g_in i n = true
  · rw [if_pos h] at hr
    have k := k h r hr
    obtain ⟨⟨⟨hx, hb, hml, hown, hts⟩, hrt, hlocks, hK⟩, -, hT, hE⟩ := J
    obtain ⟨p, l, e, R, s, m, args, below, meth, c, D, cy, ad0, u0, nL, mc, ms⟩ := E
    obtain ⟨-, hR, rfl, rfl, hnm⟩ := hE
    intro ad H locs ls a1 a2 a3 a4 a5 a6 a7
    obtain ⟨L, q, hL, hP, hD, hq, hcell⟩ := a2.get hs
    rw [g_cl_arr (by decide)] at hcell
    show W p l e R s m args below meth c H locs ce sl _ (F0 m pc ls (.int x :: .int i :: g_cv ad (vR a) :: st.map (g_cv ad)))
    rw [g_cv_R (g_ne0 a3 hs)]
    refine va_bast hx hb hK.1 hP hD a4 q 0 hcell rfl (g_in_vp h) (g_find_ok hT hf).1 (fun H1 locs1 p1 p2 p3 => ?_)
    refine k ad H1 locs1 ls a1 ?_ a3 p3 (fun v hv => a5 v (List.mem_cons_of_mem _ (List.mem_cons_of_mem _ (List.mem_cons_of_mem _ hv)))) a6 a7
    refine g_P.set hL hD hq rfl ?_ (fun b hb => g_cell_eq rfl (by funext j; exact g_up_a _ _ _ _ hb) rfl rfl) p1 p2
    rw [g_cell_of (u := (u.1, g_up u.2.1 a i.toNatClampNeg (vp_nar .byte x), u.2.2)) hs, g_cl_arr (by decide)]
    have e : upd (u.2.1 a) i.toNatClampNeg (vp_nar .byte x) = g_up u.2.1 a i.toNatClampNeg (vp_nar .byte x) a := by
      funext j; simp [upd, g_up]
    show (Sum.inl (cy 13, n, _) : va_E) = _
    rw [e]; rfl
  · rw [if_neg h] at hr; cases hr
theorem r_zast (J : g_J E cc own nm ret nL tab rk mc ms l) {a n : Nat} {i : Int32} {x : Int32} (hf : g_find tab pc = some (.bastore, 1, iv)) (hs : u.1.1 a = some (15, n)) (k : g_in i n = true → g_H E ce sl (pc + 1) lv st (u.1, g_up u.2.1 a i.toNatClampNeg (vp_nar .boolean x), u.2.2) om emb) : g_H E ce sl pc lv (vI x :: vI i :: vR a :: st) u (if g_in i n = true then om else none) emb := by
  intro r hr
  by_cases h : g_in i n = true
  · rw [if_pos h] at hr
    have k := k h r hr
    obtain ⟨⟨⟨hx, hb, hml, hown, hts⟩, hrt, hlocks, hK⟩, -, hT, hE⟩ := J
    obtain ⟨p, l, e, R, s, m, args, below, meth, c, D, cy, ad0, u0, nL, mc, ms⟩ := E
    obtain ⟨-, hR, rfl, rfl, hnm⟩ := hE
    intro ad H locs ls a1 a2 a3 a4 a5 a6 a7
    obtain ⟨L, q, hL, hP, hD, hq, hcell⟩ := a2.get hs
    rw [g_cl_arr (by decide)] at hcell
    show W p l e R s m args below meth c H locs ce sl _ (F0 m pc ls (.int x :: .int i :: g_cv ad (vR a) :: st.map (g_cv ad)))
    rw [g_cv_R (g_ne0 a3 hs)]
    refine va_zast hx hb hK.1 hP hD a4 q 2 hcell rfl (g_in_vp h) (g_find_ok hT hf).1 (fun H1 locs1 p1 p2 p3 => ?_)
    refine k ad H1 locs1 ls a1 ?_ a3 p3 (fun v hv => a5 v (List.mem_cons_of_mem _ (List.mem_cons_of_mem _ (List.mem_cons_of_mem _ hv)))) a6 a7
    refine g_P.set hL hD hq rfl ?_ (fun b hb => g_cell_eq rfl (by funext j; exact g_up_a _ _ _ _ hb) rfl rfl) p1 p2
    rw [g_cell_of (u := (u.1, g_up u.2.1 a i.toNatClampNeg (vp_nar .boolean x), u.2.2)) hs, g_cl_arr (by decide)]
    have e : upd (u.2.1 a) i.toNatClampNeg (vp_nar .boolean x) = g_up u.2.1 a i.toNatClampNeg (vp_nar .boolean x) a := by
      funext j; simp [upd, g_up]
    show (Sum.inl (cy 15, n, _) : va_E) = _
    rw [e]; rfl
  · rw [if_neg h] at hr; cases hr
theorem r_last (J : g_J E cc own nm ret nL tab rk mc ms l) {a n : Nat} {i : Int32} {x : Int64} (hf : g_find tab pc = some (.lastore, 1, iv)) (hs : u.1.1 a = some (16, n)) (k : g_in i n = true → g_H E ce sl (pc + 1) lv st (u.1, u.2.1, g_up u.2.2 a i.toNatClampNeg x) om emb) : g_H E ce sl pc lv (vL x :: vI i :: vR a :: st) u (if g_in i n = true then om else none) emb := by
  intro r hr
  by_cases h : g_in i n = true
  · rw [if_pos h] at hr
    have k := k h r hr
    obtain ⟨⟨⟨hx, hb, hml, hown, hts⟩, hrt, hlocks, hK⟩, -, hT, hE⟩ := J
    obtain ⟨p, l, e, R, s, m, args, below, meth, c, D, cy, ad0, u0, nL, mc, ms⟩ := E
    obtain ⟨-, hR, rfl, rfl, hnm⟩ := hE
    intro ad H locs ls a1 a2 a3 a4 a5 a6 a7
    obtain ⟨L, q, hL, hP, hD, hq, hcell⟩ := a2.get hs
    rw [g_cl_arr (by decide)] at hcell
    show W p l e R s m args below meth c H locs ce sl _ (F0 m pc ls (.long x :: .int i :: g_cv ad (vR a) :: st.map (g_cv ad)))
    rw [g_cv_R (g_ne0 a3 hs)]
    refine va_last hx hb hK.1 hP hD a4 q 3 hcell rfl (g_in_vp h) (g_find_ok hT hf).1 (fun H1 locs1 p1 p2 p3 => ?_)
    refine k ad H1 locs1 ls a1 ?_ a3 p3 (fun v hv => a5 v (List.mem_cons_of_mem _ (List.mem_cons_of_mem _ (List.mem_cons_of_mem _ hv)))) a6 a7
    refine g_P.set hL hD hq rfl ?_ (fun b hb => g_cell_eq rfl rfl (by funext j; exact g_up_a _ _ _ _ hb) rfl) p1 p2
    rw [g_cell_of (u := (u.1, u.2.1, g_up u.2.2 a i.toNatClampNeg x)) hs, g_cl_arr (by decide)]
    have e : vp_updL (u.2.2 a) i.toNatClampNeg x = g_up u.2.2 a i.toNatClampNeg x a := by
      funext j; simp [vp_updL, g_up]
    show (Sum.inl (cy 16, n, _) : va_E) = _
    rw [e]; rfl
  · rw [if_neg h] at hr; cases hr
/-- the length of an array -/
theorem r_alen (J : g_J E cc own nm ret nL tab rk mc ms l) {a n kd : Nat} {ty : FieldType} (hf : g_find tab pc = some (.arraylength, 1, iv)) (h13 : ¬ kd < 13) (hty : ∀ cy : Nat → ClassId, (g_tys cy)[kd - 13]? = some (cy kd, ty)) (hs : u.1.1 a = some (kd, n)) (k : g_H E ce sl (pc + 1) lv (vI (Int32.ofNat n) :: st) u om emb) : g_H E ce sl pc lv (vR a :: st) u om emb := by
  intro r hr
  have k := k r hr
  obtain ⟨⟨⟨hx, hb, hml, hown, hts⟩, hrt, hlocks, hK⟩, -, hT, hE⟩ := J
  obtain ⟨p, l, e, R, s, m, args, below, meth, c, D, cy, ad0, u0, nL, mc, ms⟩ := E
  obtain ⟨-, hR, rfl, rfl, hnm⟩ := hE
  intro ad H locs ls a1 a2 a3 a4 a5 a6 a7
  obtain ⟨L, q, hL, hP, hD, hq, hcell⟩ := a2.get hs
  rw [g_cl_arr h13] at hcell
  show W p l e R s m args below meth c H locs ce sl _ (F0 m pc ls (g_cv ad (vR a) :: st.map (g_cv ad)))
  rw [g_cv_R (g_ne0 a3 hs)]
  exact va_alen hx hb hK.1 hP q (kd - 13) hcell (hty cy) rfl (g_find_ok hT hf).1 (k ad H locs ls a1 a2 a3 a4 (List.forall_mem_cons.mpr ⟨trivial, fun v hv => a5 v (List.mem_cons_of_mem _ hv)⟩) a6 a7)
/-- the ends of a method -/
theorem r_iret (J : g_J E cc own nm ret nL tab rk mc ms l) {x : Int32} {ra : α} {ty : FieldType} (hf : g_find tab pc = some (.ireturn, 1, iv)) (hret : ret = some ty) (hn : narrow ty (.int x) = .int x) (he : emb ra = (some (vI x), u)) (h1 : ce ≤ mc) (h2 : sl ≤ ms) : g_H E ce sl pc lv [vI x] u (some ra) emb := by
  intro r hr
  cases hr
  obtain ⟨⟨⟨hx, hb, hml, hown, hts⟩, hrt, hlocks, hK⟩, -, hT, hE⟩ := J
  obtain ⟨p, l, e, R, s, m, args, below, meth, c, D, cy, ad0, u0, nL, mc, ms⟩ := E
  obtain ⟨-, hR, rfl, rfl, hnm⟩ := hE
  intro ad H locs ls a1 a2 a3 a4 a5 a6 a7
  rw [he]
  subst hret
  rw [g_end_n rfl]
  refine W.widen h1 h2 ?_
  exact W.zret hx hb hrt hn (fun t ht hW => ⟨⟨ad, a1, rfl, by rw [ht]; exact a2, a3, fun v hv => by cases hv; trivial⟩, a4.F ht⟩) a4.2.2 (g_find_ok hT hf).1
theorem r_vret (J : g_J E cc own nm ret nL tab rk mc ms l) {ra : α} (hf : g_find tab pc = some (.return_, 1, iv)) (hret : ret = none) (he : emb ra = (none, u)) (h1 : ce ≤ mc) (h2 : sl ≤ ms) : g_H E ce sl pc lv [] u (some ra) emb := by
  intro r hr
  cases hr
  obtain ⟨⟨⟨hx, hb, hml, hown, hts⟩, hrt, hlocks, hK⟩, -, hT, hE⟩ := J
  obtain ⟨p, l, e, R, s, m, args, below, meth, c, D, cy, ad0, u0, nL, mc, ms⟩ := E
  obtain ⟨-, hR, rfl, rfl, hnm⟩ := hE
  intro ad H locs ls a1 a2 a3 a4 a5 a6 a7
  rw [he]
  subst hret
  rw [g_end_n rfl]
  refine W.widen h1 h2 ?_
  exact W.vret hx hb hrt (fun t ht hW => ⟨⟨ad, a1, rfl, by rw [ht]; exact a2, a3, fun v hv => by cases hv⟩, a4.F ht⟩) a4.2.2 (g_find_ok hT hf).1
theorem r_aret (J : g_J E cc own nm ret nL tab rk mc ms l) {a : Nat} {ra : α} {rt : FieldType} (hf : g_find tab pc = some (.areturn, 1, iv)) (hret : ret = some rt) (hrt0 : (∃ n, rt = .object n) ∨ ∃ t, rt = .array t) (he : emb ra = (some (vR a), u)) (h1 : ce ≤ mc) (h2 : sl ≤ ms) : g_H E ce sl pc lv [vR a] u (some ra) emb := by
  intro r hr
  cases hr
  obtain ⟨⟨⟨hx, hb, hml, hown, hts⟩, hrt, hlocks, hK⟩, -, hT, hE⟩ := J
  obtain ⟨p, l, e, R, s, m, args, below, meth, c, D, cy, ad0, u0, nL, mc, ms⟩ := E
  obtain ⟨-, hR, rfl, rfl, hnm⟩ := hE
  intro ad H locs ls a1 a2 a3 a4 a5 a6 a7
  rw [he]
  subst hret
  rw [g_end_n rfl]
  refine W.widen h1 h2 ?_
  exact W.aret hx hb hrt hrt0 (g_cv_ref ad (.inl a)) (fun t ht hW => ⟨⟨ad, a1, rfl, by rw [ht]; exact a2, a3, fun v hv => by cases hv; exact a5 _ List.mem_cons_self⟩, a4.F ht⟩) a4.2.2 (g_find_ok hT hf).1
end GR
