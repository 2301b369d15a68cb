/-! Rows for the instructions that touch the heap, over the picture -/
def g_cls (kd : Nat) (C : String) (T : u_T) (N : Nat) : Prop := vwCl[kd]? = some (C, T, N) ∧ (∀ w ∈ u_ws C T N, w ∈ g_tb) ∧ g_nf kd = N ∧ kd < 13 ∧ (∀ k, k < N → parseFieldDescriptor (T k).2.2.1 = some (g_ty kd k)) ∧ ∀ a, a < N → ∀ b, b < N → a ≠ b → (T a).2.1 ≠ (T b).2.1
theorem cls0 : g_cls 0 RX0 TX0 3 := ⟨rfl, inX0, rfl, by decide, tyX0_ok, nmX0⟩
theorem cls1 : g_cls 1 RX1 TX1 14 := ⟨rfl, inX1, rfl, by decide, tyX1_ok, nmX1⟩
theorem cls2 : g_cls 2 RX2 TX2 6 := ⟨rfl, inX2, rfl, by decide, tyX2_ok, nmX2⟩
theorem cls3 : g_cls 3 RX3 TX3 10 := ⟨rfl, inX3, rfl, by decide, tyX3_ok, nmX3⟩
theorem cls4 : g_cls 4 RX4 TX4 2 := ⟨rfl, inX4, rfl, by decide, tyX4_ok, nmX4⟩
theorem cls5 : g_cls 5 RX5 TX5 2 := ⟨rfl, inX5, rfl, by decide, tyX5_ok, nmX5⟩
theorem cls6 : g_cls 6 RX6 TX6 11 := ⟨rfl, inX6, rfl, by decide, tyX6_ok, nmX6⟩
theorem cls7 : g_cls 7 RX7 TX7 14 := ⟨rfl, inX7, rfl, by decide, tyX7_ok, nmX7⟩
theorem cls8 : g_cls 8 RX8 TX8 4 := ⟨rfl, inX8, rfl, by decide, tyX8_ok, nmX8⟩
theorem cls9 : g_cls 9 RX9 TX9 14 := ⟨rfl, inX9, rfl, by decide, tyX9_ok, nmX9⟩
theorem cls10 : g_cls 10 RX10 TX10 7 := ⟨rfl, inX10, rfl, by decide, tyX10_ok, nmX10⟩
theorem cls11 : g_cls 11 RX11 TX11 15 := ⟨rfl, inX11, rfl, by decide, tyX11_ok, nmX11⟩
theorem cls12 : g_cls 12 RX12 TX12 78 := ⟨rfl, inX12, rfl, by decide, tyX12_ok, nmX12⟩
/-- what is fixed of a method's body: its code, decoded, its room -/
def g_J (E : gE) (cc : ByteArray) (own nm : String) (ret : Option FieldType) (nL : Nat) (tab : gT) (rk mc ms : Nat) (l : Launch) : Prop := g_I E cc own ret ∧ g_nL E = nL ∧ g_okT cc tab = true ∧ match E with
  | (_, l', _, R, _, _, _, _, meth, _, _, _, _, _, _, mc', ms') => l' = l ∧ R = { frames := rk, cells := mc, slots := ms, locals := 60 * rk } ∧ mc' = mc ∧ ms' = ms ∧ meth.name = nm
theorem g_in_vp {i : Int32} {n : Nat} (h : g_in i n = true) : vp_in i n := by
  unfold g_in at h
  have h2 := of_decide_eq_true h
  exact h2
theorem g_sv_eq {ad : Nat → Nat} {u u' : gU} {a j : Nat} {t : FieldType} (h2 : u'.2.1 a j = u.2.1 a j) (h3 : u'.2.2 a j = u.2.2 a j) (h4 : u'.1.2 a j = u.1.2 a j) : g_sv ad u' a j t = g_sv ad u a j t := by
  unfold g_sv; rw [h2, h3, h4]
theorem g_cell_eq {cy : Nat → ClassId} {ad : Nat → Nat} {u u' : gU} {b : Nat} (h1 : u'.1.1 b = u.1.1 b) (h2 : u'.2.1 b = u.2.1 b) (h3 : u'.2.2 b = u.2.2 b) (h4 : u'.1.2 b = u.1.2 b) : g_cell cy ad u' b = g_cell cy ad u b := by
  unfold g_cell g_kd g_ln g_cl g_row g_sv
  rw [h1, h2, h3, h4]
theorem g_fs_at {f : Nat → Value} {n k : Nat} (h : k < n) : ((List.range n).map f)[k]? = some (f k) := by
  rw [List.getElem?_map, List.getElem?_range h]; rfl
theorem g_fs_set {f f' : Nat → Value} {n k : Nat} {v : Value} (hk : f' k = v) (ho : ∀ j, j ≠ k → f' j = f j) : ((List.range n).map f).set k v = (List.range n).map f' := by
  apply List.ext_getElem?
  intro j
  by_cases hj : j = k
  · subst hj
    by_cases hl : j < n
    · rw [List.getElem?_set_self (by rw [List.length_map, List.length_range]; exact hl), g_fs_at hl, hk]
    · rw [List.getElem?_eq_none (by rw [List.length_set, List.length_map, List.length_range]; omega), List.getElem?_eq_none (by rw [List.length_map, List.length_range]; omega)]
  · rw [List.getElem?_set_ne (Ne.symm hj), List.getElem?_map, List.getElem?_map]
    cases h : (List.range n)[j]? with
    | none => rfl
    | some x =>
      have : x = j := by
        obtain ⟨h1, h2⟩ := List.getElem?_eq_some_iff.mp h
        rw [List.getElem_range] at h2
        exact h2.symm
      subst this
      show some (f x) = some (f' x)
      rw [ho x hj]
theorem g_cv_R {ad : Nat → Nat} {a : Nat} (h : a ≠ 0) : g_cv ad (vR a) = .ref (ad a) := by
  show va_rf (g_rf ad a) = _
  unfold g_rf; rw [if_neg h]; rfl
theorem g_ne0 {σ : gS} {a : Nat} {q : Nat × Nat} (h : g_C σ) (hs : σ.1 a = some q) : a ≠ 0 := by
  rintro rfl
  rw [h.1] at hs
  cases hs
theorem g_cl_obj {cy : Nat → ClassId} {ad : Nat → Nat} {u : gU} {a kd n : Nat} (h : kd < 13) : g_cl cy ad u a kd n = .inr (kd, (List.range (g_nf kd)).map fun k => g_sv ad u a k (g_ty kd k)) := by
  unfold g_cl; rw [if_pos h]
theorem g_cl_arr {cy : Nat → ClassId} {ad : Nat → Nat} {u : gU} {a kd n : Nat} (h : ¬ kd < 13) : g_cl cy ad u a kd n = .inl (cy kd, n, g_row ad u a kd) := by
  unfold g_cl; rw [if_neg h]
section GR
variable {α : Type} {E : gE} {cc : ByteArray} {own nm : String} {ret : Option FieldType} {nL : Nat} {tab : gT} {rk mc ms : Nat} {l : Launch} {ce sl pc : Nat} {lv : List (Nat × gV)} {st : List gV} {u : gU} {om : Option α} {emb : α → gO} {iv : Int32}
theorem r_run (J : g_J E cc own nm ret nL tab rk mc ms l) (n : Nat) {pc' : Nat} {lv' : List (Nat × gV)} {st' : List gV} (h : g_run nL tab n (pc, lv, st) = some (pc', lv', st')) (k : g_H E ce sl pc' lv' st' u om emb) : g_H E ce sl pc lv st u om emb :=
  fun r hr => g_runs J.1 J.2.2.1 n (pc, lv, st) (pc', lv', st') (by rw [J.2.1]; exact h) (k r hr)
/-- fewer locals, in any order -/
theorem r_sub {lv' : List (Nat × gV)} (ks : List Nat) (hl : ks.filterMap (fun k => lv[k]?) = lv') (k : g_H E ce sl pc lv' st u om emb) : g_H E ce sl pc lv st u om emb := by
  intro r hr
  have kk := k r hr
  obtain ⟨p, l, e, R, s, m, args, below, meth, c, D, cy, ad0, u0, nL, mc, ms⟩ := E
  intro ad H locs ls a1 a2 a3 a4 a5 a6 a7
  have hm : ∀ q ∈ lv', q ∈ lv := by
    intro q hq
    rw [← hl] at hq
    obtain ⟨i, -, hi⟩ := List.mem_filterMap.mp hq
    exact List.mem_of_getElem? hi
  refine kk ad H locs ls a1 a2 a3 a4 a5 (fun q hq => a6 q (hm q hq)) ⟨a7.1, a7.2.1, fun q hq => ?_⟩
  obtain ⟨q0, h1, h2⟩ := List.mem_map.mp hq
  exact a7.2.2 q (List.mem_map.mpr ⟨q0, hm q0 h1, h2⟩)
theorem r_widen {ce' sl' : Nat} (h1 : ce ≤ ce') (h2 : sl ≤ sl') (k : g_H E ce' sl' pc lv st u om emb) : g_H E ce sl pc lv st u om emb := by
  intro r hr
  have kk := k r hr
  obtain ⟨p, l, e, R, s, m, args, below, meth, c, D, cy, ad0, u0, nL, mc, ms⟩ := E
  intro ad H locs ls a1 a2 a3 a4 a5 a6 a7
  exact W.widen h1 h2 (kk ad H locs ls a1 a2 a3 a4 a5 a6 a7)
/-- a field that holds an int -/
theorem r_getI (J : g_J E cc own nm ret nL tab rk mc ms l) {idx kd n a k N : Nat} {C : String} {T : u_T} (hc : g_cls kd C T N) (hf : g_find tab pc = some (.getfield idx, 3, iv)) (hk : k < N) (hw : Cond.fieldLink own idx (T k).1 (T k).2.1 (T k).2.2.1 ∈ g_tb) (ht : g_fc (g_ty kd k) = 0) (hs : u.1.1 a = some (kd, n))
    (kk : g_H E ce sl (pc + 3) lv (vI (u.2.1 a k) :: st) u om emb) : g_H E ce sl pc lv (vR a :: st) u om emb := by
  intro r hr
  have kk := kk r hr
  obtain ⟨⟨⟨hx, hb, hml, hown, hts⟩, hrt, hlocks, hK⟩, -, hT, -⟩ := J
  obtain ⟨p, l, e, R, s, m, args, below, meth, c, D, cy, ad0, u0, nL, mc, ms⟩ := E
  obtain ⟨c1, c2, c3, c4, c5, c6⟩ := hc
  intro ad H locs ls a1 a2 a3 a4 a5 a6 a7
  obtain ⟨L, q, hL, hP, hD, hq, hcell⟩ := a2.get hs
  rw [g_cl_obj c4] at hcell
  have h2 := kk ad H locs ls a1 a2 a3 a4 (List.forall_mem_cons.mpr ⟨trivial, fun v hv => a5 v (List.mem_cons_of_mem _ hv)⟩) a6 a7
  show W p l e R s m args below meth c H locs ce sl _ (F0 m pc ls (g_cv ad (vR a) :: st.map (g_cv ad)))
  rw [g_cv_R (g_ne0 a3 hs)]
  refine va_get hx hb hts c2 hown hK.1 hP q hcell c1 k hk (hts _ hw) (fun _ h => h) (v := .int (u.2.1 a k)) ?_ (g_find_ok hT hf).1 h2
  rw [g_fs_at (by rw [c3]; exact hk)]
  unfold g_sv; rw [if_pos ht]
/-- a field that holds a long -/
theorem r_getL (J : g_J E cc own nm ret nL tab rk mc ms l) {idx kd n a k N : Nat} {C : String} {T : u_T} (hc : g_cls kd C T N) (hf : g_find tab pc = some (.getfield idx, 3, iv)) (hk : k < N) (hw : Cond.fieldLink own idx (T k).1 (T k).2.1 (T k).2.2.1 ∈ g_tb) (ht : g_fc (g_ty kd k) = 1) (hs : u.1.1 a = some (kd, n))
    (kk : g_H E ce sl (pc + 3) lv (vL (u.2.2 a k) :: st) u om emb) : g_H E ce sl pc lv (vR a :: st) u om emb := by
  intro r hr
  have kk := kk r hr
  obtain ⟨⟨⟨hx, hb, hml, hown, hts⟩, hrt, hlocks, hK⟩, -, hT, -⟩ := J
  obtain ⟨p, l, e, R, s, m, args, below, meth, c, D, cy, ad0, u0, nL, mc, ms⟩ := E
  obtain ⟨c1, c2, c3, c4, c5, c6⟩ := hc
  intro ad H locs ls a1 a2 a3 a4 a5 a6 a7
  obtain ⟨L, q, hL, hP, hD, hq, hcell⟩ := a2.get hs
  rw [g_cl_obj c4] at hcell
  have h2 := kk ad H locs ls a1 a2 a3 a4 (List.forall_mem_cons.mpr ⟨trivial, fun v hv => a5 v (List.mem_cons_of_mem _ hv)⟩) a6 a7
  show W p l e R s m args below meth c H locs ce sl _ (F0 m pc ls (g_cv ad (vR a) :: st.map (g_cv ad)))
  rw [g_cv_R (g_ne0 a3 hs)]
  refine va_get hx hb hts c2 hown hK.1 hP q hcell c1 k hk (hts _ hw) (fun _ h => h) (v := .long (u.2.2 a k)) ?_ (g_find_ok hT hf).1 h2
  rw [g_fs_at (by rw [c3]; exact hk)]
  unfold g_sv; rw [if_neg (by rw [ht]; decide), if_pos ht]
def g_q (σ : gS) (a t : Nat) : Prop := a = 0 ∨ ∃ n, σ.1 a = some (t, n)
theorem g_q_ok {σ : gS} {a t : Nat} (h : g_q σ a t) : g_ok σ (vR a) := by
  rcases h with h | ⟨n, h⟩
  · exact Or.inl h
  · exact Or.inr (by rw [h]; exact fun z => by cases z)
theorem g_q_at {σ : gS} {a t : Nat} (h : g_q σ a t) (h0 : ¬ a = 0) : σ.1 a = some (t, g_ln σ a) := by
  rcases h with h | ⟨n, h⟩
  · exact absurd h h0
  · unfold g_ln; rw [h]
/-- a field that holds a reference -/
theorem r_getR (J : g_J E cc own nm ret nL tab rk mc ms l) {idx kd n a k N t b : Nat} {C : String} {T : u_T} (hc : g_cls kd C T N) (hf : g_find tab pc = some (.getfield idx, 3, iv)) (hk : k < N) (hw : Cond.fieldLink own idx (T k).1 (T k).2.1 (T k).2.2.1 ∈ g_tb) (ht : g_fc (g_ty kd k) = 2) (hrt : g_rt kd k = some t) (hs : u.1.1 a = some (kd, n)) (he : u.1.2 a k = b)
    (kk : g_q u.1 b t → g_H E ce sl (pc + 3) lv (vR b :: st) u om emb) : g_H E ce sl pc lv (vR a :: st) u om emb := by
  intro r hr
  obtain ⟨⟨⟨hx, hb, hml, hown, hts⟩, hrt', hlocks, hK⟩, -, hT, -⟩ := J
  obtain ⟨p, l, e, R, s, m, args, below, meth, c, D, cy, ad0, u0, nL, mc, ms⟩ := E
  obtain ⟨c1, c2, c3, c4, c5, c6⟩ := hc
  intro ad H locs ls a1 a2 a3 a4 a5 a6 a7
  have hq0 : g_q u.1 b t := by rw [← he]; exact a3.2.2 a kd n k t hs hrt
  have kk := kk hq0 r hr
  obtain ⟨L, q, hL, hP, hD, hq, hcell⟩ := a2.get hs
  rw [g_cl_obj c4] at hcell
  have h2 := kk ad H locs ls a1 a2 a3 a4 (List.forall_mem_cons.mpr ⟨g_q_ok hq0, fun v hv => a5 v (List.mem_cons_of_mem _ hv)⟩) a6 a7
  show W p l e R s m args below meth c H locs ce sl _ (F0 m pc ls (g_cv ad (vR a) :: st.map (g_cv ad)))
  rw [g_cv_R (g_ne0 a3 hs)]
  refine va_get hx hb hts c2 hown hK.1 hP q hcell c1 k hk (hts _ hw) (fun _ h => h) (v := g_cv ad (vR b)) ?_ (g_find_ok hT hf).1 h2
  rw [g_fs_at (by rw [c3]; exact hk)]
  unfold g_sv; rw [if_neg (by rw [ht]; decide), if_neg (by rw [ht]; decide), he]; rfl
theorem g_put_cell {cy : Nat → ClassId} {ad : Nat → Nat} {u u' : gU} {a kd n k : Nat} {v : Value} (hs : u.1.1 a = some (kd, n)) (hs' : u'.1.1 = u.1.1) (h13 : kd < 13) (h1 : g_sv ad u' a k (g_ty kd k) = v) (h2 : ∀ j, j ≠ k → g_sv ad u' a j (g_ty kd j) = g_sv ad u a j (g_ty kd j)) :
    (.inr (kd, ((List.range (g_nf kd)).map fun k => g_sv ad u a k (g_ty kd k)).set k v) : va_E) = g_cell cy ad u' a := by
  rw [g_cell_of (u := u') (by rw [hs']; exact hs), g_cl_obj h13, g_fs_set h1 h2]
/-- an int into a field -/
theorem r_putI (J : g_J E cc own nm ret nL tab rk mc ms l) {idx kd n a k N : Nat} {C : String} {T : u_T} {x : Int32} (hc : g_cls kd C T N) (hf : g_find tab pc = some (.putfield idx, 3, iv)) (hk : k < N) (hw : Cond.fieldLink own idx (T k).1 (T k).2.1 (T k).2.2.1 ∈ g_tb) (ht : g_fc (g_ty kd k) = 0) (hfin : (T k).2.2.2 = false ∨ ((T k).2.2.2 = true ∧ nm = "<init>" ∧ (T k).1 = own)) (hn : narrow (g_ty kd k) (.int x) = .int x ∧ fits (g_ty kd k) (.int x) = true) (hs : u.1.1 a = some (kd, n))
    (kk : g_H E ce sl (pc + 3) lv st (u.1, g_up u.2.1 a k x, u.2.2) om emb) : g_H E ce sl pc lv (vI x :: vR a :: st) u om emb := by
  intro r hr
  have kk := kk r hr
  obtain ⟨⟨⟨hx, hb, hml, hown, hts⟩, hrt, hlocks, hK⟩, -, hT, hE⟩ := J
  obtain ⟨p, l, e, R, s, m, args, below, meth, c, D, cy, ad0, u0, nL, mc, ms⟩ := E
  obtain ⟨-, -, -, -, hnm⟩ := hE
  obtain ⟨c1, c2, c3, c4, c5, c6⟩ := hc
  intro ad H locs ls a1 a2 a3 a4 a5 a6 a7
  obtain ⟨L, q, hL, hP, hD, hq, hcell⟩ := a2.get hs
  rw [g_cl_obj c4] at hcell
  show W p l e R s m args below meth c H locs ce sl _ (F0 m pc ls (.int x :: g_cv ad (vR a) :: st.map (g_cv ad)))
  rw [g_cv_R (g_ne0 a3 hs)]
  have fin : ∀ (H1 : Heap) (locs1 : List Loc), va_P D vwCl ((g_W cy ad u L).set q (ad a, .inr (kd, ((List.range (g_nf kd)).map fun k => g_sv ad u a k (g_ty kd k)).set k (.int x)))) H1 → va_D (g_F ad0 u0 s.heap.size) ((g_W cy ad u L).set q (ad a, .inr (kd, ((List.range (g_nf kd)).map fun k => g_sv ad u a k (g_ty kd k)).set k (.int x)))) → va_S (g_F ad0 u0 s.heap.size) s.heap H1 locs1 → W p l e R s m args below meth c H1 locs1 ce sl (g_end below D cy ad0 u0 args s mc ms (emb r)) (F0 m (pc + 3) ls (st.map (g_cv ad))) := by
    intro H1 locs1 p1 p2 p3
    refine kk ad H1 locs1 ls a1 ?_ a3 p3 (fun v hv => a5 v (List.mem_cons_of_mem _ (List.mem_cons_of_mem _ hv))) a6 a7
    refine g_P.set hL hD hq rfl (g_put_cell hs rfl c4 ?_ ?_) (fun b hb => g_cell_eq rfl ?_ rfl rfl) p1 p2
    · unfold g_sv; rw [if_pos ht]; show Value.int (g_up u.2.1 a k x a k) = _; rw [g_up_s]
    · exact fun j hj => g_sv_eq (g_up_k _ _ _ _ hj) rfl rfl
    · funext j; exact g_up_a _ _ _ _ hb
  rcases hfin with hfin | ⟨hfin, h1, h2⟩
  · exact va_put hx hb hts c2 (g_ty kd) c5 c6 hown hK.1 hP hD a4 q hcell c1 k hk (hts _ hw) (fun _ h => h) hfin (c5 k hk) hn.1 hn.2 (by rw [List.length_map, List.length_range, c3]; exact hk) (g_find_ok hT hf).1 fin
  · exact va_putF hx hb hts c2 (g_ty kd) c5 c6 hown hK.1 hP hD a4 q hcell c1 k hk (hts _ hw) (fun _ h => h) hfin (by rw [hnm]; exact h1) h2 (c5 k hk) hn.1 hn.2 (by rw [List.length_map, List.length_range, c3]; exact hk) (g_find_ok hT hf).1 fin
end GR
