/-! calls -/
theorem g_tb_good {w : Cond} (h : w ∈ g_tb) : goodWord w = true := (List.mem_filter.mp h).2
theorem g_good {y : MethodName} {cc : ByteArray} {nL : Nat} {ret : Option FieldType} (h : Cond.code y cc nL ret ∈ g_tb) : GoodIn g_tb (.code y cc nL ret :: g_tb) := by
  intro w hw
  rcases List.mem_cons.mp hw with rfl | hw
  · exact ⟨h, good_of_word (g_tb_good h)⟩
  · exact ⟨hw, good_of_word (g_tb_good hw)⟩
theorem g_P.weaken {D : va_G} {cy : Nat → ClassId} {A B : Nat → Prop} {ad : Nat → Nat} {u : gU} {H : Heap} (h : g_P D cy A ad u H) (hAB : ∀ a, u.1.1 a ≠ none → A (ad a) → B (ad a)) : g_P D cy B ad u H := by
  obtain ⟨L, hL, hP, hD⟩ := h
  refine ⟨L, hL, hP, hD.weaken (fun k q hk hA => ?_)⟩
  obtain ⟨a, h1, rfl⟩ := g_W_inv hk
  exact hAB a ((hL a).mp (List.mem_of_getElem? h1)) hA
theorem g_P.inA {D : va_G} {cy : Nat → ClassId} {A : Nat → Prop} {ad : Nat → Nat} {u : gU} {H : Heap} (h : g_P D cy A ad u H) {a : Nat} (ha : u.1.1 a ≠ none) : A (ad a) := by
  obtain ⟨L, hL, hP, hD⟩ := h
  obtain ⟨k, hk⟩ := List.getElem?_of_mem ((hL a).mpr ha)
  exact hD.2 k _ (g_W_at hk)
theorem g_ok_mono {σ σ' : gS} {v : gV} (h : g_ok σ v) (hm : ∀ a, σ.1 a ≠ none → σ'.1 a ≠ none) : g_ok σ' v := by
  rcases v with x | x | a | q
  · trivial
  · trivial
  · rcases h with h | h
    · exact Or.inl h
    · exact Or.inr (hm a h)
  · trivial
theorem g_cv_eq {σ : gS} {ad ad' : Nat → Nat} {v : gV} (h : g_ok σ v) (hm : ∀ a, σ.1 a ≠ none → ad' a = ad a) (hx : ∀ i, ad' (g_EXT + i) = ad (g_EXT + i)) : g_cv ad' v = g_cv ad v := by
  rcases v with x | x | a | q
  · rfl
  · rfl
  · show va_rf (g_rf ad' a) = va_rf (g_rf ad a)
    unfold g_rf
    rcases h with h | h
    · rw [if_pos h, if_pos h]
    · rw [hm a h]
  · show Value.ref (ad' (g_EXT + q)) = Value.ref (ad (g_EXT + q))
    rw [hx q]
theorem g_blind {D : va_G} {cy : Nat → ClassId} {ad : Nat → Nat} {u : gU} {av : List Value} {sz : Nat} {P : Prop} : FrameBlind (va_Pc av (fun U => U.heap.size = sz ∧ g_P D cy (fun _ => True) ad u U.heap ∧ g_C u.1 ∧ g_K D cy U ad (g_F ad u sz) ∧ P)) :=
  fun a U g mk q => ⟨q.1, q.2.1, q.2.2.1, q.2.2.2.1, g_K.same (u := U) (U := U.calling g mk a) rfl rfl q.2.2.2.2.1, q.2.2.2.2.2⟩
theorem g_Fsub {D : va_G} {cy : Nat → ClassId} {ad0 ad : Nat → Nat} {u0 u : gU} {s : State} {H : Heap} {locs : List Loc} (a2 : g_P D cy (g_F ad0 u0 s.heap.size) ad u H) (a4 : va_S (g_F ad0 u0 s.heap.size) s.heap H locs) : ∀ q, g_F ad u H.size q → g_F ad0 u0 s.heap.size q := by
  rintro q (⟨a, h1, rfl⟩ | h)
  · exact a2.inA h1
  · exact Or.inr (Nat.le_trans a4.1 h)
section GB
variable {p : Program} {l : Launch} {e : Env} {R : Room} {s : State} {m : MethodId} {args : Array Value} {below : List Frame} {meth : Method} {c : Code} {H : Heap} {locs : List Loc} {ce sl mc ms mc' ms' : Nat} {D : va_G} {cy : Nat → ClassId} {ad0 ad : Nat → Nat} {u0 u : gU} {o oc : gO} {nL pc : Nat} {ls : Array Slot} {st0 : List Value} {st : List gV} {lv : List (Nat × gV)} {a0 : Array Value}
/-- behind a call -/
theorem g_back (hr : va_Run p l e R s m args below meth c H locs ce sl mc' ms' (F0 m pc ls st0) (st.map (g_cv ad)) (g_Q D cy ad u H.size oc a0) (g_F ad u H.size))
    (a1 : (∀ a, u0.1.1 a ≠ none → ad a = ad0 a ∧ u.1.1 a ≠ none) ∧ ∀ i, ad (g_EXT + i) = ad0 (g_EXT + i)) (a2 : g_P D cy (g_F ad0 u0 s.heap.size) ad u H) (a4 : va_S (g_F ad0 u0 s.heap.size) s.heap H locs)
    (a5 : ∀ v ∈ st, g_ok u.1 v) (a6 : ∀ q ∈ lv, g_ok u.1 q.2) (a7 : lv_has ls nL (lv.map fun q => (q.1, g_cv ad q.2)))
    (k : g_G (p, l, e, R, s, m, args, below, meth, c, D, cy, ad0, u0, nL, mc, ms) (ce + mc') (sl + ms') (pc + 3) lv (oc.1.toList ++ st) oc.2 o) :
    W p l e R s m args below meth c H locs ce sl (g_end below D cy ad0 u0 args s mc ms o) (F0 m pc ls st0) := by
  have hA : ∀ q, g_F ad u H.size q → g_F ad0 u0 s.heap.size q := by
    rintro q (⟨a, h1, rfl⟩ | h)
    · exact a2.inA h1
    · exact Or.inr (Nat.le_trans a4.1 h)
  intro T hT X
  obtain ⟨v, st₀, t, T', L, h0, X', hL, e1, e2, ⟨⟨ad', ⟨b1, bx⟩, hv, b2, b3, b4⟩, hz, hk⟩, stp⟩ := hr T hT X
  have hv2 := Outcome.returned.inj hv
  subst hv2
  rw [h0] at hz hk
  have cst : ∀ v ∈ st, g_cv ad' v = g_cv ad v := fun v hv => g_cv_eq (a5 v hv) (fun a h => (b1 a h).1) bx
  have clv : (lv.map fun q => (q.1, g_cv ad' q.2)) = lv.map fun q => (q.1, g_cv ad q.2) := by
    apply List.map_congr_left
    intro q hq
    rw [g_cv_eq (a6 q hq) (fun a h => (b1 a h).1) bx]
  obtain ⟨t2, x1, x2⟩ := k ad' T'.heap (locs ++ L) ls ⟨fun a h => ⟨(b1 a (a1.1 a h).2).1.trans (a1.1 a h).1, (b1 a (a1.1 a h).2).2⟩, fun i => (bx i).trans (a1.2 i)⟩ (by rw [e1]; exact b2.weaken (fun a _ h => hA _ h)) b3
    ⟨Nat.le_trans a4.1 (by rw [e1]; exact hz), fun q h1 h2 => by rw [e1, hk q (Nat.lt_of_lt_of_le h1 a4.1) (fun z => h2 (hA q z))]; exact a4.2.1 q h1 h2, fun q hq => by
      rcases List.mem_append.mp hq with h | h
      · exact a4.2.2 q h
      · exact hA _ (hL q h)⟩
    (fun v hv => by
      rcases List.mem_append.mp hv with h | h
      · exact b4 v (by cases h2 : oc.1 with | none => rw [h2] at h; cases h | some w => rw [h2] at h; cases List.mem_singleton.mp h; rfl)
      · exact g_ok_mono (a5 v h) (fun a h => (b1 a h).2))
    (fun q hq => g_ok_mono (a6 q hq) (fun a h => (b1 a h).2)) (by rw [clv]; exact a7) T' rfl X'
  refine ⟨t2, stp t2 ?_, x2⟩
  have e3 : (oc.1.map (g_cv ad')).toList ++ st.map (g_cv ad) = (oc.1.toList ++ st).map (g_cv ad') := by
    rw [List.map_append, List.map_congr_left cst]
    cases oc.1 <;> rfl
  show Steps p.tables e below (T'.setTop (F0 m (pc + 3) ls ((oc.1.map (g_cv ad')).toList ++ st.map (g_cv ad)))) t2
  rw [e3]
  exact x1
end GB
section GR
variable {α : Type} {E : gE} {cc : ByteArray} {own nm : String} {ret : Option FieldType} {nL : Nat} {tab : gT} {rk mc ms : Nat} {l : Launch} {ce sl pc : Nat} {lv : List (Nat × gV)} {st : List gV} {u : gU} {om : Option α} {emb : α → gO} {iv : Int32}

/-- a method of an object -/
theorem r_callV (J : g_J E cc own nm ret nL tab rk mc ms l) {y : MethodName} {cc' : ByteArray} {nL' rk' mc' ms' idx : Nat} {β : Type} {oc : Option β} {embc : β → gO} {kt : β → Option α} {stk As : List gV} {ret' : Option FieldType} {b kd n N : Nat} {C : String} {T : u_T}
    (hC : ∀ r, oc = some r → g_Ct l y cc' nL' ret' rk' mc' ms' (vR b :: As) u (embc r)) (hcls : g_cls kd C T N) (hs : u.1.1 b = some (kd, n)) (hw : Cond.methodLink own idx y ∈ g_tb) (hy : Cond.instanceMethod y ∈ g_tb ∧ Cond.selects C y y ∈ g_tb ∧ Cond.initialized y.cls ∈ g_tb ∧ Cond.code y cc' nL' ret' ∈ g_tb)
    (hd : y.cls ≠ "java/lang/invoke/MethodHandle" ∧ y.cls ≠ "java/lang/invoke/VarHandle" ∧ (parseMethodDescriptor y.desc).map (fun d => d.parameters.length) = some As.length) (hR2 : rk' < rk ∧ nL' ≤ 41 ∧ ce + mc' ≤ mc ∧ sl + ms' ≤ ms ∧ (st.map g_cat).sum ≤ 8) (hf : g_find tab pc = some (.invokevirtual idx, 3, iv)) (hstk : stk = As.reverse ++ vR b :: st)
    (k : ∀ r, oc = some r → g_H E (ce + mc') (sl + ms') (pc + 3) lv ((embc r).1.toList ++ st) (embc r).2 (kt r) emb) : g_H E ce sl pc lv stk u (oc.bind kt) emb := by
  intro r hr
  obtain ⟨rc, hoc, hr⟩ := Option.bind_eq_some_iff.mp hr
  have hC := hC rc hoc
  have k := k rc hoc r hr
  obtain ⟨⟨⟨hx, hb, hml, hown, hts⟩, hrt, hlocks, hK⟩, hnL, hT, hE⟩ := J
  obtain ⟨p, l, e, R, s, m, args, below, meth, c, D, cy, ad0, u0, nL, mc, ms⟩ := E
  obtain ⟨rfl, hR, rfl, rfl, hnm⟩ := hE
  intro ad H locs ls a1 a2 a3 a4 a5 a6 a7
  subst hstk
  obtain ⟨L, q, hL, hP, hD, hq, hcell⟩ := a2.get hs
  rw [g_cl_obj hcls.2.2.2.1] at hcell
  have hb0 := g_ne0 a3 hs
  have hr1 : rk' + 1 ≤ rk := hR2.1
  have hr2 : 8 + (nL' + 11) + 60 * rk' ≤ 60 * rk := by have h1 := hR2.1; have h2 := hR2.2.1; omega
  have hcat : ((st.map (g_cv ad)).map fun v => v.category).sum ≤ 8 := by
    have h1 : ((st.map (g_cv ad)).map fun v => v.category) = st.map g_cat := by
      rw [List.map_map]; apply List.map_congr_left; intro v _; exact g_cat_cv ad v
    rw [h1]; exact hR2.2.2.2.2
  have e1 : (As.reverse ++ vR b :: st).map (g_cv ad) = (As.map (g_cv ad)).reverse ++ .ref (ad b) :: st.map (g_cv ad) := by
    rw [List.map_append, List.map_reverse, List.map_cons, g_cv_R hb0]
  rw [e1]
  have hM := hC D cy ad H.size
  rw [List.map_cons, g_cv_R hb0] at hM
  refine g_back (oc := embc rc) (st := st) (u := u) (va_runV (As := As.map (g_cv ad)) (rest := st.map (g_cv ad)) (n := As.length) ⟨hx, hb, hml, hown, hts⟩ hM ⟨callB_of As.length hts (g_good hy.2.2.2) rfl rfl rfl (hts _ hy.2.2.1) (hts _ hw) hd (by rw [hR]; exact ⟨hr1, hr2⟩), hts _ hy.1, hts _ hy.2.1⟩ ⟨g_blind, va_recv hK.1 hP hcls.1 hcell, fun U hU hW => ⟨rfl, by rw [hU], by rw [hU]; exact a2.weaken (fun _ _ _ => trivial), a3, hK.call a1.2 a4 hU hW (g_Fsub a2 a4), ?_⟩⟩ rfl (List.length_map _) a7.1 rfl (lv_room hcat) (g_find_ok hT hf).1 (by rw [hR]; exact ⟨hR2.2.2.1, hR2.2.2.2.1⟩)) a1 a2 a4 (fun v hv => a5 v (List.mem_append_right _ (List.mem_cons_of_mem _ hv))) a6 a7 k
  intro v hv
  rcases List.mem_cons.mp hv with rfl | hv
  · exact a5 _ (List.mem_append_right _ List.mem_cons_self)
  · exact a5 _ (List.mem_append_left _ (List.mem_reverse.mpr hv))
/-- a static method -/
theorem r_callS (J : g_J E cc own nm ret nL tab rk mc ms l) {y : MethodName} {cc' : ByteArray} {nL' rk' mc' ms' idx : Nat} {β : Type} {oc : Option β} {embc : β → gO} {kt : β → Option α} {stk As : List gV} {ret' : Option FieldType}
    (hC : ∀ r, oc = some r → g_Ct l y cc' nL' ret' rk' mc' ms' As u (embc r)) (hw : Cond.methodLink own idx y ∈ g_tb) (hy : Cond.static y ∈ g_tb ∧ Cond.initialized y.cls ∈ g_tb ∧ Cond.code y cc' nL' ret' ∈ g_tb)
    (hd : y.cls ≠ "java/lang/invoke/MethodHandle" ∧ y.cls ≠ "java/lang/invoke/VarHandle" ∧ (parseMethodDescriptor y.desc).map (fun d => d.parameters.length) = some As.length) (hR2 : rk' < rk ∧ nL' ≤ 41 ∧ ce + mc' ≤ mc ∧ sl + ms' ≤ ms ∧ (st.map g_cat).sum ≤ 8) (hf : g_find tab pc = some (.invokestatic idx, 3, iv)) (hstk : stk = As.reverse ++ st)
    (k : ∀ r, oc = some r → g_H E (ce + mc') (sl + ms') (pc + 3) lv ((embc r).1.toList ++ st) (embc r).2 (kt r) emb) : g_H E ce sl pc lv stk u (oc.bind kt) emb := by
  intro r hr
  obtain ⟨rc, hoc, hr⟩ := Option.bind_eq_some_iff.mp hr
  have hC := hC rc hoc
  have k := k rc hoc r hr
  obtain ⟨⟨⟨hx, hb, hml, hown, hts⟩, hrt, hlocks, hK⟩, hnL, hT, hE⟩ := J
  obtain ⟨p, l, e, R, s, m, args, below, meth, c, D, cy, ad0, u0, nL, mc, ms⟩ := E
  obtain ⟨rfl, hR, rfl, rfl, hnm⟩ := hE
  intro ad H locs ls a1 a2 a3 a4 a5 a6 a7
  subst hstk
  have hr1 : rk' + 1 ≤ rk := hR2.1
  have hr2 : 8 + (nL' + 11) + 60 * rk' ≤ 60 * rk := by have h1 := hR2.1; have h2 := hR2.2.1; omega
  have hcat : ((st.map (g_cv ad)).map fun v => v.category).sum ≤ 8 := by
    have h1 : ((st.map (g_cv ad)).map fun v => v.category) = st.map g_cat := by
      rw [List.map_map]; apply List.map_congr_left; intro v _; exact g_cat_cv ad v
    rw [h1]; exact hR2.2.2.2.2
  have e1 : (As.reverse ++ st).map (g_cv ad) = (As.map (g_cv ad)).reverse ++ st.map (g_cv ad) := by
    rw [List.map_append, List.map_reverse]
  rw [e1]
  have hM := hC D cy ad H.size
  exact g_back (oc := embc rc) (st := st) (u := u) (va_runS (As := As.map (g_cv ad)) (rest := st.map (g_cv ad)) (n := As.length) ⟨hx, hb, hml, hown, hts⟩ hM ⟨callB_of As.length hts (g_good hy.2.2) rfl rfl rfl (hts _ hy.2.1) (hts _ hw) hd (by rw [hR]; exact ⟨hr1, hr2⟩), hts _ hy.1⟩ ⟨g_blind, fun U hU hW => ⟨rfl, by rw [hU], by rw [hU]; exact a2.weaken (fun _ _ _ => trivial), a3, hK.call a1.2 a4 hU hW (g_Fsub a2 a4), fun v hv => a5 _ (List.mem_append_left _ (List.mem_reverse.mpr hv))⟩⟩ rfl (List.length_map _) a7.1 rfl (lv_room hcat) (g_find_ok hT hf).1 (by rw [hR]; exact ⟨hR2.2.2.1, hR2.2.2.2.1⟩)) a1 a2 a4 (fun v hv => a5 v (List.mem_append_right _ hv)) a6 a7 k
/-- a static method of a nest mate -/
theorem r_callSN (J : g_J E cc own nm ret nL tab rk mc ms l) {y : MethodName} {cc' : ByteArray} {nL' rk' mc' ms' idx : Nat} {β : Type} {oc : Option β} {embc : β → gO} {kt : β → Option α} {stk As : List gV} {ret' : Option FieldType} {host : String}
    (hC : ∀ r, oc = some r → g_Ct l y cc' nL' ret' rk' mc' ms' As u (embc r)) (hw : (own, idx, y, host) ∈ g_nest) (hy : Cond.static y ∈ g_tb ∧ Cond.initialized y.cls ∈ g_tb ∧ Cond.code y cc' nL' ret' ∈ g_tb)
    (hd : y.cls ≠ "java/lang/invoke/MethodHandle" ∧ y.cls ≠ "java/lang/invoke/VarHandle" ∧ (parseMethodDescriptor y.desc).map (fun d => d.parameters.length) = some As.length) (hR2 : rk' < rk ∧ nL' ≤ 41 ∧ ce + mc' ≤ mc ∧ sl + ms' ≤ ms ∧ (st.map g_cat).sum ≤ 8) (hf : g_find tab pc = some (.invokestatic idx, 3, iv)) (hstk : stk = As.reverse ++ st)
    (k : ∀ r, oc = some r → g_H E (ce + mc') (sl + ms') (pc + 3) lv ((embc r).1.toList ++ st) (embc r).2 (kt r) emb) : g_H E ce sl pc lv stk u (oc.bind kt) emb := by
  intro r hr
  obtain ⟨rc, hoc, hr⟩ := Option.bind_eq_some_iff.mp hr
  have hC := hC rc hoc
  have k := k rc hoc r hr
  obtain ⟨⟨⟨hx, hb, hml, hown, hts⟩, hrt, hlocks, hK⟩, hnL, hT, hE⟩ := J
  obtain ⟨p, l, e, R, s, m, args, below, meth, c, D, cy, ad0, u0, nL, mc, ms⟩ := E
  obtain ⟨rfl, hR, rfl, rfl, hnm⟩ := hE
  intro ad H locs ls a1 a2 a3 a4 a5 a6 a7
  subst hstk
  have hr1 : rk' + 1 ≤ rk := hR2.1
  have hr2 : 8 + (nL' + 11) + 60 * rk' ≤ 60 * rk := by have h1 := hR2.1; have h2 := hR2.2.1; omega
  have hcat : ((st.map (g_cv ad)).map fun v => v.category).sum ≤ 8 := by
    have h1 : ((st.map (g_cv ad)).map fun v => v.category) = st.map g_cat := by
      rw [List.map_map]; apply List.map_congr_left; intro v _; exact g_cat_cv ad v
    rw [h1]; exact hR2.2.2.2.2
  have e1 : (As.reverse ++ st).map (g_cv ad) = (As.map (g_cv ad)).reverse ++ st.map (g_cv ad) := by
    rw [List.map_append, List.map_reverse]
  rw [e1]
  have hM := hC D cy ad H.size
  exact g_back (oc := embc rc) (st := st) (u := u) (va_runSN (As := As.map (g_cv ad)) (rest := st.map (g_cv ad)) (n := As.length) ⟨hx, hb, hml, hown, hts⟩ hM ⟨va_cnB As.length hts (g_good hy.2.2) rfl rfl rfl (hK.2.2.2.2.1 _ hw) (hts _ hy.2.1) hd (by rw [hR]; exact ⟨hr1, hr2⟩), hts _ hy.1, trivial⟩ ⟨g_blind, fun U hU hW => ⟨rfl, by rw [hU], by rw [hU]; exact a2.weaken (fun _ _ _ => trivial), a3, hK.call a1.2 a4 hU hW (g_Fsub a2 a4), fun v hv => a5 _ (List.mem_append_left _ (List.mem_reverse.mpr hv))⟩⟩ rfl (List.length_map _) a7.1 rfl (lv_room hcat) (g_find_ok hT hf).1 (by rw [hR]; exact ⟨hR2.2.2.1, hR2.2.2.2.1⟩)) a1 a2 a4 (fun v hv => a5 v (List.mem_append_right _ hv)) a6 a7 k
/-- a constructor; one of a nest mate -/
theorem r_callI (J : g_J E cc own nm ret nL tab rk mc ms l) {y : MethodName} {cc' : ByteArray} {nL' rk' mc' ms' idx : Nat} {β : Type} {oc : Option β} {embc : β → gO} {kt : β → Option α} {stk As : List gV} {b : Nat}
    (hC : ∀ r, oc = some r → g_Ct l y cc' nL' none rk' mc' ms' (vR b :: As) u (embc r)) (hs : u.1.1 b ≠ none) (hw : Cond.methodLink own idx y ∈ g_tb) (hy : Cond.instanceMethod y ∈ g_tb ∧ Cond.initialized y.cls ∈ g_tb ∧ Cond.code y cc' nL' none ∈ g_tb) (hy1 : y.name = "<init>")
    (hd : y.cls ≠ "java/lang/invoke/MethodHandle" ∧ y.cls ≠ "java/lang/invoke/VarHandle" ∧ (parseMethodDescriptor y.desc).map (fun d => d.parameters.length) = some As.length) (hR2 : rk' < rk ∧ nL' ≤ 41 ∧ ce + mc' ≤ mc ∧ sl + ms' ≤ ms ∧ (st.map g_cat).sum ≤ 8) (hf : g_find tab pc = some (.invokespecial idx, 3, iv)) (hstk : stk = As.reverse ++ vR b :: st)
    (k : ∀ r, oc = some r → g_H E (ce + mc') (sl + ms') (pc + 3) lv ((embc r).1.toList ++ st) (embc r).2 (kt r) emb) : g_H E ce sl pc lv stk u (oc.bind kt) emb := by
  intro r hr
  obtain ⟨rc, hoc, hr⟩ := Option.bind_eq_some_iff.mp hr
  have hC := hC rc hoc
  have k := k rc hoc r hr
  obtain ⟨⟨⟨hx, hb, hml, hown, hts⟩, hrt, hlocks, hK⟩, hnL, hT, hE⟩ := J
  obtain ⟨p, l, e, R, s, m, args, below, meth, c, D, cy, ad0, u0, nL, mc, ms⟩ := E
  obtain ⟨rfl, hR, rfl, rfl, hnm⟩ := hE
  intro ad H locs ls a1 a2 a3 a4 a5 a6 a7
  subst hstk
  have hb0 : b ≠ 0 := fun e => hs (by rw [e]; exact a3.1)
  have hr1 : rk' + 1 ≤ rk := hR2.1
  have hr2 : 8 + (nL' + 11) + 60 * rk' ≤ 60 * rk := by have h1 := hR2.1; have h2 := hR2.2.1; omega
  have hcat : ((st.map (g_cv ad)).map fun v => v.category).sum ≤ 8 := by
    have h1 : ((st.map (g_cv ad)).map fun v => v.category) = st.map g_cat := by
      rw [List.map_map]; apply List.map_congr_left; intro v _; exact g_cat_cv ad v
    rw [h1]; exact hR2.2.2.2.2
  have e1 : (As.reverse ++ vR b :: st).map (g_cv ad) = (As.map (g_cv ad)).reverse ++ .ref (ad b) :: st.map (g_cv ad) := by
    rw [List.map_append, List.map_reverse, List.map_cons, g_cv_R hb0]
  rw [e1]
  have hM := hC D cy ad H.size
  rw [List.map_cons, g_cv_R hb0] at hM
  refine g_back (oc := embc rc) (st := st) (u := u) (va_runI (As := As.map (g_cv ad)) (rest := st.map (g_cv ad)) (n := As.length) ⟨hx, hb, hml, hown, hts⟩ hM ⟨callB_of As.length hts (g_good hy.2.2) rfl rfl rfl (hts _ hy.2.1) (hts _ hw) hd (by rw [hR]; exact ⟨hr1, hr2⟩), hy1, hts _ hy.1⟩ ⟨g_blind, fun U hU hW => ⟨rfl, by rw [hU], by rw [hU]; exact a2.weaken (fun _ _ _ => trivial), a3, hK.call a1.2 a4 hU hW (g_Fsub a2 a4), ?_⟩⟩ rfl (List.length_map _) a7.1 rfl (lv_room hcat) (g_find_ok hT hf).1 (by rw [hR]; exact ⟨hR2.2.2.1, hR2.2.2.2.1⟩)) a1 a2 a4 (fun v hv => a5 v (List.mem_append_right _ (List.mem_cons_of_mem _ hv))) a6 a7 k
  intro v hv
  rcases List.mem_cons.mp hv with rfl | hv
  · exact a5 _ (List.mem_append_right _ List.mem_cons_self)
  · exact a5 _ (List.mem_append_left _ (List.mem_reverse.mpr hv))
theorem r_callIN (J : g_J E cc own nm ret nL tab rk mc ms l) {y : MethodName} {cc' : ByteArray} {nL' rk' mc' ms' idx : Nat} {β : Type} {oc : Option β} {embc : β → gO} {kt : β → Option α} {stk As : List gV} {b : Nat} {host : String}
    (hC : ∀ r, oc = some r → g_Ct l y cc' nL' none rk' mc' ms' (vR b :: As) u (embc r)) (hs : u.1.1 b ≠ none) (hw : (own, idx, y, host) ∈ g_nest) (hy : Cond.instanceMethod y ∈ g_tb ∧ Cond.initialized y.cls ∈ g_tb ∧ Cond.code y cc' nL' none ∈ g_tb) (hy1 : y.name = "<init>")
    (hd : y.cls ≠ "java/lang/invoke/MethodHandle" ∧ y.cls ≠ "java/lang/invoke/VarHandle" ∧ (parseMethodDescriptor y.desc).map (fun d => d.parameters.length) = some As.length) (hR2 : rk' < rk ∧ nL' ≤ 41 ∧ ce + mc' ≤ mc ∧ sl + ms' ≤ ms ∧ (st.map g_cat).sum ≤ 8) (hf : g_find tab pc = some (.invokespecial idx, 3, iv)) (hstk : stk = As.reverse ++ vR b :: st)
    (k : ∀ r, oc = some r → g_H E (ce + mc') (sl + ms') (pc + 3) lv ((embc r).1.toList ++ st) (embc r).2 (kt r) emb) : g_H E ce sl pc lv stk u (oc.bind kt) emb := by
  intro r hr
  obtain ⟨rc, hoc, hr⟩ := Option.bind_eq_some_iff.mp hr
  have hC := hC rc hoc
  have k := k rc hoc r hr
  obtain ⟨⟨⟨hx, hb, hml, hown, hts⟩, hrt, hlocks, hK⟩, hnL, hT, hE⟩ := J
  obtain ⟨p, l, e, R, s, m, args, below, meth, c, D, cy, ad0, u0, nL, mc, ms⟩ := E
  obtain ⟨rfl, hR, rfl, rfl, hnm⟩ := hE
  intro ad H locs ls a1 a2 a3 a4 a5 a6 a7
  subst hstk
  have hb0 : b ≠ 0 := fun e => hs (by rw [e]; exact a3.1)
  have hr1 : rk' + 1 ≤ rk := hR2.1
  have hr2 : 8 + (nL' + 11) + 60 * rk' ≤ 60 * rk := by have h1 := hR2.1; have h2 := hR2.2.1; omega
  have hcat : ((st.map (g_cv ad)).map fun v => v.category).sum ≤ 8 := by
    have h1 : ((st.map (g_cv ad)).map fun v => v.category) = st.map g_cat := by
      rw [List.map_map]; apply List.map_congr_left; intro v _; exact g_cat_cv ad v
    rw [h1]; exact hR2.2.2.2.2
  have e1 : (As.reverse ++ vR b :: st).map (g_cv ad) = (As.map (g_cv ad)).reverse ++ .ref (ad b) :: st.map (g_cv ad) := by
    rw [List.map_append, List.map_reverse, List.map_cons, g_cv_R hb0]
  rw [e1]
  have hM := hC D cy ad H.size
  rw [List.map_cons, g_cv_R hb0] at hM
  refine g_back (oc := embc rc) (st := st) (u := u) (va_runIN (As := As.map (g_cv ad)) (rest := st.map (g_cv ad)) (n := As.length) ⟨hx, hb, hml, hown, hts⟩ hM ⟨va_cnB As.length hts (g_good hy.2.2) rfl rfl rfl (hK.2.2.2.2.1 _ hw) (hts _ hy.2.1) hd (by rw [hR]; exact ⟨hr1, hr2⟩), hy1, hts _ hy.1⟩ ⟨g_blind, fun U hU hW => ⟨rfl, by rw [hU], by rw [hU]; exact a2.weaken (fun _ _ _ => trivial), a3, hK.call a1.2 a4 hU hW (g_Fsub a2 a4), ?_⟩⟩ rfl (List.length_map _) a7.1 rfl (lv_room hcat) (g_find_ok hT hf).1 (by rw [hR]; exact ⟨hR2.2.2.1, hR2.2.2.2.1⟩)) a1 a2 a4 (fun v hv => a5 v (List.mem_append_right _ (List.mem_cons_of_mem _ hv))) a6 a7 k
  intro v hv
  rcases List.mem_cons.mp hv with rfl | hv
  · exact a5 _ (List.mem_append_right _ List.mem_cons_self)
  · exact a5 _ (List.mem_append_left _ (List.mem_reverse.mpr hv))
/-- Object's constructor -/
theorem r_objI (J : g_J E cc own nm ret nL tab rk mc ms l) {a idx : Nat} (hs : u.1.1 a ≠ none) (hw : Cond.methodLink own idx objectInit ∈ g_tb) (hy : Cond.instanceMethod objectInit ∈ g_tb ∧ Cond.code objectInit ⟨#[0xb1]⟩ 1 none ∈ g_tb) (hf : g_find tab pc = some (.invokespecial idx, 3, iv)) (hR2 : 1 ≤ rk ∧ (st.map g_cat).sum ≤ 8) (k : g_H E ce sl (pc + 3) lv st u om emb) : g_H E ce sl pc lv (vR a :: st) u om emb := by
  intro r hr
  have k := k r hr
  obtain ⟨⟨⟨hx, hb, hml, hown, hts⟩, hrt, hlocks, hK⟩, hnL, hT, hE⟩ := J
  obtain ⟨p, l, e, R, s, m, args, below, meth, c, D, cy, ad0, u0, nL, mc, ms⟩ := E
  obtain ⟨rfl, hR, rfl, rfl, hnm⟩ := hE
  intro ad H locs ls a1 a2 a3 a4 a5 a6 a7
  have h0 : a ≠ 0 := fun e => hs (by rw [e]; exact a3.1)
  show W p l e R s m args below meth c H locs ce sl _ (F0 m pc ls (g_cv ad (vR a) :: st.map (g_cv ad)))
  rw [g_cv_R h0]
  have hcat : ((st.map (g_cv ad)).map fun v => v.category).sum ≤ 8 := by
    have h1 : ((st.map (g_cv ad)).map fun v => v.category) = st.map g_cat := by
      rw [List.map_map]; apply List.map_congr_left; intro v _; exact g_cat_cv ad v
    rw [h1]; exact hR2.2
  have hroom : 2 * (F0 m pc ls (.ref (ad a) :: st.map (g_cv ad))).monitorRoom + ((st.map (g_cv ad)).map fun v => v.category).sum ≤ 8 := lv_room hcat
  exact W.objInit hx hb hown (hts _ hw) (hts _ hy.1) (hts _ hy.2) rfl (by rw [hml]; exact a7.1) rfl (g_find_ok hT hf).1 (by rw [hR]; exact hR2.1) (by rw [hR]; have h1 := hR2.1; show _ ≤ 60 * rk; omega) (k ad H locs ls a1 a2 a3 a4 (fun v hv => a5 v (List.mem_cons_of_mem _ hv)) a6 a7)
end GR
/-- the locals with which a method begins -/
def g_args (i : Nat) (av : List gV) : List (Nat × gV) := match av with
  | [] => []
  | v :: vs => (i, v) :: g_args (if g_cat v = 2 then i + 2 else i + 1) vs
theorem g_args_cv (ad : Nat → Nat) : ∀ (av : List gV) (i : Nat), lv_args i (av.map (g_cv ad)) = (g_args i av).map fun q => (q.1, g_cv ad q.2)
  | [], _ => rfl
  | v :: vs, i => by
    show (i, g_cv ad v) :: lv_args (if (g_cv ad v).category = 2 then i + 2 else i + 1) (vs.map (g_cv ad)) = _
    rw [g_cat_cv, g_args_cv ad vs]; rfl
theorem g_args_mem {σ : gS} : ∀ (av : List gV) (i : Nat), (∀ v ∈ av, g_ok σ v) → ∀ q ∈ g_args i av, g_ok σ q.2
  | [], _, _, q, h => by cases h
  | v :: vs, i, h0, q, h => by
    rcases List.mem_cons.mp h with rfl | h
    · exact h0 v List.mem_cons_self
    · exact g_args_mem vs _ (fun w hw => h0 w (List.mem_cons_of_mem _ hw)) q h
theorem g_sl_len (ad : Nat → Nat) : ∀ av : List gV, (lg_sl (av.map (g_cv ad))).length = (av.map g_cat).sum
  | [] => rfl
  | v :: vs => by
    have ih := g_sl_len ad vs
    unfold lg_sl at ih ⊢
    rw [List.map_cons, List.flatMap_cons, List.length_append, ih, List.map_cons, List.sum_cons, g_cat_cv]
    have : g_cat v = 1 ∨ g_cat v = 2 := by rcases v with x | x | a | q <;> first | exact Or.inl rfl | exact Or.inr rfl
    rcases this with h | h <;> rw [h] <;> rfl
/-- a contract out of the walk of the body -/
theorem g_Ct.of {l : Launch} {y : MethodName} {cc : ByteArray} {nL : Nat} {ret : Option FieldType} {rk mc ms : Nat} {av : List gV} {u : gU} {o : gO} (tab : gT) (hy : plainName y.cls = true) (hT : g_okT cc tab = true) (hn : (av.map g_cat).sum ≤ nL)
    (k : ∀ E : gE, g_J E cc y.cls y.name ret nL tab rk mc ms l → g_G E 0 0 0 (g_args 0 av) [] u o) (hth : g_thr o = false := by rfl) : g_Ct l y cc nL ret rk mc ms av u o := by
  intro D cy ad sz
  refine Met.ofW (cc := cc) (maxL := nL) (ret := ret) hy rfl ?_
  intro p e s m args below meth c s₁ B hml hv
  obtain ⟨rfl, hsz, hP, hC, hK, hok⟩ := hv
  have hts : ∀ w ∈ g_tb, w.before (av.map (g_cv ad)).toArray s = true := fun w hw => atoms_spec B.pre w (List.mem_cons_of_mem _ hw)
  subst hsz
  have hl := lv_entry (av.map (g_cv ad)) (n := nL) (by rw [g_sl_len]; exact hn)
  rw [lg_entry_eq]
  rw [g_args_cv] at hl
  have key := k (p, l, e, { frames := rk, cells := mc, slots := ms, locals := 60 * rk }, s, m, (av.map (g_cv ad)).toArray, below, meth, c, D, cy, ad, u, nL, mc, ms) ⟨⟨⟨B.exec, B.bytes, hml, findClass_of_methodNamed B.named, hts⟩, B.returns, B.notSynchronized, hK⟩, rfl, hT, rfl, rfl, rfl, rfl, (name_of_methodNamed B.named B.method).1⟩
  have fin := key ad s.heap [] _ ⟨fun a h => ⟨rfl, h⟩, fun _ => rfl⟩ (hP.weaken (fun a h _ => Or.inl ⟨a, h, rfl⟩)) hC va_S.rf (fun _ h => by cases h) (g_args_mem av 0 hok) hl
  rw [g_end_n hth] at fin
  exact fin
