/-! new cells, stores of references, copies, switches -/
def g_nw (u : gU) (a kd n : Nat) : gU := ((fun b => if b = a then some (kd, n) else u.1.1 b, g_z u.1.2 a 0), g_z u.2.1 a 0, g_z u.2.2 a 0)
theorem g_C_nw {u : gU} {a kd n : Nat} (h : g_C u.1) (h0 : a ≠ 0) (ha : u.1.1 a = none) : g_C (g_nw u a kd n).1 := by
  refine ⟨?_, fun b k hb => ?_, fun b kd' n' k t hb hk => ?_⟩
  · show (if (0 : Nat) = a then some (kd, n) else u.1.1 0) = none
    rw [if_neg (Ne.symm h0)]; exact h.1
  · show g_z u.1.2 a 0 b k = 0 ∨ (if g_z u.1.2 a 0 b k = a then some (kd, n) else u.1.1 (g_z u.1.2 a 0 b k)) ≠ none
    by_cases e : b = a
    · exact Or.inl (by simp [g_z, e])
    · have hb' : u.1.1 b ≠ none := by
        have : (if b = a then some (kd, n) else u.1.1 b) ≠ none := hb
        rwa [if_neg e] at this
      rw [g_z_a _ _ e]
      rcases h.2.1 b k hb' with z | z
      · exact Or.inl z
      · refine Or.inr ?_
        split
        · exact fun q => by cases q
        · exact z
  · show g_z u.1.2 a 0 b k = 0 ∨ ∃ n', (if g_z u.1.2 a 0 b k = a then some (kd, n) else u.1.1 (g_z u.1.2 a 0 b k)) = some (t, n')
    by_cases e : b = a
    · exact Or.inl (by simp [g_z, e])
    · have hb' : u.1.1 b = some (kd', n') := by
        have : (if b = a then some (kd, n) else u.1.1 b) = some (kd', n') := hb
        rwa [if_neg e] at this
      rw [g_z_a _ _ e]
      rcases h.2.2 b kd' n' k t hb' hk with z | ⟨n2, z⟩
      · exact Or.inl z
      · refine Or.inr ⟨n2, ?_⟩
        rw [if_neg (fun q => by rw [q, ha] at z; cases z)]
        exact z
/-- the world with one cell more -/
theorem g_W_new {cy : Nat → ClassId} {ad : Nat → Nat} {u : gU} {L : List Nat} {a kd n q : Nat} {e : va_E} (hC : g_C u.1) (ha : u.1.1 a = none) (h0 : a ≠ 0) (hL : ∀ b, b ∈ L ↔ u.1.1 b ≠ none) (he : e = g_cl cy (fun b => if b = a then q else ad b) (g_nw u a kd n) a kd n) :
    g_W cy ad u L ++ [(q, e)] = g_W cy (fun b => if b = a then q else ad b) (g_nw u a kd n) (L ++ [a]) := by
  unfold g_W
  rw [List.map_append]
  congr 1
  · apply List.map_congr_left
    intro b hb
    have hb' := (hL b).mp hb
    have hne : b ≠ a := fun e2 => hb' (by rw [e2]; exact ha)
    have hrf : ∀ k, g_rf (fun b => if b = a then q else ad b) (u.1.2 b k) = g_rf ad (u.1.2 b k) := by
      intro k
      unfold g_rf
      rcases hC.2.1 b k hb' with z | z
      · rw [if_pos z, if_pos z]
      · have : u.1.2 b k ≠ a := fun e2 => z (by rw [e2]; exact ha)
        split
        · rfl
        · show some (if u.1.2 b k = a then q else ad (u.1.2 b k)) = _
          rw [if_neg this]
    have hs1 : (g_nw u a kd n).1.1 b = u.1.1 b := by show (if b = a then some (kd, n) else u.1.1 b) = _; rw [if_neg hne]
    have hs2 : (g_nw u a kd n).1.2 b = u.1.2 b := g_z_a _ _ hne
    have hs3 : (g_nw u a kd n).2.1 b = u.2.1 b := g_z_a _ _ hne
    have hs4 : (g_nw u a kd n).2.2 b = u.2.2 b := g_z_a _ _ hne
    have hc : g_cell cy (fun b => if b = a then q else ad b) (g_nw u a kd n) b = g_cell cy ad u b := by
      unfold g_cell g_kd g_ln g_cl g_row g_sv
      rw [hs1, hs2, hs3, hs4]
      simp only [hrf]
    rw [hc]
    show (ad b, _) = ((if b = a then q else ad b), _)
    rw [if_neg hne]
  · show [(q, e)] = [((if a = a then q else ad a), _)]
    rw [if_pos rfl, g_cell_of (u := g_nw u a kd n) (show (if a = a then some (kd, n) else u.1.1 a) = some (kd, n) from if_pos rfl), he]
theorem g_keep {u : gU} {ad : Nat → Nat} {a q : Nat} (ha : u.1.1 a = none) (b : Nat) (hb : u.1.1 b ≠ none) : (fun b => if b = a then q else ad b) b = ad b := by
  show (if b = a then q else ad b) = ad b
  rw [if_neg (fun e => hb (by rw [e]; exact ha))]
theorem g_more {u : gU} {a kd n : Nat} (b : Nat) (hb : u.1.1 b ≠ none) : (g_nw u a kd n).1.1 b ≠ none := by
  show (if b = a then some (kd, n) else u.1.1 b) ≠ none
  split
  · exact fun q => by cases q
  · exact hb
section GN
variable {p : Program} {l : Launch} {e : Env} {R : Room} {s : State} {m : MethodId} {args : Array Value} {below : List Frame} {meth : Method} {c : Code} {H : Heap} {locs : List Loc} {ce sl mc ms k1 k2 : Nat} {D : va_G} {cy : Nat → ClassId} {ad0 ad : Nat → Nat} {u0 u : gU} {o : gO} {nL pc : Nat} {ls : Array Slot} {st : List gV} {lv : List (Nat × gV)}
/-- behind a new cell -/
theorem g_made {a kd n q : Nat} {H1 : Heap} {L : List Nat} {ec : va_E} (ha : u.1.1 a = none) (h00 : a ≠ 0 ∧ a < g_EXT) (hL : ∀ b, b ∈ L ↔ u.1.1 b ≠ none) (he : ec = g_cl cy (fun b => if b = a then q else ad b) (g_nw u a kd n) a kd n)
    (p1 : va_P D vwCl (g_W cy ad u L ++ [(q, ec)]) H1) (p2 : va_D (g_F ad0 u0 s.heap.size) (g_W cy ad u L ++ [(q, ec)])) (p3 : va_S (g_F ad0 u0 s.heap.size) s.heap H1 locs)
    (a1 : (∀ a, u0.1.1 a ≠ none → ad a = ad0 a ∧ u.1.1 a ≠ none) ∧ ∀ i, ad (g_EXT + i) = ad0 (g_EXT + i)) (a3 : g_C u.1) (a5 : ∀ v ∈ st, g_ok u.1 v) (a6 : ∀ q ∈ lv, g_ok u.1 q.2) (a7 : lv_has ls nL (lv.map fun q => (q.1, g_cv ad q.2)))
    (k : g_G (p, l, e, R, s, m, args, below, meth, c, D, cy, ad0, u0, nL, mc, ms) ce sl pc lv (vR a :: st) (g_nw u a kd n) o) :
    W p l e R s m args below meth c H1 locs ce sl (g_end below D cy ad0 u0 args s mc ms o) (F0 m pc ls (.ref q :: st.map (g_cv ad))) := by
  have h0 := h00.1
  have hx : ∀ i, (fun b => if b = a then q else ad b) (g_EXT + i) = ad (g_EXT + i) := fun i => by
    show (if g_EXT + i = a then q else ad (g_EXT + i)) = _
    rw [if_neg (by have := h00.2; omega)]
  rw [g_W_new a3 ha h0 hL he] at p1 p2
  have cst : ∀ v ∈ st, g_cv (fun b => if b = a then q else ad b) v = g_cv ad v := fun v hv => g_cv_eq (a5 v hv) (fun b h => g_keep ha b h) hx
  have clv : (lv.map fun x => (x.1, g_cv (fun b => if b = a then q else ad b) x.2)) = lv.map fun q => (q.1, g_cv ad q.2) := by
    apply List.map_congr_left
    intro x hx'
    rw [g_cv_eq (a6 x hx') (fun b h => g_keep ha b h) hx]
  have key := k (fun b => if b = a then q else ad b) H1 locs ls ⟨fun b h => ⟨(g_keep ha b (a1.1 b h).2).trans (a1.1 b h).1, g_more b (a1.1 b h).2⟩, fun i => (hx i).trans (a1.2 i)⟩ ⟨L ++ [a], fun b => ?_, p1, p2⟩ (g_C_nw a3 h0 ha) p3 ?_ (fun x hx' => g_ok_mono (a6 x hx') (fun b h => g_more b h)) (by rw [clv]; exact a7)
  · have e3 : (vR a :: st).map (g_cv (fun b => if b = a then q else ad b)) = .ref q :: st.map (g_cv ad) := by
      rw [List.map_cons, g_cv_R h0, List.map_congr_left cst]
      show Value.ref (if a = a then q else ad a) :: _ = _
      rw [if_pos rfl]
    rw [e3] at key
    exact key
  · show b ∈ L ++ [a] ↔ (if b = a then some (kd, n) else u.1.1 b) ≠ none
    rw [List.mem_append, List.mem_singleton]
    by_cases e2 : b = a
    · rw [if_pos e2]; exact ⟨fun _ => Option.some_ne_none _, fun _ => Or.inr e2⟩
    · rw [if_neg e2, ← hL b]; exact ⟨fun h => h.resolve_right e2, Or.inl⟩
  · intro v hv
    rcases List.mem_cons.mp hv with rfl | hv
    · exact Or.inr (by show (if a = a then some (kd, n) else u.1.1 a) ≠ none; rw [if_pos rfl]; exact fun q => by cases q)
    · exact g_ok_mono (a5 v hv) (fun b h => g_more b h)
end GN
section GR
variable {α : Type} {E : gE} {cc : ByteArray} {own nm : String} {ret : Option FieldType} {nL : Nat} {tab : gT} {rk mc ms : Nat} {l : Launch} {ce sl pc : Nat} {lv : List (Nat × gV)} {st : List gV} {u : gU} {om : Option α} {emb : α → gO} {iv : Int32}

/-- a new object -/
theorem r_new (J : g_J E cc own nm ret nL tab rk mc ms l) {idx kd N a : Nat} {C : String} {T : u_T} (hc : g_cls kd C T N) (hf : g_find tab pc = some (.new idx, 3, iv)) (hw : Cond.classLink own idx C ∈ g_tb ∧ Cond.instantiable C N ∈ g_tb ∧ Cond.initialized C ∈ g_tb) (hdef : ∀ k, k < N → defaultValue (g_ty kd k) = if g_fc (g_ty kd k) = 0 then .int 0 else if g_fc (g_ty kd k) = 1 then .long 0 else .null) (h0 : a ≠ 0 ∧ a < g_EXT) (ha : u.1.1 a = none) (h1 : ce + 1 ≤ mc) (h2 : sl + N ≤ ms)
    (k : g_H E (ce + 1) (sl + N) (pc + 3) lv (vR a :: st) (g_nw u a kd 0) om emb) : g_H E ce sl pc lv st u om emb := by
  intro r hr
  have k := k r hr
  obtain ⟨⟨⟨hx, hb, hml, hown, hts⟩, hrt, hlocks, hK⟩, hnL, hT, hE⟩ := J
  obtain ⟨p, l, e, R, s, m, args, below, meth, c, D, cy, ad0, u0, nL, mc, ms⟩ := E
  obtain ⟨rfl, hR, rfl, rfl, hnm⟩ := hE
  obtain ⟨c1, c2, c3, c4, c5, c6⟩ := hc
  intro ad H locs ls a1 a2 a3 a4 a5 a6 a7
  obtain ⟨L, hL, hP, hD⟩ := a2
  refine va_new (fs := (List.range N).map fun k => (if g_fc (g_ty kd k) = 0 then .int 0 else if g_fc (g_ty kd k) = 1 then .long 0 else .null : Value)) hx hb hts c2 (g_ty kd) c5 hown (hts _ hw.1) (hts _ hw.2.1) (hts _ hw.2.2) hK.1 hP hD a4 (fun q hq => Or.inr hq) c1 (fun j hj => ?_) (by rw [hR]; exact h1) (by rw [hR]; exact h2) (g_find_ok hT hf).1 (fun q H1 p1 p2 p3 => ?_)
  · rw [hdef j hj]
    unfold vp_V
    rw [List.getD_eq_getElem?_getD, g_fs_at hj]; rfl
  · refine g_made ha h0 hL ?_ p1 p2 p3 a1 a3 a5 a6 a7 k
    rw [g_cl_obj c4, c3]
    congr 2
    apply List.map_congr_left
    intro j hj
    unfold g_sv
    show _ = if g_fc (g_ty kd j) = 0 then Value.int (g_z u.2.1 a 0 a j) else if g_fc (g_ty kd j) = 1 then Value.long (g_z u.2.2 a 0 a j) else va_rf (g_rf _ (g_z u.1.2 a 0 a j))
    rw [g_z_s, g_z_s, g_z_s]
    rfl
/-- what the tables say of the class of an array -/
theorem g_arr_same {D : va_G} {cy : Nat → ClassId} {U : State} {cA : ClassId} {ty : FieldType} {i kd : Nat} (hK : va_K D vwCl (g_tys cy) U) (hi : (g_tys cy)[i]? = some (cy kd, ty)) (hp : ∀ C, ty ≠ .object C) (h : va_K D vwCl (g_tys cy ++ [(cA, ty)]) U) : cA = cy kd := by
  have e1 := (hK.2 i _ hi).2
  have e2 := (h.2 (g_tys cy).length (cA, ty) (by rw [List.getElem?_append_right (Nat.le_refl _), Nat.sub_self]; rfl)).2
  have z1 : U.vm.findClass ("[" ++ ty.toString) = some (cy kd) := by cases ty <;> first | exact absurd rfl (hp _) | exact e1
  have z2 : U.vm.findClass ("[" ++ ty.toString) = some cA := by cases ty <;> first | exact absurd rfl (hp _) | exact e2
  exact Option.some.inj (z2.symm.trans z1)
theorem g_arr_sameO {D : va_G} {cy : Nat → ClassId} {U : State} {cA : ClassId} {C : String} {i kd : Nat} (hK : va_K D vwCl (g_tys cy) U) (hi : (g_tys cy)[i]? = some (cy kd, .object C)) (h : va_K D vwCl (g_tys cy ++ [(cA, .object C)]) U) : cA = cy kd := by
  obtain ⟨_, _, -, -, -, z1⟩ := (hK.2 i _ hi).2
  obtain ⟨_, _, -, -, -, z2⟩ := (h.2 (g_tys cy).length (cA, .object C) (by rw [List.getElem?_append_right (Nat.le_refl _), Nat.sub_self]; rfl)).2
  exact Option.some.inj (z2.symm.trans z1)
theorem r_newI (J : g_J E cc own nm ret nL tab rk mc ms l) {a N B : Nat} {n : Int32} (hf : g_find tab pc = some (.newarray .int, 2, iv)) (hw : Cond.arrayClass .int ∈ g_tb) (hn : ¬ n < 0) (hN : n.toNatClampNeg = N) (hB : N ≤ B) (hB2 : B ≤ 100000) (h0 : a ≠ 0 ∧ a < g_EXT) (ha : u.1.1 a = none) (h1 : ce + 1 ≤ mc) (h2 : sl + B ≤ ms)
    (k : g_H E (ce + 1) (sl + B) (pc + 2) lv (vR a :: st) (g_nw u a 14 N) om emb) : g_H E ce sl pc lv (vI n :: st) u om emb := by
  intro r hr
  have k := k r hr
  obtain ⟨⟨⟨hx, hb, hml, hown, hts⟩, hrt, hlocks, hK⟩, hnL, hT, hE⟩ := J
  obtain ⟨p, l, e, R, s, m, args, below, meth, c, D, cy, ad0, u0, nL, mc, ms⟩ := E
  obtain ⟨rfl, hR, rfl, rfl, hnm⟩ := hE
  intro ad H locs ls a1 a2 a3 a4 a5 a6 a7
  obtain ⟨L, hL, hP, hD⟩ := a2
  show W p l e R s m args below meth c H locs ce sl _ (F0 m pc ls (.int n :: st.map (g_cv ad)))
  refine va_newa (atype := .int) (a0 := (N, .inl (fun _ => 0))) (ty := .int) hx hb (hts _ hw) rfl hK.1 hP hD a4 (fun q hq => Or.inr hq) (fun cA => rfl) hn hN (by show N * _ ≤ 536870912; simp only [componentBytes]; omega) (by rw [hR]; exact h1) (by rw [hR]; show sl + N ≤ ms; omega) (g_find_ok hT hf).1 (fun q cA H1 p0 p1 p2 p3 => ?_)
  refine W.widen (Nat.le_refl _) (Nat.add_le_add_left hB _) ?_
  have hcA : cA = cy 14 := g_arr_same (i := 1) hK.1 rfl (fun C h => by cases h) p0
  subst hcA
  refine g_made ha h0 hL ?_ p1 p2 p3 a1 a3 (fun v hv => a5 v (List.mem_cons_of_mem _ hv)) a6 a7 k
  rw [g_cl_arr (by decide)]
  show (Sum.inl (_, N, _) : va_E) = Sum.inl (_, N, Sum.inl (g_z u.2.1 a 0 a))
  rw [g_z_s]
theorem r_newB (J : g_J E cc own nm ret nL tab rk mc ms l) {a N B : Nat} {n : Int32} (hf : g_find tab pc = some (.newarray .byte, 2, iv)) (hw : Cond.arrayClass .byte ∈ g_tb) (hn : ¬ n < 0) (hN : n.toNatClampNeg = N) (hB : N ≤ B) (hB2 : B ≤ 100000) (h0 : a ≠ 0 ∧ a < g_EXT) (ha : u.1.1 a = none) (h1 : ce + 1 ≤ mc) (h2 : sl + B ≤ ms)
    (k : g_H E (ce + 1) (sl + B) (pc + 2) lv (vR a :: st) (g_nw u a 13 N) om emb) : g_H E ce sl pc lv (vI n :: st) u om emb := by
  intro r hr
  have k := k r hr
  obtain ⟨⟨⟨hx, hb, hml, hown, hts⟩, hrt, hlocks, hK⟩, hnL, hT, hE⟩ := J
  obtain ⟨p, l, e, R, s, m, args, below, meth, c, D, cy, ad0, u0, nL, mc, ms⟩ := E
  obtain ⟨rfl, hR, rfl, rfl, hnm⟩ := hE
  intro ad H locs ls a1 a2 a3 a4 a5 a6 a7
  obtain ⟨L, hL, hP, hD⟩ := a2
  show W p l e R s m args below meth c H locs ce sl _ (F0 m pc ls (.int n :: st.map (g_cv ad)))
  refine va_newa (atype := .byte) (a0 := (N, .inl (fun _ => 0))) (ty := .byte) hx hb (hts _ hw) rfl hK.1 hP hD a4 (fun q hq => Or.inr hq) (fun cA => rfl) hn hN (by show N * _ ≤ 536870912; simp only [componentBytes]; omega) (by rw [hR]; exact h1) (by rw [hR]; show sl + N ≤ ms; omega) (g_find_ok hT hf).1 (fun q cA H1 p0 p1 p2 p3 => ?_)
  refine W.widen (Nat.le_refl _) (Nat.add_le_add_left hB _) ?_
  have hcA : cA = cy 13 := g_arr_same (i := 0) hK.1 rfl (fun C h => by cases h) p0
  subst hcA
  refine g_made ha h0 hL ?_ p1 p2 p3 a1 a3 (fun v hv => a5 v (List.mem_cons_of_mem _ hv)) a6 a7 k
  rw [g_cl_arr (by decide)]
  show (Sum.inl (_, N, _) : va_E) = Sum.inl (_, N, Sum.inl (g_z u.2.1 a 0 a))
  rw [g_z_s]
theorem r_newZ (J : g_J E cc own nm ret nL tab rk mc ms l) {a N B : Nat} {n : Int32} (hf : g_find tab pc = some (.newarray .boolean, 2, iv)) (hw : Cond.arrayClass .boolean ∈ g_tb) (hn : ¬ n < 0) (hN : n.toNatClampNeg = N) (hB : N ≤ B) (hB2 : B ≤ 100000) (h0 : a ≠ 0 ∧ a < g_EXT) (ha : u.1.1 a = none) (h1 : ce + 1 ≤ mc) (h2 : sl + B ≤ ms)
    (k : g_H E (ce + 1) (sl + B) (pc + 2) lv (vR a :: st) (g_nw u a 15 N) om emb) : g_H E ce sl pc lv (vI n :: st) u om emb := by
  intro r hr
  have k := k r hr
  obtain ⟨⟨⟨hx, hb, hml, hown, hts⟩, hrt, hlocks, hK⟩, hnL, hT, hE⟩ := J
  obtain ⟨p, l, e, R, s, m, args, below, meth, c, D, cy, ad0, u0, nL, mc, ms⟩ := E
  obtain ⟨rfl, hR, rfl, rfl, hnm⟩ := hE
  intro ad H locs ls a1 a2 a3 a4 a5 a6 a7
  obtain ⟨L, hL, hP, hD⟩ := a2
  show W p l e R s m args below meth c H locs ce sl _ (F0 m pc ls (.int n :: st.map (g_cv ad)))
  refine va_newa (atype := .boolean) (a0 := (N, .inl (fun _ => 0))) (ty := .boolean) hx hb (hts _ hw) rfl hK.1 hP hD a4 (fun q hq => Or.inr hq) (fun cA => rfl) hn hN (by show N * _ ≤ 536870912; simp only [componentBytes]; omega) (by rw [hR]; exact h1) (by rw [hR]; show sl + N ≤ ms; omega) (g_find_ok hT hf).1 (fun q cA H1 p0 p1 p2 p3 => ?_)
  refine W.widen (Nat.le_refl _) (Nat.add_le_add_left hB _) ?_
  have hcA : cA = cy 15 := g_arr_same (i := 2) hK.1 rfl (fun C h => by cases h) p0
  subst hcA
  refine g_made ha h0 hL ?_ p1 p2 p3 a1 a3 (fun v hv => a5 v (List.mem_cons_of_mem _ hv)) a6 a7 k
  rw [g_cl_arr (by decide)]
  show (Sum.inl (_, N, _) : va_E) = Sum.inl (_, N, Sum.inl (g_z u.2.1 a 0 a))
  rw [g_z_s]
theorem r_newJ (J : g_J E cc own nm ret nL tab rk mc ms l) {a N B : Nat} {n : Int32} (hf : g_find tab pc = some (.newarray .long, 2, iv)) (hw : Cond.arrayClass .long ∈ g_tb) (hn : ¬ n < 0) (hN : n.toNatClampNeg = N) (hB : N ≤ B) (hB2 : B ≤ 100000) (h0 : a ≠ 0 ∧ a < g_EXT) (ha : u.1.1 a = none) (h1 : ce + 1 ≤ mc) (h2 : sl + B ≤ ms)
    (k : g_H E (ce + 1) (sl + B) (pc + 2) lv (vR a :: st) (g_nw u a 16 N) om emb) : g_H E ce sl pc lv (vI n :: st) u om emb := by
  intro r hr
  have k := k r hr
  obtain ⟨⟨⟨hx, hb, hml, hown, hts⟩, hrt, hlocks, hK⟩, hnL, hT, hE⟩ := J
  obtain ⟨p, l, e, R, s, m, args, below, meth, c, D, cy, ad0, u0, nL, mc, ms⟩ := E
  obtain ⟨rfl, hR, rfl, rfl, hnm⟩ := hE
  intro ad H locs ls a1 a2 a3 a4 a5 a6 a7
  obtain ⟨L, hL, hP, hD⟩ := a2
  show W p l e R s m args below meth c H locs ce sl _ (F0 m pc ls (.int n :: st.map (g_cv ad)))
  refine va_newa (atype := .long) (a0 := (N, .inr (.inl (fun _ => 0)))) (ty := .long) hx hb (hts _ hw) rfl hK.1 hP hD a4 (fun q hq => Or.inr hq) (fun cA => rfl) hn hN (by show N * _ ≤ 536870912; simp only [componentBytes]; omega) (by rw [hR]; exact h1) (by rw [hR]; show sl + N ≤ ms; omega) (g_find_ok hT hf).1 (fun q cA H1 p0 p1 p2 p3 => ?_)
  refine W.widen (Nat.le_refl _) (Nat.add_le_add_left hB _) ?_
  have hcA : cA = cy 16 := g_arr_same (i := 3) hK.1 rfl (fun C h => by cases h) p0
  subst hcA
  refine g_made ha h0 hL ?_ p1 p2 p3 a1 a3 (fun v hv => a5 v (List.mem_cons_of_mem _ hv)) a6 a7 k
  rw [g_cl_arr (by decide)]
  show (Sum.inl (_, N, _) : va_E) = Sum.inl (_, N, Sum.inr (Sum.inl (g_z u.2.2 a 0 a)))
  rw [g_z_s]

/-- a new array of references -/
theorem r_anew (J : g_J E cc own nm ret nL tab rk mc ms l) {idx kd a N B : Nat} {n : Int32} {C : String} (hkd : (kd = 17 ∧ C = RX6) ∨ (kd = 18 ∧ C = RX8) ∨ (kd = 19 ∧ C = RX10)) (hf : g_find tab pc = some (.anewarray idx, 3, iv)) (hw : Cond.classLink own idx C ∈ g_tb) (hn : ¬ n < 0) (hN : n.toNatClampNeg = N) (hB : N ≤ B) (hB2 : B ≤ 100000) (h0 : a ≠ 0 ∧ a < g_EXT) (ha : u.1.1 a = none) (h1 : ce + 1 ≤ mc) (h2 : sl + B ≤ ms)
    (k : g_H E (ce + 1) (sl + B) (pc + 3) lv (vR a :: st) (g_nw u a kd N) om emb) : g_H E ce sl pc lv (vI n :: st) u om emb := by
  intro r hr
  have k := k r hr
  obtain ⟨⟨⟨hx, hb, hml, hown, hts⟩, hrt, hlocks, hK⟩, hnL, hT, hE⟩ := J
  obtain ⟨p, l, e, R, s, m, args, below, meth, c, D, cy, ad0, u0, nL, mc, ms⟩ := E
  obtain ⟨rfl, hR, rfl, rfl, hnm⟩ := hE
  intro ad H locs ls a1 a2 a3 a4 a5 a6 a7
  obtain ⟨L, hL, hP, hD⟩ := a2
  have hover : va_AO C s := by rcases hkd with ⟨rfl, rfl⟩ | ⟨rfl, rfl⟩ | ⟨rfl, rfl⟩ <;> first | exact hK.2.1 | exact hK.2.2.1 | exact hK.2.2.2.1
  show W p l e R s m args below meth c H locs ce sl _ (F0 m pc ls (.int n :: st.map (g_cv ad)))
  refine va_newq hx hb hown (hts _ hw) hover hK.1 hP hD a4 (fun q hq => Or.inr hq) hn hN (by omega) (by rw [hR]; exact h1) (by rw [hR]; show sl + N ≤ ms; omega) (g_find_ok hT hf).1 (fun q cA H1 p0 p1 p2 p3 => ?_)
  refine W.widen (Nat.le_refl _) (Nat.add_le_add_left hB _) ?_
  have hcA : cA = cy kd := by rcases hkd with ⟨rfl, rfl⟩ | ⟨rfl, rfl⟩ | ⟨rfl, rfl⟩ <;> first | exact g_arr_sameO (i := 4) hK.1 rfl p0 | exact g_arr_sameO (i := 5) hK.1 rfl p0 | exact g_arr_sameO (i := 6) hK.1 rfl p0
  subst hcA
  refine g_made ha h0 hL ?_ p1 p2 p3 a1 a3 (fun v hv => a5 v (List.mem_cons_of_mem _ hv)) a6 a7 k
  rcases hkd with ⟨rfl, rfl⟩ | ⟨rfl, rfl⟩ | ⟨rfl, rfl⟩ <;>
    (rw [g_cl_arr (by decide)]
     show (Sum.inl (_, N, _) : va_E) = Sum.inl (_, N, Sum.inr (Sum.inr (Sum.inr (Sum.inr (fun k => g_rf _ (g_z u.1.2 a 0 a k))))))
     rw [g_z_s]; rfl)
/-- a reference into an array -/
theorem r_aast (J : g_J E cc own nm ret nL tab rk mc ms l) {a b n nb kd t N : Nat} {i : Int32} {C : String} {T : u_T} (hf : g_find tab pc = some (.aastore, 1, iv)) (hkd : (kd = 17 ∧ t = 6) ∨ (kd = 18 ∧ t = 8) ∨ (kd = 19 ∧ t = 10)) (hs : u.1.1 a = some (kd, n)) (hsb : u.1.1 b = some (t, nb)) (hc : g_cls t C T N) (k : g_in i n = true → g_H E ce sl (pc + 1) lv st ((u.1.1, g_up u.1.2 a i.toNatClampNeg b), u.2) om emb) : g_H E ce sl pc lv (vR b :: vI i :: vR a :: st) u (if g_in i n = true then om else none) emb := by
  intro r hr
  by_cases h : g_in i n = true
  · rw [if_pos h] at hr
    have k := k h r hr
    obtain ⟨⟨⟨hx, hb, hml, hown, hts⟩, hrt, hlocks, hK⟩, hnL, hT, hE⟩ := J
    obtain ⟨p, l, e, R, s, m, args, below, meth, c, D, cy, ad0, u0, nL, mc, ms⟩ := E
    obtain ⟨rfl, hR, rfl, rfl, hnm⟩ := hE
    intro ad H locs ls a1 a2 a3 a4 a5 a6 a7
    obtain ⟨L, q, hL, hP, hD, hq, hcell⟩ := a2.get hs
    obtain ⟨L2, q2, hL2, hP2, hD2, hq2, hcell2⟩ := a2.get hsb
    have hbm : b ∈ L := (hL b).mpr (by rw [hsb]; exact fun z => by cases z)
    obtain ⟨q3, hq3⟩ := List.getElem?_of_mem hbm
    have hcell3 : (g_W cy ad u L)[q3]? = some (ad b, .inr (t, (List.range (g_nf t)).map fun k => g_sv ad u b k (g_ty t k))) := by rw [g_W_at hq3, g_cell_of hsb, g_cl_obj hc.2.2.2.1]
    show W p l e R s m args below meth c H locs ce sl _ (F0 m pc ls (g_cv ad (vR b) :: .int i :: g_cv ad (vR a) :: st.map (g_cv ad)))
    rw [g_cv_R (g_ne0 a3 hs), g_cv_R (g_ne0 a3 hsb)]
    have hrf : some (ad b) = g_rf ad b := by unfold g_rf; rw [if_neg (g_ne0 a3 hsb)]
    have hqb : g_q u.1 b t := Or.inr ⟨nb, hsb⟩
    have hcl := hc.1
    rcases hkd with ⟨rfl, rfl⟩ | ⟨rfl, rfl⟩ | ⟨rfl, rfl⟩
    · rw [g_cl_arr (by decide)] at hcell
      have hcn : C = RX6 := by have := Option.some.inj (hcl.symm.trans (show vwCl[6]? = some (RX6, TX6, _) from rfl)); exact congrArg (fun x => x.1) this
      subst hcn
      refine va_astq hx hb hK.1 hP hD a4 q 4 q3 6 (r := (RX6, T, N)) hcell rfl hcell3 hcl (g_in_vp h) (g_find_ok hT hf).1 (fun H1 locs1 p1 p2 p3 => ?_)
      refine k ad H1 locs1 ls a1 ?_ (g_C_up a3 (g_q_ok hqb) (fun kd' n' t' z1 z2 => by rw [hs] at z1; cases z1; cases z2; exact hqb)) p3 (fun v hv => a5 v (List.mem_cons_of_mem _ (List.mem_cons_of_mem _ (List.mem_cons_of_mem _ hv)))) a6 a7
      refine g_P.set hL hD hq rfl ?_ (fun b hb => g_cell_eq rfl rfl rfl (by funext j; exact g_up_a _ _ _ _ hb)) p1 p2
      rw [g_cell_of (u := ((u.1.1, g_up u.1.2 a i.toNatClampNeg b), u.2)) hs, g_cl_arr (by decide)]
      show (Sum.inl (_, _, Sum.inr (Sum.inr (Sum.inr (Sum.inr _)))) : va_E) = Sum.inl (_, _, Sum.inr (Sum.inr (Sum.inr (Sum.inr (fun k => g_rf ad (g_up u.1.2 a i.toNatClampNeg b a k))))))
      congr 7
      funext j
      unfold va_up g_up
      by_cases hj : j = i.toNatClampNeg
      · rw [if_pos hj, if_pos ⟨rfl, hj⟩]; exact hrf
      · rw [if_neg hj, if_neg (fun z => hj z.2)]
    · rw [g_cl_arr (by decide)] at hcell
      have hcn : C = RX8 := by have := Option.some.inj (hcl.symm.trans (show vwCl[8]? = some (RX8, TX8, _) from rfl)); exact congrArg (fun x => x.1) this
      subst hcn
      refine va_astq hx hb hK.1 hP hD a4 q 5 q3 8 (r := (RX8, T, N)) hcell rfl hcell3 hcl (g_in_vp h) (g_find_ok hT hf).1 (fun H1 locs1 p1 p2 p3 => ?_)
      refine k ad H1 locs1 ls a1 ?_ (g_C_up a3 (g_q_ok hqb) (fun kd' n' t' z1 z2 => by rw [hs] at z1; cases z1; cases z2; exact hqb)) p3 (fun v hv => a5 v (List.mem_cons_of_mem _ (List.mem_cons_of_mem _ (List.mem_cons_of_mem _ hv)))) a6 a7
      refine g_P.set hL hD hq rfl ?_ (fun b hb => g_cell_eq rfl rfl rfl (by funext j; exact g_up_a _ _ _ _ hb)) p1 p2
      rw [g_cell_of (u := ((u.1.1, g_up u.1.2 a i.toNatClampNeg b), u.2)) hs, g_cl_arr (by decide)]
      show (Sum.inl (_, _, Sum.inr (Sum.inr (Sum.inr (Sum.inr _)))) : va_E) = Sum.inl (_, _, Sum.inr (Sum.inr (Sum.inr (Sum.inr (fun k => g_rf ad (g_up u.1.2 a i.toNatClampNeg b a k))))))
      congr 7
      funext j
      unfold va_up g_up
      by_cases hj : j = i.toNatClampNeg
      · rw [if_pos hj, if_pos ⟨rfl, hj⟩]; exact hrf
      · rw [if_neg hj, if_neg (fun z => hj z.2)]
    · rw [g_cl_arr (by decide)] at hcell
      have hcn : C = RX10 := by have := Option.some.inj (hcl.symm.trans (show vwCl[10]? = some (RX10, TX10, _) from rfl)); exact congrArg (fun x => x.1) this
      subst hcn
      refine va_astq hx hb hK.1 hP hD a4 q 6 q3 10 (r := (RX10, T, N)) hcell rfl hcell3 hcl (g_in_vp h) (g_find_ok hT hf).1 (fun H1 locs1 p1 p2 p3 => ?_)
      refine k ad H1 locs1 ls a1 ?_ (g_C_up a3 (g_q_ok hqb) (fun kd' n' t' z1 z2 => by rw [hs] at z1; cases z1; cases z2; exact hqb)) p3 (fun v hv => a5 v (List.mem_cons_of_mem _ (List.mem_cons_of_mem _ (List.mem_cons_of_mem _ hv)))) a6 a7
      refine g_P.set hL hD hq rfl ?_ (fun b hb => g_cell_eq rfl rfl rfl (by funext j; exact g_up_a _ _ _ _ hb)) p1 p2
      rw [g_cell_of (u := ((u.1.1, g_up u.1.2 a i.toNatClampNeg b), u.2)) hs, g_cl_arr (by decide)]
      show (Sum.inl (_, _, Sum.inr (Sum.inr (Sum.inr (Sum.inr _)))) : va_E) = Sum.inl (_, _, Sum.inr (Sum.inr (Sum.inr (Sum.inr (fun k => g_rf ad (g_up u.1.2 a i.toNatClampNeg b a k))))))
      congr 7
      funext j
      unfold va_up g_up
      by_cases hj : j = i.toNatClampNeg
      · rw [if_pos hj, if_pos ⟨rfl, hj⟩]; exact hrf
      · rw [if_neg hj, if_neg (fun z => hj z.2)]
  · rw [if_neg h] at hr; cases hr
theorem r_copy (J : g_J E cc own nm ret nL tab rk mc ms l) {idx a0 a n0 n1 : Nat} {sp dp n : Int32} (hf : g_find tab pc = some (.invokestatic idx, 3, iv)) (hw : Cond.methodLink own idx arraycopyName ∈ g_tb ∧ Cond.native arraycopyName ∈ g_tb ∧ Cond.static arraycopyName ∈ g_tb ∧ Cond.initialized "java/lang/System" ∈ g_tb) (hs0 : u.1.1 a0 = some (14, n0)) (hs : u.1.1 a = some (14, n1)) (hR2 : 1 ≤ rk ∧ (st.map g_cat).sum + (nativeFrameWords "java/lang/System" "arraycopy" 5 + 11) ≤ 60 * rk)
    (k : g_cp sp dp n n0 n1 = true → g_H E ce sl (pc + 3) lv st (u.1, g_cpM u.2.1 a0 a sp.toNatClampNeg dp.toNatClampNeg n.toNatClampNeg, u.2.2) om emb) : g_H E ce sl pc lv (vI n :: vI dp :: vR a :: vI sp :: vR a0 :: st) u (if g_cp sp dp n n0 n1 = true then om else none) emb := by
  intro r hr
  by_cases h : g_cp sp dp n n0 n1 = true
  · rw [if_pos h] at hr
    have k := k h r hr
    unfold g_cp at h
    have hh := of_decide_eq_true h
    obtain ⟨q1, q2, q3, q4, q5⟩ := hh
    obtain ⟨⟨⟨hx, hb, hml, hown, hts⟩, hrt, hlocks, hK⟩, hnL, hT, hE⟩ := J
    obtain ⟨p, l, e, R, s, m, args, below, meth, c, D, cy, ad0, u0, nL, mc, ms⟩ := E
    obtain ⟨rfl, hR, rfl, rfl, hnm⟩ := hE
    intro ad H locs ls a1 a2 a3 a4 a5 a6 a7
    obtain ⟨L, q, hL, hP, hD, hq, hcell⟩ := a2.get hs
    have hbm : a0 ∈ L := (hL a0).mpr (by rw [hs0]; exact fun z => by cases z)
    obtain ⟨q0, hq0⟩ := List.getElem?_of_mem hbm
    have hcell0 : (g_W cy ad u L)[q0]? = some (ad a0, g_cl cy ad u a0 14 n0) := by rw [g_W_at hq0, g_cell_of hs0]
    rw [g_cl_arr (by decide)] at hcell hcell0
    show W p l e R s m args below meth c H locs ce sl _ (F0 m pc ls (.int n :: .int dp :: g_cv ad (vR a) :: .int sp :: g_cv ad (vR a0) :: st.map (g_cv ad)))
    rw [g_cv_R (g_ne0 a3 hs), g_cv_R (g_ne0 a3 hs0)]
    have hcat : ((st.map (g_cv ad)).map fun v => v.category) = st.map g_cat := by
      rw [List.map_map]; apply List.map_congr_left; intro v _; exact g_cat_cv ad v
    refine va_copyi hx hb (by rw [hml]; exact a7.1.symm) hown (hts _ hw.1) (hts _ hw.2.1) (hts _ hw.2.2.1) (hts _ hw.2.2.2) hK.1 hP hD a4 q0 q 1 1 hcell0 hcell rfl rfl rfl q1 q2 q3 q4 q5 (fun i _ => rfl) (by rw [hR]; exact hR2.1) (by rw [hcat, hR]; exact hR2.2) (g_find_ok hT hf).1 (fun H1 locs1 p1 p2 p3 => ?_)
    refine k ad H1 locs1 ls a1 ?_ a3 p3 (fun v hv => a5 v (List.mem_cons_of_mem _ (List.mem_cons_of_mem _ (List.mem_cons_of_mem _ (List.mem_cons_of_mem _ (List.mem_cons_of_mem _ hv)))))) a6 a7
    refine g_P.set hL hD hq rfl ?_ (fun b hb => g_cell_eq rfl (by show (if b = a then _ else u.2.1 b) = _; rw [if_neg hb]) rfl rfl) p1 p2
    rw [g_cell_of (u := (u.1, g_cpM u.2.1 a0 a sp.toNatClampNeg dp.toNatClampNeg n.toNatClampNeg, u.2.2)) hs, g_cl_arr (by decide)]
    show (Sum.inl (_, _, Sum.inl _) : va_E) = Sum.inl (_, _, Sum.inl (if a = a then va_cpy (u.2.1 a0) (u.2.1 a) sp.toNatClampNeg dp.toNatClampNeg n.toNatClampNeg else u.2.1 a))
    rw [if_pos rfl]
  · rw [if_neg h] at hr; cases hr
/-- a tableswitch: its cases as a list of values and places, its default -/
def g_twOK (pc : Nat) (dflt lo hi : Int) (offs : Array Int) (ks : List (Int32 × Nat)) (d : Nat) : Bool := decide ((pc : Int) + dflt = (d : Int)) && decide ((offs.size : Int) = hi - lo + 1) && decide (ks.length = offs.size) && (List.range offs.size).all fun j => match offs[j]?, ks[j]? with
  | some off, some q => decide ((pc : Int) + off = (q.2 : Int)) && decide (q.1.toInt = lo + j)
  | _, _ => false
theorem r_table (J : g_J E cc own nm ret nL tab rk mc ms l) {dflt lo hi : Int} {offs : Array Int} {len d : Nat} {x : Int32} (ks : List (Int32 × Nat)) (hf : g_find tab pc = some (.tableswitch dflt lo hi offs, len, iv)) (hk : g_twOK pc dflt lo hi offs ks d = true) (k1 : ∀ q ∈ ks, x = q.1 → g_H E ce sl q.2 lv st u om emb) (k2 : (∀ q ∈ ks, ¬ x = q.1) → g_H E ce sl d lv st u om emb) : g_H E ce sl pc lv (vI x :: st) u om emb := by
  intro r hr
  obtain ⟨⟨⟨hx, hb, hml, hown, hts⟩, hrt, hlocks, hK⟩, hnL, hT, hE⟩ := J
  obtain ⟨p, l, e, R, s, m, args, below, meth, c, D, cy, ad0, u0, nL, mc, ms⟩ := E
  obtain ⟨rfl, hR, rfl, rfl, hnm⟩ := hE
  intro ad H locs ls a1 a2 a3 a4 a5 a6 a7
  have tl : ∀ v ∈ st, g_ok u.1 v := fun v hv => a5 v (List.mem_cons_of_mem _ hv)
  show W p l e R s m args below meth c H locs ce sl _ (F0 m pc ls (.int x :: st.map (g_cv ad)))
  unfold g_twOK at hk
  rw [Bool.and_eq_true, Bool.and_eq_true, Bool.and_eq_true] at hk
  obtain ⟨⟨⟨h1, h2⟩, h3⟩, h4⟩ := hk
  have h1 := of_decide_eq_true h1
  have h2 := of_decide_eq_true h2
  have h3 := of_decide_eq_true h3
  have h4 := List.all_eq_true.mp h4
  by_cases hout : x.toInt < lo ∨ hi < x.toInt
  · refine lv_tableOut hx hb (g_find_ok hT hf).1 hout h1 (k2 (fun q hq e1 => ?_) r hr ad H locs ls a1 a2 a3 a4 tl a6 a7)
    obtain ⟨j, hj⟩ := List.getElem?_of_mem hq
    have hjl : j < offs.size := by rw [← h3]; exact (List.getElem?_eq_some_iff.mp hj).1
    have h5 := h4 j (List.mem_range.mpr hjl)
    rw [hj, Array.getElem?_eq_getElem hjl] at h5
    have h6 := of_decide_eq_true ((Bool.and_eq_true _ _).mp h5).2
    rw [e1, h6] at hout
    omega
  · have hjl : (x.toInt - lo).toNat < offs.size := by omega
    have h5 := h4 _ (List.mem_range.mpr hjl)
    have hkj : ks[(x.toInt - lo).toNat]? = some (ks[(x.toInt - lo).toNat]'(by rw [h3]; exact hjl)) := List.getElem?_eq_getElem _
    rw [hkj, Array.getElem?_eq_getElem hjl] at h5
    obtain ⟨h6, h7⟩ := (Bool.and_eq_true _ _).mp h5
    have h6 := of_decide_eq_true h6
    have h7 := of_decide_eq_true h7
    refine lv_tableIn hx hb (g_find_ok hT hf).1 (fun q => hout (Or.inl q)) (fun q => hout (Or.inr q)) (Array.getElem?_eq_getElem hjl) h6 (k1 _ (List.mem_of_getElem? hkj) (Int32.toInt_inj.mp ?_) r hr ad H locs ls a1 a2 a3 a4 tl a6 a7)
    rw [h7]
    omega
end GR
