/-! Runs of instructions that touch no heap: a frame is (place, locals, stack) -/
abbrev gF : Type := Nat × List (Nat × gV) × List gV
abbrev gT : Type := List (Nat × Instr × Nat × Int32)
def g_kOK (i : Instr) (v : Int32) : Bool := match i with
  | .iconst n => decide (Int32.ofInt n = v)
  | .bipush n => decide ((Int8.ofInt n).toInt32 = v)
  | .sipush n => decide ((Int16.ofInt n).toInt32 = v)
  | .iinc _ n => decide (Int32.ofInt n = v)
  | _ => true
def g_okT (cc : ByteArray) (tab : gT) : Bool := tab.all fun q => decide (decode cc q.1 = .ok (q.2.1, q.2.2.1)) && g_kOK q.2.1 q.2.2.2
def g_find (tab : gT) (pc : Nat) : Option (Instr × Nat × Int32) := match tab with
  | [] => none
  | q :: t => if q.1 = pc then some q.2 else g_find t pc
theorem g_find_ok {cc : ByteArray} : ∀ {tab : gT} {pc : Nat} {i : Instr} {len : Nat} {v : Int32}, g_okT cc tab = true → g_find tab pc = some (i, len, v) → decode cc pc = .ok (i, len) ∧ g_kOK i v = true
  | [], _, _, _, _, _, h => by cases h
  | q :: t, pc, i, len, v, hT, h => by
    have h2 : (decide (decode cc q.1 = .ok (q.2.1, q.2.2.1)) && g_kOK q.2.1 q.2.2.2) = true ∧ g_okT cc t = true := by
      unfold g_okT at hT; rw [List.all_cons, Bool.and_eq_true] at hT; exact hT
    unfold g_find at h
    split at h
    · rename_i e
      have e2 := Option.some.inj h
      obtain ⟨h3, h4⟩ := (Bool.and_eq_true _ _).mp h2.1
      have h5 := of_decide_eq_true h3
      rw [e2, e] at h5
      rw [e2] at h4
      exact ⟨h5, h4⟩
    · exact g_find_ok h2.2 h
def g_lk (lv : List (Nat × gV)) (i : Nat) : Option gV := match lv with
  | [] => none
  | q :: t => if q.1 = i then some q.2 else g_lk t i
theorem g_lk_mem : ∀ {lv : List (Nat × gV)} {i : Nat} {v : gV}, g_lk lv i = some v → (i, v) ∈ lv
  | [], _, _, h => by cases h
  | q :: t, i, v, h => by
    unfold g_lk at h
    split at h
    · rename_i e
      have := Option.some.inj h
      subst this; subst e
      exact List.mem_cons_self
    · exact List.mem_cons_of_mem _ (g_lk_mem h)
def g_s1 (lv : List (Nat × gV)) (i : Nat) (v : gV) : List (Nat × gV) := (i, v) :: lv.filter (fun q => !(q.1 == i) && !(q.1 + 1 == i && g_cat q.2 == 2))
def g_s2 (lv : List (Nat × gV)) (i : Nat) (v : gV) : List (Nat × gV) := (i, v) :: lv.filter (fun q => !(q.1 == i) && (!(q.1 == i + 1) && !(q.1 + 1 == i && g_cat q.2 == 2)))
def g_len (i : Instr) : Nat := match i with
  | .bipush _ => 2 | .sipush _ => 3 | .iload _ => 2 | .lload _ => 2 | .aload _ => 2 | .istore _ => 2 | .lstore _ => 2 | .astore _ => 2 | .iinc _ _ => 3 | .goto _ => 3 | _ => 1
def g_st (nL : Nat) (i : Instr) (v : Int32) (pc : Nat) (lv : List (Nat × gV)) (st : List gV) : Option gF := match i with
  | .iconst _ => some (pc + 1, lv, vI v :: st)
  | .bipush _ => some (pc + 2, lv, vI v :: st)
  | .sipush _ => some (pc + 3, lv, vI v :: st)
  | .lconst n => some (pc + 1, lv, vL (Int64.ofNat (n : Nat)) :: st)
  | .aconst_null => some (pc + 1, lv, vR 0 :: st)
  | .iload_n k => match g_lk lv k with | some (.inl x) => some (pc + 1, lv, vI x :: st) | _ => none
  | .iload k => match g_lk lv k with | some (.inl x) => some (pc + 2, lv, vI x :: st) | _ => none
  | .lload_n k => match g_lk lv k with | some (.inr (.inl x)) => some (pc + 1, lv, vL x :: st) | _ => none
  | .lload k => match g_lk lv k with | some (.inr (.inl x)) => some (pc + 2, lv, vL x :: st) | _ => none
  | .aload_n k => match g_lk lv k with | some (.inr (.inr x)) => some (pc + 1, lv, .inr (.inr x) :: st) | _ => none
  | .aload k => match g_lk lv k with | some (.inr (.inr x)) => some (pc + 2, lv, .inr (.inr x) :: st) | _ => none
  | .istore_n k => match st with | .inl x :: r => if (k : Nat) < nL then some (pc + 1, g_s1 lv k (vI x), r) else none | _ => none
  | .istore k => match st with | .inl x :: r => if k < nL then some (pc + 2, g_s1 lv k (vI x), r) else none | _ => none
  | .lstore k => match st with | .inr (.inl x) :: r => if k + 1 < nL then some (pc + 2, g_s2 lv k (vL x), r) else none | _ => none
  | .astore_n k => match st with | .inr (.inr x) :: r => if (k : Nat) < nL then some (pc + 1, g_s1 lv k (.inr (.inr x)), r) else none | _ => none
  | .astore k => match st with | .inr (.inr x) :: r => if k < nL then some (pc + 2, g_s1 lv k (.inr (.inr x)), r) else none | _ => none
  | .iinc k _ => match g_lk lv k with | some (.inl x) => if k < nL then some (pc + 3, g_s1 lv k (vI (x + v)), st) else none | _ => none
  | .iadd => match st with | .inl y :: .inl x :: r => some (pc + 1, lv, vI (x + y) :: r) | _ => none
  | .isub => match st with | .inl y :: .inl x :: r => some (pc + 1, lv, vI (x - y) :: r) | _ => none
  | .imul => match st with | .inl y :: .inl x :: r => some (pc + 1, lv, vI (x * y) :: r) | _ => none
  | .iand => match st with | .inl y :: .inl x :: r => some (pc + 1, lv, vI (x &&& y) :: r) | _ => none
  | .ior => match st with | .inl y :: .inl x :: r => some (pc + 1, lv, vI (x ||| y) :: r) | _ => none
  | .ixor => match st with | .inl y :: .inl x :: r => some (pc + 1, lv, vI (x ^^^ y) :: r) | _ => none
  | .ishl => match st with | .inl y :: .inl x :: r => some (pc + 1, lv, vI (x <<< (y &&& 31)) :: r) | _ => none
  | .ishr => match st with | .inl y :: .inl x :: r => some (pc + 1, lv, vI (x >>> (y &&& 31)) :: r) | _ => none
  | .iushr => match st with | .inl y :: .inl x :: r => some (pc + 1, lv, vI ((x.toUInt32 >>> (y.toUInt32 &&& Int32.toUInt32 31)).toInt32) :: r) | _ => none
  | .ineg => match st with | .inl x :: r => some (pc + 1, lv, vI (-x) :: r) | _ => none
  | .ladd => match st with | .inr (.inl y) :: .inr (.inl x) :: r => some (pc + 1, lv, vL (x + y) :: r) | _ => none
  | .lsub => match st with | .inr (.inl y) :: .inr (.inl x) :: r => some (pc + 1, lv, vL (x - y) :: r) | _ => none
  | .lmul => match st with | .inr (.inl y) :: .inr (.inl x) :: r => some (pc + 1, lv, vL (x * y) :: r) | _ => none
  | .land => match st with | .inr (.inl y) :: .inr (.inl x) :: r => some (pc + 1, lv, vL (x &&& y) :: r) | _ => none
  | .lor => match st with | .inr (.inl y) :: .inr (.inl x) :: r => some (pc + 1, lv, vL (x ||| y) :: r) | _ => none
  | .lshl => match st with | .inl y :: .inr (.inl x) :: r => some (pc + 1, lv, vL (x <<< (y.toInt64 &&& 63)) :: r) | _ => none
  | .lshr => match st with | .inl y :: .inr (.inl x) :: r => some (pc + 1, lv, vL (x >>> (y.toInt64 &&& 63)) :: r) | _ => none
  | .lushr => match st with | .inl y :: .inr (.inl x) :: r => some (pc + 1, lv, vL ((x.toUInt64 >>> (y.toInt64.toUInt64 &&& Int64.toUInt64 63)).toInt64) :: r) | _ => none
  | .lcmp => match st with | .inr (.inl y) :: .inr (.inl x) :: r => some (pc + 1, lv, vI (lg_cmp x y) :: r) | _ => none
  | .i2l => match st with | .inl x :: r => some (pc + 1, lv, vL x.toInt64 :: r) | _ => none
  | .l2i => match st with | .inr (.inl x) :: r => some (pc + 1, lv, vI x.toInt32 :: r) | _ => none
  | .i2b => match st with | .inl x :: r => some (pc + 1, lv, vI x.toInt8.toInt32 :: r) | _ => none
  | .i2c => match st with | .inl x :: r => some (pc + 1, lv, vI (x.toUInt32 % 65536).toInt32 :: r) | _ => none
  | .dup => match st with | x :: r => if g_cat x = 1 then some (pc + 1, lv, x :: x :: r) else none | _ => none
  | .dup2 => match st with | x :: y :: r => if g_cat x = 1 ∧ g_cat y = 1 then some (pc + 1, lv, x :: y :: x :: y :: r) else none | _ => none
  | .pop => match st with | x :: r => if g_cat x = 1 then some (pc + 1, lv, r) else none | _ => none
  | .goto off => if (pc : Int) + off = (((pc : Int) + off).toNat : Int) then some (((pc : Int) + off).toNat, lv, st) else none
  | _ => none
theorem g_has_lk {ad : Nat → Nat} {ls : Array Slot} {nL : Nat} {lv : List (Nat × gV)} {i : Nat} {v : gV} (hl : lv_has ls nL (lv.map fun q => (q.1, g_cv ad q.2))) (h : g_lk lv i = some v) : ls[i]? = some (.val (g_cv ad v)) :=
  hl.2.2 (i, g_cv ad v) (List.mem_map.mpr ⟨(i, v), g_lk_mem h, rfl⟩)
theorem g_has_k {ad : Nat → Nat} {lv : List (Nat × gV)} {i : Nat} {v : gV} (h : g_lk lv i = some v) : ∃ k : Nat, (lv.map fun q => (q.1, g_cv ad q.2))[k]? = some (i, g_cv ad v) := List.getElem?_of_mem (List.mem_map.mpr ⟨(i, v), g_lk_mem h, rfl⟩)
theorem g_s1_cv (ad : Nat → Nat) (lv : List (Nat × gV)) (i : Nat) (v : gV) : (i, g_cv ad v) :: (lv.map fun q => (q.1, g_cv ad q.2)).filter (fun q => !(q.1 == i) && !(q.1 + 1 == i && q.2.category == 2)) = (g_s1 lv i v).map fun q => (q.1, g_cv ad q.2) := by
  unfold g_s1
  rw [List.map_cons, List.filter_map]
  congr 2
  congr 1
  funext q
  simp only [Function.comp, g_cat_cv]
theorem g_s2_cv (ad : Nat → Nat) (lv : List (Nat × gV)) (i : Nat) (v : gV) : (i, g_cv ad v) :: (lv.map fun q => (q.1, g_cv ad q.2)).filter (fun q => !(q.1 == i) && (!(q.1 == i + 1) && !(q.1 + 1 == i && q.2.category == 2))) = (g_s2 lv i v).map fun q => (q.1, g_cv ad q.2) := by
  unfold g_s2
  rw [List.map_cons, List.filter_map]
  congr 2
  congr 1
  funext q
  simp only [Function.comp, g_cat_cv]
theorem g_s1_ok {σ : gS} {lv : List (Nat × gV)} {i : Nat} {v : gV} (h : ∀ q ∈ lv, g_ok σ q.2) (hv : g_ok σ v) : ∀ q ∈ g_s1 lv i v, g_ok σ q.2 := by
  intro q hq
  unfold g_s1 at hq
  rcases List.mem_cons.mp hq with rfl | hq
  · exact hv
  · exact h q (List.mem_filter.mp hq).1
theorem g_s2_ok {σ : gS} {lv : List (Nat × gV)} {i : Nat} {v : gV} (h : ∀ q ∈ lv, g_ok σ q.2) (hv : g_ok σ v) : ∀ q ∈ g_s2 lv i v, g_ok σ q.2 := by
  intro q hq
  unfold g_s2 at hq
  rcases List.mem_cons.mp hq with rfl | hq
  · exact hv
  · exact h q (List.mem_filter.mp hq).1
theorem g_lk_ok {σ : gS} {lv : List (Nat × gV)} {i : Nat} {v : gV} (h : ∀ q ∈ lv, g_ok σ q.2) (hv : g_lk lv i = some v) : g_ok σ v := h (i, v) (g_lk_mem hv)
section GW
variable {p : Program} {l : Launch} {e : Env} {R : Room} {s : State} {m : MethodId} {args : Array Value} {below : List Frame} {meth : Method} {c : Code} {H : Heap} {locs : List Loc} {cells slots : Nat} {Q : State → Prop}
variable {cc : ByteArray} {pc : Nat} {ls : Array Slot} {rest : List Value}
theorem w_aload (hexec : p.tables.exec = Jvm.exec) (hb : c.code = cc) {i : Nat} {v : Value} (hv : v = .null ∨ ∃ a, v = .ref a) (hdg : decode cc pc = .ok (.aload i, 2)) (hl : ls[i]? = some (.val v)) (k : W p l e R s m args below meth c H locs cells slots Q (F0 m (pc + 2) ls (v :: rest))) : W p l e R s m args below meth c H locs cells slots Q (F0 m pc ls rest) := by
  rcases hv with rfl | ⟨a, rfl⟩
  · exact lv_aloadN hexec hb hdg hl k
  · exact lv_aload hexec hb hdg hl k
theorem w_aload_n (hexec : p.tables.exec = Jvm.exec) (hb : c.code = cc) {i : Fin 4} {v : Value} (hv : v = .null ∨ ∃ a, v = .ref a) (hdg : decode cc pc = .ok (.aload_n i, 1)) (hl : ls[(i : Nat)]? = some (.val v)) (k : W p l e R s m args below meth c H locs cells slots Q (F0 m (pc + 1) ls (v :: rest))) : W p l e R s m args below meth c H locs cells slots Q (F0 m pc ls rest) := by
  rcases hv with rfl | ⟨a, rfl⟩
  · exact lv_aload_nN hexec hb hdg rfl hl k
  · exact lv_aload_n hexec hb hdg rfl hl k
theorem w_astore (hexec : p.tables.exec = Jvm.exec) (hb : c.code = cc) {i nL : Nat} {v : Value} (hv : v = .null ∨ ∃ a, v = .ref a) {lv lv' : List (Nat × Value)} (hdg : decode cc pc = .ok (.astore i, 2)) (h : lv_has ls nL lv) (hn : i < nL) (hl : (i, v) :: lv.filter (fun q => !(q.1 == i) && !(q.1 + 1 == i && q.2.category == 2)) = lv')
    (kk : ∀ ls' : Array Slot, lv_has ls' nL lv' → W p l e R s m args below meth c H locs cells slots Q (F0 m (pc + 2) ls' rest)) : W p l e R s m args below meth c H locs cells slots Q (F0 m pc ls (v :: rest)) := by
  rcases hv with rfl | ⟨a, rfl⟩
  · exact lv_astoreN hexec hb hdg h hn hl kk
  · exact lv_astore hexec hb hdg h hn hl kk
theorem w_astore_n (hexec : p.tables.exec = Jvm.exec) (hb : c.code = cc) {i : Fin 4} {nL : Nat} {v : Value} (hv : v = .null ∨ ∃ a, v = .ref a) {lv lv' : List (Nat × Value)} (hdg : decode cc pc = .ok (.astore_n i, 1)) (h : lv_has ls nL lv) (hn : (i : Nat) < nL) (hl : ((i : Nat), v) :: lv.filter (fun q => !(q.1 == (i : Nat)) && !(q.1 + 1 == (i : Nat) && q.2.category == 2)) = lv')
    (kk : ∀ ls' : Array Slot, lv_has ls' nL lv' → W p l e R s m args below meth c H locs cells slots Q (F0 m (pc + 1) ls' rest)) : W p l e R s m args below meth c H locs cells slots Q (F0 m pc ls (v :: rest)) := by
  rcases hv with rfl | ⟨a, rfl⟩
  · exact lv_astore_nN hexec hb hdg rfl h hn hl kk
  · exact lv_astore_n hexec hb hdg rfl h hn hl kk
end GW
theorem g_cv_ref (ad : Nat → Nat) (x : Nat ⊕ Nat) : g_cv ad (.inr (.inr x)) = .null ∨ ∃ a, g_cv ad (.inr (.inr x)) = .ref a := by
  rcases x with a | q
  · exact va_rf_or _
  · exact Or.inr ⟨_, rfl⟩

def g_nL (E : gE) : Nat := match E with
  | (_, _, _, _, _, _, _, _, _, _, _, _, _, _, nL, _, _) => nL
section GSTEP
variable {E : gE} {cc : ByteArray} {own : String} {ret : Option FieldType} {ce sl pc : Nat} {lv : List (Nat × gV)} {st : List gV} {u : gU} {o : gO}
set_option maxHeartbeats 4000000 in
theorem g_step (I : g_I E cc own ret) {i : Instr} {v : Int32} {f : gF} (hd : decode cc pc = .ok (i, g_len i)) (hv : g_kOK i v = true) (h : g_st (g_nL E) i v pc lv st = some f) (k : g_G E ce sl f.1 f.2.1 f.2.2 u o) : g_G E ce sl pc lv st u o := by
  obtain ⟨p, l, e, R, s, m, args, below, meth, c, D, cy, ad0, u0, nL, mc, ms⟩ := E
  obtain ⟨⟨hx, hb, hml, hown, hts⟩, hr, hlocks, hK⟩ := I
  intro ad H locs ls a1 a2 a3 a4 a5 a6 a7
  have kk := fun ls' b5 b6 b7 => k ad H locs ls' a1 a2 a3 a4 b5 b6 b7
  clear k
  unfold g_nL at h
  have a5t : ∀ {x : gV} {r : List gV}, st = x :: r → g_ok u.1 x ∧ ∀ v ∈ r, g_ok u.1 v := fun e => by subst e; exact ⟨a5 _ List.mem_cons_self, fun v hv => a5 v (List.mem_cons_of_mem _ hv)⟩
  cases i <;> simp only [g_st, reduceCtorEq] at h
  case iconst n =>
    cases h
    exact lv_iconst hx hb hd (of_decide_eq_true hv) (kk ls (List.forall_mem_cons.mpr ⟨trivial, a5⟩) a6 a7)
  case bipush n =>
    cases h
    exact lv_bipush hx hb hd (of_decide_eq_true hv) (kk ls (List.forall_mem_cons.mpr ⟨trivial, a5⟩) a6 a7)
  case sipush n =>
    cases h
    exact lv_sipush hx hb hd (of_decide_eq_true hv) (kk ls (List.forall_mem_cons.mpr ⟨trivial, a5⟩) a6 a7)
  case lconst n =>
    cases h
    exact lv_lconst hx hb hd rfl (kk ls (List.forall_mem_cons.mpr ⟨trivial, a5⟩) a6 a7)
  case aconst_null =>
    cases h
    exact lv_null hx hb hd (kk ls (List.forall_mem_cons.mpr ⟨Or.inl rfl, a5⟩) a6 a7)
  case iload_n k =>
    split at h
    · rename_i x hk
      cases h
      exact lv_iload_n hx hb hd rfl (g_has_lk a7 hk) (kk ls (List.forall_mem_cons.mpr ⟨trivial, a5⟩) a6 a7)
    · cases h
  case iload k =>
    split at h
    · rename_i x hk
      cases h
      exact lv_iload hx hb hd (g_has_lk a7 hk) (kk ls (List.forall_mem_cons.mpr ⟨trivial, a5⟩) a6 a7)
    · cases h
  case lload_n k =>
    split at h
    · rename_i x hk
      cases h
      exact lv_lload_n hx hb hd rfl (g_has_lk a7 hk) (kk ls (List.forall_mem_cons.mpr ⟨trivial, a5⟩) a6 a7)
    · cases h
  case lload k =>
    split at h
    · rename_i x hk
      cases h
      exact lv_lload hx hb hd (g_has_lk a7 hk) (kk ls (List.forall_mem_cons.mpr ⟨trivial, a5⟩) a6 a7)
    · cases h
  case aload_n k =>
    split at h
    · rename_i x hk
      cases h
      exact w_aload_n hx hb (g_cv_ref ad x) hd (g_has_lk a7 hk) (kk ls (List.forall_mem_cons.mpr ⟨g_lk_ok a6 hk, a5⟩) a6 a7)
    · cases h
  case aload k =>
    split at h
    · rename_i x hk
      cases h
      exact w_aload hx hb (g_cv_ref ad x) hd (g_has_lk a7 hk) (kk ls (List.forall_mem_cons.mpr ⟨g_lk_ok a6 hk, a5⟩) a6 a7)
    · cases h
  case istore_n k =>
    split at h
    · rename_i x r
      split at h
      · rename_i hn
        cases h
        exact lv_istore_n hx hb hd rfl a7 hn (g_s1_cv ad lv k (vI x)) (fun ls' hl => kk ls' (a5t rfl).2 (g_s1_ok a6 trivial) hl)
      · cases h
    · cases h
  case istore k =>
    split at h
    · rename_i x r
      split at h
      · rename_i hn
        cases h
        exact lv_istore hx hb hd a7 hn (g_s1_cv ad lv k (vI x)) (fun ls' hl => kk ls' (a5t rfl).2 (g_s1_ok a6 trivial) hl)
      · cases h
    · cases h
  case lstore k =>
    split at h
    · rename_i x r
      split at h
      · rename_i hn
        cases h
        exact lv_lstore hx hb hd a7 hn (g_s2_cv ad lv k (vL x)) (fun ls' hl => kk ls' (a5t rfl).2 (g_s2_ok a6 trivial) hl)
      · cases h
    · cases h
  case astore_n k =>
    split at h
    · rename_i x r
      split at h
      · rename_i hn
        cases h
        exact w_astore_n hx hb (g_cv_ref ad x) hd a7 hn (g_s1_cv ad lv k (.inr (.inr x))) (fun ls' hl => kk ls' (a5t rfl).2 (g_s1_ok a6 (a5t rfl).1) hl)
      · cases h
    · cases h
  case astore k =>
    split at h
    · rename_i x r
      split at h
      · rename_i hn
        cases h
        exact w_astore hx hb (g_cv_ref ad x) hd a7 hn (g_s1_cv ad lv k (.inr (.inr x))) (fun ls' hl => kk ls' (a5t rfl).2 (g_s1_ok a6 (a5t rfl).1) hl)
      · cases h
    · cases h
  case iinc k n =>
    split at h
    · rename_i x hk
      split at h
      · rename_i hn
        cases h
        obtain ⟨j, hj⟩ := g_has_k (ad := ad) hk
        exact lv_iinc hx hb hd a7 hj (by rw [of_decide_eq_true hv]) hn (g_s1_cv ad lv k (vI (x + v))) (fun ls' hl => kk ls' a5 (g_s1_ok a6 trivial) hl)
      · cases h
    · cases h
  case goto off =>
    split at h
    · rename_i hg
      cases h
      exact lv_goto hx hb hd hg (kk ls a5 a6 a7)
    · cases h
  case iadd =>
    split at h
    · cases h
      exact lv_iadd hx hb hd (kk ls (List.forall_mem_cons.mpr ⟨trivial, (fun v hv => (a5t rfl).2 v (List.mem_cons_of_mem _ hv))⟩) a6 a7)
    · cases h
  case isub =>
    split at h
    · cases h
      exact lv_isub hx hb hd (kk ls (List.forall_mem_cons.mpr ⟨trivial, (fun v hv => (a5t rfl).2 v (List.mem_cons_of_mem _ hv))⟩) a6 a7)
    · cases h
  case imul =>
    split at h
    · cases h
      exact lv_imul hx hb hd (kk ls (List.forall_mem_cons.mpr ⟨trivial, (fun v hv => (a5t rfl).2 v (List.mem_cons_of_mem _ hv))⟩) a6 a7)
    · cases h
  case iand =>
    split at h
    · cases h
      exact lv_iand hx hb hd (kk ls (List.forall_mem_cons.mpr ⟨trivial, (fun v hv => (a5t rfl).2 v (List.mem_cons_of_mem _ hv))⟩) a6 a7)
    · cases h
  case ior =>
    split at h
    · cases h
      exact lv_ior hx hb hd (kk ls (List.forall_mem_cons.mpr ⟨trivial, (fun v hv => (a5t rfl).2 v (List.mem_cons_of_mem _ hv))⟩) a6 a7)
    · cases h
  case ixor =>
    split at h
    · cases h
      exact lv_ixor hx hb hd (kk ls (List.forall_mem_cons.mpr ⟨trivial, (fun v hv => (a5t rfl).2 v (List.mem_cons_of_mem _ hv))⟩) a6 a7)
    · cases h
  case ishl =>
    split at h
    · cases h
      exact lv_ishl hx hb hd (kk ls (List.forall_mem_cons.mpr ⟨trivial, (fun v hv => (a5t rfl).2 v (List.mem_cons_of_mem _ hv))⟩) a6 a7)
    · cases h
  case ishr =>
    split at h
    · cases h
      exact lv_ishr hx hb hd (kk ls (List.forall_mem_cons.mpr ⟨trivial, (fun v hv => (a5t rfl).2 v (List.mem_cons_of_mem _ hv))⟩) a6 a7)
    · cases h
  case iushr =>
    split at h
    · cases h
      exact lv_iushr hx hb hd rfl (kk ls (List.forall_mem_cons.mpr ⟨trivial, (fun v hv => (a5t rfl).2 v (List.mem_cons_of_mem _ hv))⟩) a6 a7)
    · cases h
  case ineg =>
    split at h
    · cases h
      exact lv_ineg hx hb hd (kk ls (List.forall_mem_cons.mpr ⟨trivial, (a5t rfl).2⟩) a6 a7)
    · cases h
  case ladd =>
    split at h
    · cases h
      exact lv_ladd hx hb hd (kk ls (List.forall_mem_cons.mpr ⟨trivial, (fun v hv => (a5t rfl).2 v (List.mem_cons_of_mem _ hv))⟩) a6 a7)
    · cases h
  case lsub =>
    split at h
    · cases h
      exact lv_lsub hx hb hd (kk ls (List.forall_mem_cons.mpr ⟨trivial, (fun v hv => (a5t rfl).2 v (List.mem_cons_of_mem _ hv))⟩) a6 a7)
    · cases h
  case lmul =>
    split at h
    · cases h
      exact lv_lmul hx hb hd (kk ls (List.forall_mem_cons.mpr ⟨trivial, (fun v hv => (a5t rfl).2 v (List.mem_cons_of_mem _ hv))⟩) a6 a7)
    · cases h
  case land =>
    split at h
    · cases h
      exact lv_land hx hb hd (kk ls (List.forall_mem_cons.mpr ⟨trivial, (fun v hv => (a5t rfl).2 v (List.mem_cons_of_mem _ hv))⟩) a6 a7)
    · cases h
  case lor =>
    split at h
    · cases h
      exact lv_lor hx hb hd (kk ls (List.forall_mem_cons.mpr ⟨trivial, (fun v hv => (a5t rfl).2 v (List.mem_cons_of_mem _ hv))⟩) a6 a7)
    · cases h
  case lshl =>
    split at h
    · cases h
      exact lv_lshl hx hb hd rfl (kk ls (List.forall_mem_cons.mpr ⟨trivial, (fun v hv => (a5t rfl).2 v (List.mem_cons_of_mem _ hv))⟩) a6 a7)
    · cases h
  case lshr =>
    split at h
    · cases h
      exact lv_lshr hx hb hd rfl (kk ls (List.forall_mem_cons.mpr ⟨trivial, (fun v hv => (a5t rfl).2 v (List.mem_cons_of_mem _ hv))⟩) a6 a7)
    · cases h
  case lushr =>
    split at h
    · cases h
      exact lv_lushr hx hb hd rfl (kk ls (List.forall_mem_cons.mpr ⟨trivial, (fun v hv => (a5t rfl).2 v (List.mem_cons_of_mem _ hv))⟩) a6 a7)
    · cases h
  case lcmp =>
    split at h
    · cases h
      exact W.lcmp hx hb hd (kk ls (List.forall_mem_cons.mpr ⟨trivial, (fun v hv => (a5t rfl).2 v (List.mem_cons_of_mem _ hv))⟩) a6 a7)
    · cases h
  case i2l =>
    split at h
    · cases h
      exact lv_i2l hx hb hd rfl (kk ls (List.forall_mem_cons.mpr ⟨trivial, (a5t rfl).2⟩) a6 a7)
    · cases h
  case l2i =>
    split at h
    · cases h
      exact lv_l2i hx hb hd rfl (kk ls (List.forall_mem_cons.mpr ⟨trivial, (a5t rfl).2⟩) a6 a7)
    · cases h
  case i2b =>
    split at h
    · cases h
      exact lv_i2b hx hb hd rfl (kk ls (List.forall_mem_cons.mpr ⟨trivial, (a5t rfl).2⟩) a6 a7)
    · cases h
  case i2c =>
    split at h
    · cases h
      exact lv_i2c hx hb hd rfl (kk ls (List.forall_mem_cons.mpr ⟨trivial, (a5t rfl).2⟩) a6 a7)
    · cases h
  case dup =>
    split at h
    · split at h
      · rename_i x r hc
        cases h
        exact lv_dup hx hb hd (by rw [g_cat_cv]; exact hc) (kk ls (List.forall_mem_cons.mpr ⟨(a5t rfl).1, a5⟩) a6 a7)
      · cases h
    · cases h
  case dup2 =>
    split at h
    · split at h
      · rename_i x y r hc
        cases h
        exact lv_dup2_11 hx hb hd (by rw [g_cat_cv]; exact hc.1) (by rw [g_cat_cv]; exact hc.2) (kk ls (List.forall_mem_cons.mpr ⟨(a5t rfl).1, List.forall_mem_cons.mpr ⟨(a5t rfl).2 _ List.mem_cons_self, a5⟩⟩) a6 a7)
      · cases h
    · cases h
  case pop =>
    split at h
    · split at h
      · rename_i x r hc
        cases h
        exact lv_pop hx hb hd (by rw [g_cat_cv]; exact hc) (kk ls (a5t rfl).2 a6 a7)
      · cases h
    · cases h
def g_run (nL : Nat) (tab : gT) (n : Nat) (f : gF) : Option gF := match n with
  | 0 => some f
  | n + 1 => match g_find tab f.1 with
    | some (i, len, v) => if len = g_len i then match g_st nL i v f.1 f.2.1 f.2.2 with
      | some f' => g_run nL tab n f'
      | none => none
      else none
    | none => none
theorem g_runs (I : g_I E cc own ret) {tab : gT} (hT : g_okT cc tab = true) : ∀ (n : Nat) (f f' : gF), g_run (g_nL E) tab n f = some f' → g_G E ce sl f'.1 f'.2.1 f'.2.2 u o → g_G E ce sl f.1 f.2.1 f.2.2 u o
  | 0, f, f', h, k => by
    cases h
    exact k
  | n + 1, f, f', h, k => by
    unfold g_run at h
    split at h
    · rename_i i len v hf
      split at h
      · rename_i hl
        split at h
        · rename_i f1 hs
          obtain ⟨h1, h2⟩ := g_find_ok hT hf
          rw [hl] at h1
          exact g_step I h1 h2 hs (g_runs I hT n f1 f' h k)
        · cases h
      · cases h
    · cases h
end GSTEP
