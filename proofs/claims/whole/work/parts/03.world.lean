/-! The picture of a heap: abstract addresses (0: null), each with a kind and a length; ints, longs and references by address and place. Kinds 0..12: the classes; 13 byte[], 14 int[], 15 boolean[], 16 long[], 17 Person[], 18 Room[], 19 Town[]. -/
abbrev gV : Type := Int32 ⊕ Int64 ⊕ Nat ⊕ Nat
abbrev gS : Type := (Nat → Option (Nat × Nat)) × (Nat → Nat → Nat)
abbrev gM : Type := Nat → Nat → Int32
abbrev gN : Type := Nat → Nat → Int64
abbrev gU : Type := gS × gM × gN
abbrev gO : Type := Option gV × gU
abbrev vI (x : Int32) : gV := .inl x
abbrev vL (x : Int64) : gV := .inr (.inl x)
abbrev vR (a : Nat) : gV := .inr (.inr (.inl a))
abbrev vE (a : Nat) : gV := .inr (.inr (.inr a))
/-- String constants have addresses from here on -/
def g_EXT : Nat := 1000000000
def g_rf (ad : Nat → Nat) (r : Nat) : Option Nat := if r = 0 then none else some (ad r)
def g_cv (ad : Nat → Nat) (v : gV) : Value := match v with
  | .inl x => .int x
  | .inr (.inl x) => .long x
  | .inr (.inr (.inl a)) => va_rf (g_rf ad a)
  | .inr (.inr (.inr q)) => .ref (ad (g_EXT + q))
def g_cat (v : gV) : Nat := match v with
  | .inr (.inl _) => 2
  | _ => 1
theorem g_cat_cv (ad : Nat → Nat) (v : gV) : (g_cv ad v).category = g_cat v := by
  rcases v with x | x | a | q
  · rfl
  · rfl
  · show (va_rf (g_rf ad a)).category = 1
    unfold g_rf
    split <;> rfl
  · rfl
def g_ty (kd k : Nat) : FieldType := match kd with
  | 0 => tyX0 k | 1 => tyX1 k | 2 => tyX2 k | 3 => tyX3 k | 4 => tyX4 k | 5 => tyX5 k | 6 => tyX6 k | 7 => tyX7 k | 8 => tyX8 k | 9 => tyX9 k | 10 => tyX10 k | 11 => tyX11 k | _ => tyX12 k
def g_nf (kd : Nat) : Nat := match kd with
  | 0 => 3 | 1 => 14 | 2 => 6 | 3 => 10 | 4 => 2 | 5 => 2 | 6 => 11 | 7 => 14 | 8 => 4 | 9 => 14 | 10 => 7 | 11 => 15 | _ => 78
def g_fc (t : FieldType) : Nat := match t with
  | .long => 1 | .object _ => 2 | .array _ => 2 | _ => 0
def g_sv (ad : Nat → Nat) (u : gU) (a k : Nat) (t : FieldType) : Value := if g_fc t = 0 then .int (u.2.1 a k) else if g_fc t = 1 then .long (u.2.2 a k) else va_rf (g_rf ad (u.1.2 a k))
def g_row (ad : Nat → Nat) (u : gU) (a kd : Nat) : (Nat → Int32) ⊕ (Nat → Int64) ⊕ (Nat → UInt32) ⊕ (Nat → UInt64) ⊕ (Nat → Option Nat) :=
  if kd = 16 then .inr (.inl (u.2.2 a)) else if kd < 17 then .inl (u.2.1 a) else .inr (.inr (.inr (.inr (fun k => g_rf ad (u.1.2 a k)))))
def g_cl (cy : Nat → ClassId) (ad : Nat → Nat) (u : gU) (a kd n : Nat) : va_E :=
  if kd < 13 then .inr (kd, (List.range (g_nf kd)).map fun k => g_sv ad u a k (g_ty kd k)) else .inl (cy kd, n, g_row ad u a kd)
def g_ln (σ : gS) (a : Nat) : Nat := match σ.1 a with
  | some q => q.2
  | none => 0
def g_kd (σ : gS) (a : Nat) : Nat := match σ.1 a with
  | some q => q.1
  | none => 0
def g_cell (cy : Nat → ClassId) (ad : Nat → Nat) (u : gU) (a : Nat) : va_E := g_cl cy ad u a (g_kd u.1 a) (g_ln u.1 a)
def g_W (cy : Nat → ClassId) (ad : Nat → Nat) (u : gU) (L : List Nat) : va_W := L.map fun a => (ad a, g_cell cy ad u a)
/-- the kind of cell that a reference in a place leads to -/
def g_rt (kd k : Nat) : Option Nat := match kd with
  | 17 => some 6 | 18 => some 8 | 19 => some 10
  | 13 => none | 14 => none | 15 => none | 16 => none
  | _ => match g_ty kd k with
    | .array .int => some 14 | .array .boolean => some 15 | .array .byte => some 13 | .array .long => some 16
    | .array (.object C) => if C = RX6 then some 17 else if C = RX8 then some 18 else some 19
    | .object C => if C = RX0 then some 0 else if C = RX1 then some 1 else if C = RX2 then some 2 else if C = RX3 then some 3 else if C = RX4 then some 4 else if C = RX5 then some 5 else if C = RX7 then some 7 else if C = RX9 then some 9 else some 6
    | _ => none
def g_C (σ : gS) : Prop := σ.1 0 = none ∧ (∀ a k, σ.1 a ≠ none → σ.2 a k = 0 ∨ σ.1 (σ.2 a k) ≠ none) ∧ ∀ a kd n k t, σ.1 a = some (kd, n) → g_rt kd k = some t → σ.2 a k = 0 ∨ ∃ n', σ.1 (σ.2 a k) = some (t, n')
def g_ok (σ : gS) (v : gV) : Prop := match v with
  | .inr (.inr (.inl a)) => a = 0 ∨ σ.1 a ≠ none
  | _ => True
def g_tys (cy : Nat → ClassId) : List (ClassId × FieldType) := [(cy 13, .byte), (cy 14, .int), (cy 15, .boolean), (cy 16, .long), (cy 17, .object RX6), (cy 18, .object RX8), (cy 19, .object RX10)]
def g_nest : List (String × Nat × MethodName × String) := [(RX11, 9, yX5_init, "TourRooms"), (RX11, 24, yX4_init, "TourRooms"), (RX11, 31, yX7_init, "TourRooms"), (RX11, 38, yX9_init, "TourRooms"), (RX11, 45, yX3_init, "TourRooms"), (RX11, 52, yX1_init, "TourRooms"), (RX11, 59, yX0_init, "TourRooms"), (RX10, 23, yX2_init, "TourRooms"), (RX1, 56, yX11_isWithin, "TourRooms"), (RX0, 28, yX11_isWithin, "TourRooms")]
def g_strs : List (String × Nat × String × Nat) := [(RX7, 117, "fee", 0), (RX7, 123, "back", 1), (RX7, 125, "refund", 2), (RX7, 127, "free", 3), (RX7, 129, "when", 4), (RX7, 131, "and", 5), (RX7, 133, "left", 6), (RX7, 135, "held", 7), (RX7, 137, "used", 8), (RX7, 139, "people", 9), (RX7, 141, "season", 10), (RX11, 287, "no such night is closed", 11), (RX11, 295, "no such person", 12)]
def g_slen : List Nat := [3, 4, 6, 4, 4, 3, 4, 4, 4, 6, 6, 23, 14]
def g_sbyt : List (List Int32) := [[102, 101, 101], [98, 97, 99, 107], [114, 101, 102, 117, 110, 100], [102, 114, 101, 101], [119, 104, 101, 110], [97, 110, 100], [108, 101, 102, 116], [104, 101, 108, 100], [117, 115, 101, 100], [112, 101, 111, 112, 108, 101], [115, 101, 97, 115, 111, 110], [110, 111, 32, 115, 117, 99, 104, 32, 110, 105, 103, 104, 116, 32, 105, 115, 32, 99, 108, 111, 115, 101, 100], [110, 111, 32, 115, 117, 99, 104, 32, 112, 101, 114, 115, 111, 110]]
/-- words of the tables that stay as the tables warm up -/
def g_fw : List Cond := lw_tbl.filter fun w => w.onTables && w.keepsFace
theorem g_fw_warm {w : Cond} (h : w ∈ g_fw) {s U : State} (hW : s.WarmedH U.vm) (hz : va_Nw w s) : va_Nw w U := by
  have h2 := (List.mem_filter.mp h).2
  simp only [Bool.and_eq_true] at h2
  exact va_tabs h2.1 (rfl : (s.setVm U.vm).vm = U.vm) (Cond.before_shiftedFace (State.Shifted.of_warmed hW) _ h2.2 hz)
theorem g_fw_same {w : Cond} (h : w ∈ g_fw) {s U : State} (hv : s.vm = U.vm) (hz : va_Nw w s) : va_Nw w U := by
  have h2 := (List.mem_filter.mp h).2
  simp only [Bool.and_eq_true] at h2
  exact va_Nw.same h2.1 hv hz
/-- what stays of the world outside: the String constants, some statics, words -/
def g_X (ad : Nat → Nat) (A : Nat → Prop) (U : State) : Prop := vk_S 13 g_slen g_sbyt (fun i => ad (g_EXT + i)) (fun i => ad (g_EXT + (100 + i))) A U U.heap ∧ (∀ q ∈ g_strs, vk_R q.1 q.2.1 q.2.2.1 (ad (g_EXT + q.2.2.2)) U) ∧ va_Z "java/lang/String" "COMPACT_STRINGS" "Z" (.int 1) A U U.heap ∧ (va_Z "jdk/internal/util/Preconditions" "SIOOBE_FORMATTER" "Ljava/util/function/BiFunction;" .null A U U.heap ∨ va_Z "jdk/internal/util/Preconditions" "SIOOBE_FORMATTER" "Ljava/util/function/BiFunction;" (.ref (ad (g_EXT + 200))) A U U.heap) ∧ vx_Zq Bundle.tN "UNASSIGNED_STACK" Bundle.steD A U U.heap ∧ vx_Zq Bundle.tN "SUPPRESSED_SENTINEL" Bundle.listD A U U.heap ∧ ∀ w ∈ g_fw, va_Nw w U
theorem g_X.call {ad ad0 : Nat → Nat} {A B : Nat → Prop} {s U : State} {H : Heap} {locs : List Loc} (h : g_X ad0 A s) (ha : ∀ i, ad (g_EXT + i) = ad0 (g_EXT + i)) (hS : va_S A s.heap H locs) (hU : U.heap = H) (hW : s.WarmedH U.vm) (hB : ∀ q, B q → A q) : g_X ad B U := by
  obtain ⟨h1, h2, h3, h4, h5, h6, h7⟩ := h
  have e : (fun i => ad (g_EXT + i)) = fun i => ad0 (g_EXT + i) := funext ha
  have e2 : (fun i => ad (g_EXT + (100 + i))) = fun i => ad0 (g_EXT + (100 + i)) := funext fun i => ha _
  refine ⟨?_, fun q hq => by rw [ha]; exact vk_R.warm hW (h2 q hq), ?_, ?_, ?_, ?_, fun w hw => g_fw_warm hw hW (h7 w hw)⟩
  · rw [e, e2, hU]; exact ((h1.moved hW.alike).kept hS.2.1).narrow hB
  · rw [hU]; exact ((h3.moved hW.alike).kept hS.2.1).narrow hB
  · rw [hU, ha]
    rcases h4 with h4 | h4
    · exact Or.inl (((h4.moved hW.alike).kept hS.2.1).narrow hB)
    · exact Or.inr (((h4.moved hW.alike).kept hS.2.1).narrow hB)
  · rw [hU]; exact ((vx_Zq.moved hW.alike h5).kept hS.2.1).narrow hB
  · rw [hU]; exact ((vx_Zq.moved hW.alike h6).kept hS.2.1).narrow hB
theorem g_X.same {ad : Nat → Nat} {A : Nat → Prop} {u U : State} (hvm : u.vm = U.vm) (hh : U.heap = u.heap) (h : g_X ad A u) : g_X ad A U := by
  obtain ⟨h1, h2, h3, h4, h5, h6, h7⟩ := h
  have hA : u.vm.Alike U.vm := by rw [hvm]; exact Vm.Alike.refl _
  refine ⟨by rw [hh]; exact h1.moved hA, fun q hq => vk_R.same hvm.symm (h2 q hq), by rw [hh]; exact h3.moved hA, ?_, by rw [hh]; exact vx_Zq.moved hA h5, by rw [hh]; exact vx_Zq.moved hA h6, fun w hw => g_fw_same hw hvm (h7 w hw)⟩
  rw [hh]
  rcases h4 with h4 | h4
  · exact Or.inl (h4.moved hA)
  · exact Or.inr (h4.moved hA)
def g_K (D : va_G) (cy : Nat → ClassId) (U : State) (ad : Nat → Nat) (A : Nat → Prop) : Prop := va_K D vwCl (g_tys cy) U ∧ va_AO RX6 U ∧ va_AO RX8 U ∧ va_AO RX10 U ∧ (∀ q ∈ g_nest, va_Nw (.methodLinkNest q.1 q.2.1 q.2.2.1 q.2.2.2) U) ∧ g_X ad A U
theorem g_K.call {D : va_G} {cy : Nat → ClassId} {ad ad0 : Nat → Nat} {A B : Nat → Prop} {s U : State} {H : Heap} {locs : List Loc} (h : g_K D cy s ad0 A) (ha : ∀ i, ad (g_EXT + i) = ad0 (g_EXT + i)) (hS : va_S A s.heap H locs) (hU : U.heap = H) (hW : s.WarmedH U.vm) (hB : ∀ q, B q → A q) : g_K D cy U ad B := ⟨va_K.moved hW.alike h.1, h.2.1.moved hW.alike, h.2.2.1.moved hW.alike, h.2.2.2.1.moved hW.alike, fun q hq => va_Nw.warmM hW (h.2.2.2.2.1 q hq), h.2.2.2.2.2.call ha hS hU hW hB⟩
theorem g_K.same {D : va_G} {cy : Nat → ClassId} {ad : Nat → Nat} {A : Nat → Prop} {u U : State} (hvm : u.vm = U.vm) (hh : U.heap = u.heap) (h : g_K D cy u ad A) : g_K D cy U ad A := by
  have hA : u.vm.Alike U.vm := by rw [hvm]; exact Vm.Alike.refl _
  exact ⟨va_K.moved hA h.1, h.2.1.moved hA, h.2.2.1.moved hA, h.2.2.2.1.moved hA, fun q hq => va_Nw.same rfl hvm (h.2.2.2.2.1 q hq), h.2.2.2.2.2.same hvm hh⟩
def g_P (D : va_G) (cy : Nat → ClassId) (A : Nat → Prop) (ad : Nat → Nat) (u : gU) (H : Heap) : Prop := ∃ L : List Nat, (∀ a, a ∈ L ↔ u.1.1 a ≠ none) ∧ va_P D vwCl (g_W cy ad u L) H ∧ va_D A (g_W cy ad u L)
def g_F (ad : Nat → Nat) (u : gU) (sz : Nat) : Nat → Prop := fun q => (∃ a, u.1.1 a ≠ none ∧ q = ad a) ∨ sz ≤ q
theorem g_W_at {cy : Nat → ClassId} {ad : Nat → Nat} {u : gU} {L : List Nat} {k a : Nat} (h : L[k]? = some a) : (g_W cy ad u L)[k]? = some (ad a, g_cell cy ad u a) := by
  unfold g_W; rw [List.getElem?_map, h]; rfl
theorem g_W_inv {cy : Nat → ClassId} {ad : Nat → Nat} {u : gU} {L : List Nat} {k : Nat} {q : Nat × va_E} (h : (g_W cy ad u L)[k]? = some q) : ∃ a, L[k]? = some a ∧ q = (ad a, g_cell cy ad u a) := by
  unfold g_W at h; rw [List.getElem?_map] at h
  cases hk : L[k]? with
  | none => rw [hk] at h; cases h
  | some a => rw [hk] at h; exact ⟨a, rfl, (Option.some.inj h).symm⟩
theorem g_cell_of {cy : Nat → ClassId} {ad : Nat → Nat} {u : gU} {a kd n : Nat} (h : u.1.1 a = some (kd, n)) : g_cell cy ad u a = g_cl cy ad u a kd n := by
  unfold g_cell g_kd g_ln; rw [h]
theorem g_P.get {D : va_G} {cy : Nat → ClassId} {A : Nat → Prop} {ad : Nat → Nat} {u : gU} {H : Heap} (h : g_P D cy A ad u H) {a kd n : Nat} (ha : u.1.1 a = some (kd, n)) :
    ∃ (L : List Nat) (k : Nat), (∀ b, b ∈ L ↔ u.1.1 b ≠ none) ∧ va_P D vwCl (g_W cy ad u L) H ∧ va_D A (g_W cy ad u L) ∧ L[k]? = some a ∧ (g_W cy ad u L)[k]? = some (ad a, g_cl cy ad u a kd n) := by
  obtain ⟨L, hL, hP, hD⟩ := h
  obtain ⟨k, hk⟩ := List.getElem?_of_mem ((hL a).mpr (by rw [ha]; exact fun h => by cases h))
  exact ⟨L, k, hL, hP, hD, hk, by rw [g_W_at hk, g_cell_of ha]⟩
/-- a cell is set: the list of cells is that of the new picture -/
theorem g_W_set {cy : Nat → ClassId} {A : Nat → Prop} {ad : Nat → Nat} {u u' : gU} {L : List Nat} {k a : Nat} {e : va_E} (hD : va_D A (g_W cy ad u L)) (hk : L[k]? = some a) (he : e = g_cell cy ad u' a) (ho : ∀ b, b ≠ a → g_cell cy ad u' b = g_cell cy ad u b) : (g_W cy ad u L).set k (ad a, e) = g_W cy ad u' L := by
  apply List.ext_getElem?
  intro j
  have hlt : k < (g_W cy ad u L).length := by unfold g_W; rw [List.length_map]; exact (List.getElem?_eq_some_iff.mp hk).1
  by_cases hj : j = k
  · subst hj
    rw [List.getElem?_set_self hlt, g_W_at hk, he]
  · rw [List.getElem?_set_ne (Ne.symm hj)]
    cases hb : L[j]? with
    | none => unfold g_W; rw [List.getElem?_map, List.getElem?_map, hb]; rfl
    | some b =>
      have hne : b ≠ a := by
        intro e2
        subst e2
        exact hj (hD.1 j k _ _ (g_W_at hb) (g_W_at hk) rfl)
      rw [g_W_at hb, g_W_at hb, ho b hne]
theorem g_P.set {D : va_G} {cy : Nat → ClassId} {A : Nat → Prop} {ad : Nat → Nat} {u u' : gU} {H1 : Heap} {L : List Nat} {k a : Nat} {e : va_E} (hL : ∀ b, b ∈ L ↔ u.1.1 b ≠ none) (hD0 : va_D A (g_W cy ad u L)) (hk : L[k]? = some a) (hs : u'.1.1 = u.1.1) (he : e = g_cell cy ad u' a) (ho : ∀ b, b ≠ a → g_cell cy ad u' b = g_cell cy ad u b)
    (hP : va_P D vwCl ((g_W cy ad u L).set k (ad a, e)) H1) (hD : va_D A ((g_W cy ad u L).set k (ad a, e))) : g_P D cy A ad u' H1 := by
  rw [g_W_set hD0 hk he ho] at hP hD
  exact ⟨L, fun b => by rw [hs]; exact hL b, hP, hD⟩
def g_up {α : Type} (f : Nat → Nat → α) (a k : Nat) (v : α) : Nat → Nat → α := fun b j => if b = a ∧ j = k then v else f b j
theorem g_up_s {α : Type} (f : Nat → Nat → α) (a k : Nat) (v : α) : g_up f a k v a k = v := by simp [g_up]
theorem g_up_a {α : Type} (f : Nat → Nat → α) {a b : Nat} (k j : Nat) (v : α) (h : b ≠ a) : g_up f a k v b j = f b j := by simp [g_up, h]
theorem g_up_k {α : Type} (f : Nat → Nat → α) (a b : Nat) {k j : Nat} (v : α) (h : j ≠ k) : g_up f a k v b j = f b j := by simp [g_up, h]
/-- the outcome of a method: what it answers, the picture behind it -/
def g_Q (D : va_G) (cy : Nat → ClassId) (ad : Nat → Nat) (u : gU) (sz : Nat) (o : gO) : Array Value → State → Outcome → State → Prop := fun _ st oc t =>
  (∃ ad' : Nat → Nat, ((∀ a, u.1.1 a ≠ none → ad' a = ad a ∧ o.2.1.1 a ≠ none) ∧ ∀ i, ad' (g_EXT + i) = ad (g_EXT + i)) ∧ oc = .returned (o.1.map (g_cv ad')) ∧ g_P D cy (g_F ad u sz) ad' o.2 t.heap ∧ g_C o.2.1 ∧ (∀ v, o.1 = some v → g_ok o.2.1 v)) ∧ va_F (g_F ad u sz) st t
/-- the outcome of a method that throws is marked so -/
def g_thr (o : gO) : Bool := match o.1 with
  | some (.inr (.inr (.inr q))) => q == 999
  | _ => false
/-- where a method has thrown: the picture behind it -/
def g_XC (D : va_G) (cy : Nat → ClassId) (ad : Nat → Nat) (u : gU) (sz : Nat) (o : gO) : String → State → State → Prop := fun X st t =>
  X = "java/util/NoSuchElementException" ∧ (∃ ad' : Nat → Nat, ((∀ a, u.1.1 a ≠ none → ad' a = ad a ∧ o.2.1.1 a ≠ none) ∧ ∀ i, ad' (g_EXT + i) = ad (g_EXT + i)) ∧ g_P D cy (g_F ad u sz) ad' o.2 t.heap ∧ g_C o.2.1) ∧ va_F (g_F ad u sz) st t
/-- what a body must come to -/
def g_end (below : List Frame) (D : va_G) (cy : Nat → ClassId) (ad0 : Nat → Nat) (u0 : gU) (args : Array Value) (s : State) (mc ms : Nat) (o : gO) : State → Prop :=
  if g_thr o = true then vx_MQ below (fun _ _ _ _ => False) (g_XC D cy ad0 u0 s.heap.size o) args s mc ms (g_F ad0 u0 s.heap.size) else MQ below (g_Q D cy ad0 u0 s.heap.size o) args s mc ms (g_F ad0 u0 s.heap.size)
theorem g_end_n {below : List Frame} {D : va_G} {cy : Nat → ClassId} {ad0 : Nat → Nat} {u0 : gU} {args : Array Value} {s : State} {mc ms : Nat} {o : gO} (h : g_thr o = false) : g_end below D cy ad0 u0 args s mc ms o = MQ below (g_Q D cy ad0 u0 s.heap.size o) args s mc ms (g_F ad0 u0 s.heap.size) := by
  unfold g_end; rw [if_neg (by rw [h]; exact Bool.false_ne_true)]
theorem g_end_t {below : List Frame} {D : va_G} {cy : Nat → ClassId} {ad0 : Nat → Nat} {u0 : gU} {args : Array Value} {s : State} {mc ms : Nat} {o : gO} (h : g_thr o = true) : g_end below D cy ad0 u0 args s mc ms o = vx_MQ below (fun _ _ _ _ => False) (g_XC D cy ad0 u0 s.heap.size o) args s mc ms (g_F ad0 u0 s.heap.size) := by
  unfold g_end; rw [if_pos h]
/-- a method's contract: called with the values av in the picture u, it comes to the outcome o -/
def g_Ct (l : Launch) (y : MethodName) (cc : ByteArray) (nL : Nat) (ret : Option FieldType) (rk mc ms : Nat) (av : List gV) (u : gU) (o : gO) : Prop :=
  ∀ (D : va_G) (cy : Nat → ClassId) (ad : Nat → Nat) (sz : Nat), Met l y (.code y cc nL ret :: g_tb) { frames := rk, cells := mc, slots := ms, locals := 60 * rk }
    (va_Pc (av.map (g_cv ad)) (fun U => U.heap.size = sz ∧ g_P D cy (fun _ => True) ad u U.heap ∧ g_C u.1 ∧ g_K D cy U ad (g_F ad u sz) ∧ ∀ v ∈ av, g_ok u.1 v))
    (g_Q D cy ad u sz o) mc ms (g_F ad u sz)
/-- what is fixed while a method's body runs -/
abbrev gE : Type _ := Program × Launch × Env × Room × State × MethodId × Array Value × List Frame × Method × Code × va_G × (Nat → ClassId) × (Nat → Nat) × gU × Nat × Nat × Nat
/-- at a place of a body: from every heap that holds the picture the machine comes to the method's outcome o -/
def g_G (E : gE) (ce sl pc : Nat) (lv : List (Nat × gV)) (st : List gV) (u : gU) (o : gO) : Prop := match E with
  | (p, l, e, R, s, m, args, below, meth, c, D, cy, ad0, u0, nL, mc, ms) =>
  ∀ (ad : Nat → Nat) (H : Heap) (locs : List Loc) (ls : Array Slot), ((∀ a, u0.1.1 a ≠ none → ad a = ad0 a ∧ u.1.1 a ≠ none) ∧ ∀ i, ad (g_EXT + i) = ad0 (g_EXT + i)) → g_P D cy (g_F ad0 u0 s.heap.size) ad u H → g_C u.1 → va_S (g_F ad0 u0 s.heap.size) s.heap H locs →
    (∀ v ∈ st, g_ok u.1 v) → (∀ q ∈ lv, g_ok u.1 q.2) → lv_has ls nL (lv.map fun q => (q.1, g_cv ad q.2)) →
    W p l e R s m args below meth c H locs ce sl (g_end below D cy ad0 u0 args s mc ms o) (F0 m pc ls (st.map (g_cv ad)))
def g_H {α : Type} (E : gE) (ce sl pc : Nat) (lv : List (Nat × gV)) (st : List gV) (u : gU) (om : Option α) (emb : α → gO) : Prop := ∀ r, om = some r → g_G E ce sl pc lv st u (emb r)
def g_I (E : gE) (cc : ByteArray) (own : String) (ret : Option FieldType) : Prop := match E with
  | (p, _, _, _, s, m, args, _, meth, c, D, cy, ad0, u0, nL, _, _) => CallFix p m c cc nL s args g_tb own ∧ meth.sig.returnType = ret ∧ meth.locks = false ∧ g_K D cy s ad0 (g_F ad0 u0 s.heap.size)
theorem h_none {α : Type} {E : gE} {ce sl pc : Nat} {lv : List (Nat × gV)} {st : List gV} {u : gU} {emb : α → gO} : g_H E ce sl pc lv st u none emb := fun _ h => by cases h
