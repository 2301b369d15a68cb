/-! Throws that leave bill and owes, and methods that catch them; the script's array -/
def th_N : String := "java/util/NoSuchElementException"
def th_R : String := "java/lang/RuntimeException"
def th_13 : ByteArray := ⟨#[0x2a, 0x2b, 0xb7, 0x00, 0x0d, 0xb1]⟩
/-- the words of the exception's making: its own constructor calls its super at 13 -/
def th_A : List Cond := Bundle.throwableAtoms ++ (Bundle.throwableSAtoms ++ (Bundle.passSAtoms th_N th_R 13 th_13 ++ (Bundle.chainSAtoms th_R ["java/lang/Exception"] ++
  [.methodLink RX11 289 (Bundle.initS th_N), .instantiable th_N 6, .selects th_N Bundle.tFill0 Bundle.tFill0, .selects th_N Bundle.tFill Bundle.tFill,
   .lays th_N Bundle.tN "cause" "Ljava/lang/Throwable;", .lays th_N Bundle.tN "stackTrace" Bundle.steD, .lays th_N Bundle.tN "suppressedExceptions" Bundle.listD, .lays th_N Bundle.tN "detailMessage" "Ljava/lang/String;",
   .isRef (.static Bundle.tN "UNASSIGNED_STACK" Bundle.steD), .isRef (.static Bundle.tN "SUPPRESSED_SENTINEL" Bundle.listD),
   .fieldLink Bundle.tN 198 Bundle.tN "backtrace" "Ljava/lang/Object;", .lays Bundle.tN Bundle.tN "backtrace" "Ljava/lang/Object;", .lays th_N Bundle.tN "backtrace" "Ljava/lang/Object;"])))
def th_B : List Cond := th_A.filter vx_no
set_option maxRecDepth 100000 in
theorem th_at : ∀ w ∈ th_B, w ∈ g_tb ∨ w ∈ g_fw := by decide +kernel
set_option maxRecDepth 100000 in
theorem th_ot : ∀ w ∈ Cond.classLink RX11 285 th_N :: Cond.initialized th_N :: th_B, vx_ot w = true := by decide +kernel
set_option maxRecDepth 100000 in
theorem th_k : Cond.classLink RX11 285 th_N ∈ g_tb := by decide +kernel
set_option maxRecDepth 100000 in
theorem th_i : Cond.initialized th_N ∈ g_tb := by decide +kernel
set_option maxRecDepth 100000 in
theorem th_kL : Cond.classLink "TourRoomsLaw" 13 th_N ∈ g_tb := by decide +kernel
set_option maxRecDepth 100000 in
theorem th_c : Cond.castable th_N th_N ∈ g_fw := by decide +kernel
theorem g_fw_use {w : Cond} (h : w ∈ g_fw) {s : State} (hz : va_Nw w s) {args : Array Value} : w.before args s = true := by
  have h2 := (List.mem_filter.mp h).2
  simp only [Bool.and_eq_true] at h2
  exact va_Nw.use h2.1 hz
theorem g_P.kept {D : va_G} {cy : Nat → ClassId} {A : Nat → Prop} {ad : Nat → Nat} {u : gU} {H H1 : Heap} (h : g_P D cy A ad u H) (hq : ∀ q : Nat, q < H.size → H1[q]? = H[q]?) : g_P D cy A ad u H1 := by
  obtain ⟨L, hL, hP, hD⟩ := h
  exact ⟨L, hL, hP.kept (fun k q hk => hq q.1 (vx_lt hP hk)), hD⟩
def g_noEx (E : gE) : Prop := match E with
  | (_, _, _, _, _, _, _, _, _, c, _, _, _, _, _, _, _) => ∀ x ∈ c.exceptionTable.toList, False
def g_ExT (E : gE) (hh : List (Nat × Nat × Nat × Nat)) : Prop := match E with
  | (_, _, _, _, _, _, _, _, _, c, _, _, _, _, _, _, _) => c.exceptionTable.toList = tableOf hh
/-- a method's contract: it throws -/
def g_Cx (l : Launch) (y : MethodName) (cc : ByteArray) (nL : Nat) (ret : Option FieldType) (rk mc ms : Nat) (av : List gV) (u : gU) (o : gO) : Prop :=
  ∀ (D : va_G) (cy : Nat → ClassId) (ad : Nat → Nat) (sz : Nat), vx_Met l y (.code y cc nL ret :: g_tb) { frames := rk, cells := mc, slots := ms, locals := 60 * rk }
    (va_Pc (av.map (g_cv ad)) (fun U => U.heap.size = sz ∧ g_P D cy (fun _ => True) ad u U.heap ∧ g_C u.1 ∧ g_K D cy U ad (g_F ad u sz) ∧ ∀ v ∈ av, g_ok u.1 v))
    (fun _ _ _ _ => False) (g_XC D cy ad u sz o) mc ms (g_F ad u sz)
/-- a contract of a method with handlers -/
def g_CtH (l : Launch) (y : MethodName) (cc : ByteArray) (nL : Nat) (ret : Option FieldType) (hh : List (Nat × Nat × Nat × Nat)) (rk mc ms : Nat) (av : List gV) (u : gU) (o : gO) : Prop :=
  ∀ (D : va_G) (cy : Nat → ClassId) (ad : Nat → Nat) (sz : Nat), Met l y (.codeWith y cc nL ret hh :: g_tb) { frames := rk, cells := mc, slots := ms, locals := 60 * rk }
    (va_Pc (av.map (g_cv ad)) (fun U => U.heap.size = sz ∧ g_P D cy (fun _ => True) ad u U.heap ∧ g_C u.1 ∧ g_K D cy U ad (g_F ad u sz) ∧ ∀ v ∈ av, g_ok u.1 v))
    (g_Q D cy ad u sz o) mc ms (g_F ad u sz)
theorem g_ofWH {l : Launch} {y : MethodName} {ws ws' : List Cond} {rm : Room} {Pc : Array Value → State → Prop} {Qc : Array Value → State → Outcome → State → Prop} {mc ms : Nat} {free : Addr → Prop} {cc : ByteArray} {maxL : Nat} {ret : Option FieldType} {hh : List (Nat × Nat × Nat × Nat)}
    (hy : plainName y.cls = true) (hw : ws = Cond.codeWith y cc maxL ret hh :: ws')
    (body : ∀ p e s m args below meth c s₁, BodyLoose p l y (headSpec ws rm) cc maxL ret e s m args below meth c s₁ → c.maxLocals = maxL → Pc args s →
      W p l e (headSpec ws rm).room s m args below meth c s.heap [] 0 0 (MQ below Qc args s mc ms free) (entryFrame m args maxL)) : Met l y ws rm Pc Qc mc ms free := by
  refine MetFree.of_bodyS (code := cc) (maxLocals := maxL) (ret := ret) hy ?_ ?_
  · intro args s m h hn
    obtain ⟨m9, meth, c, hn9, h1, h2, h3, h4, -, h5, h6, -⟩ := Cond.codeWith_spec (atoms_spec (ws := ws) h _ (by rw [hw]; exact List.mem_cons_self))
    cases hn.symm.trans hn9
    exact ⟨meth, c, h1, h2, h3, h4, h5, h6⟩
  · intro p e s m args below meth c s₁ B hml hP _
    have hh0 : s₁.heap = s.heap := by rw [B.state]; rfl
    obtain ⟨t, a1, o, b1, b2, b3⟩ := body p e s m args below meth c s₁ B hml hP s₁ hh0 (Stand.of_body B)
    exact ⟨t, o, a1, b1, b2, ⟨b3.1, b3.2⟩⟩
theorem g_CtH.of {l : Launch} {y : MethodName} {cc : ByteArray} {nL : Nat} {ret : Option FieldType} {hh : List (Nat × Nat × Nat × Nat)} {rk mc ms : Nat} {av : List gV} {u : gU} {o : gO} (tab : gT) (hy : plainName y.cls = true) (hT : g_okT cc tab = true) (hn : (av.map g_cat).sum ≤ nL)
    (k : ∀ E : gE, g_J E cc y.cls y.name ret nL tab rk mc ms l → g_ExT E hh → g_G E 0 0 0 (g_args 0 av) [] u o) (hth : g_thr o = false := by rfl) : g_CtH l y cc nL ret hh rk mc ms av u o := by
  intro D cy ad sz
  refine g_ofWH (cc := cc) (maxL := nL) (ret := ret) hy rfl ?_
  intro p e s m args below meth c s₁ B hml hv
  obtain ⟨rfl, hsz, hP, hC, hK, hok⟩ := hv
  have hts : ∀ w ∈ g_tb, w.before (av.map (g_cv ad)).toArray s = true := fun w hw => atoms_spec B.pre w (List.mem_cons_of_mem _ hw)
  have hex : c.exceptionTable.toList = tableOf hh := vx_table (x := y) B (atoms_spec B.pre _ List.mem_cons_self)
  subst hsz
  have hl := lv_entry (av.map (g_cv ad)) (n := nL) (by rw [g_sl_len]; exact hn)
  rw [lg_entry_eq]
  rw [g_args_cv] at hl
  have key := k (p, l, e, { frames := rk, cells := mc, slots := ms, locals := 60 * rk }, s, m, (av.map (g_cv ad)).toArray, below, meth, c, D, cy, ad, u, nL, mc, ms) ⟨⟨⟨B.exec, B.bytes, hml, findClass_of_methodNamed B.named, hts⟩, B.returns, B.notSynchronized, hK⟩, rfl, hT, rfl, rfl, rfl, rfl, (name_of_methodNamed B.named B.method).1⟩ hex
  have fin := key ad s.heap [] _ ⟨fun a h => ⟨rfl, h⟩, fun _ => rfl⟩ (hP.weaken (fun a h _ => Or.inl ⟨a, h, rfl⟩)) hC va_S.rf (fun _ h => by cases h) (g_args_mem av 0 hok) hl
  rw [g_end_n hth] at fin
  exact fin
theorem g_Cx.of {l : Launch} {y : MethodName} {cc : ByteArray} {nL : Nat} {ret : Option FieldType} {rk mc ms : Nat} {av : List gV} {u : gU} {o : gO} (tab : gT) (hy : plainName y.cls = true) (hT : g_okT cc tab = true) (hn : (av.map g_cat).sum ≤ nL)
    (k : ∀ E : gE, g_J E cc y.cls y.name ret nL tab rk mc ms l → g_noEx E → g_G E 0 0 0 (g_args 0 av) [] u o) (hth : g_thr o = true := by rfl) : g_Cx l y cc nL ret rk mc ms av u o := by
  intro D cy ad sz
  refine vx_ofW (cc := cc) (maxL := nL) (ret := ret) hy rfl ?_
  intro p e s m args below meth c s₁ B hml hex hv
  obtain ⟨rfl, hsz, hP, hC, hK, hok⟩ := hv
  have hts : ∀ w ∈ g_tb, w.before (av.map (g_cv ad)).toArray s = true := fun w hw => atoms_spec B.pre w (List.mem_cons_of_mem _ hw)
  subst hsz
  have hl := lv_entry (av.map (g_cv ad)) (n := nL) (by rw [g_sl_len]; exact hn)
  rw [lg_entry_eq]
  rw [g_args_cv] at hl
  have key := k (p, l, e, { frames := rk, cells := mc, slots := ms, locals := 60 * rk }, s, m, (av.map (g_cv ad)).toArray, below, meth, c, D, cy, ad, u, nL, mc, ms) ⟨⟨⟨B.exec, B.bytes, hml, findClass_of_methodNamed B.named, hts⟩, B.returns, B.notSynchronized, hK⟩, rfl, hT, rfl, rfl, rfl, rfl, (name_of_methodNamed B.named B.method).1⟩ hex
  have fin := key ad s.heap [] _ ⟨fun a h => ⟨rfl, h⟩, fun _ => rfl⟩ (hP.weaken (fun a h _ => Or.inl ⟨a, h, rfl⟩)) hC va_S.rf (fun _ h => by cases h) (g_args_mem av 0 hok) hl
  rw [g_end_t hth] at fin
  exact fin
/-- the same for a method that may throw, where it returns -/
theorem g_Ct.ofX {l : Launch} {y : MethodName} {cc : ByteArray} {nL : Nat} {ret : Option FieldType} {rk mc ms : Nat} {av : List gV} {u : gU} {o : gO} (tab : gT) (hy : plainName y.cls = true) (hT : g_okT cc tab = true) (hn : (av.map g_cat).sum ≤ nL)
    (k : ∀ E : gE, g_J E cc y.cls y.name ret nL tab rk mc ms l → g_noEx E → g_G E 0 0 0 (g_args 0 av) [] u o) (hth : g_thr o = false := by rfl) : g_Ct l y cc nL ret rk mc ms av u o := by
  intro D cy ad sz
  refine Met.ofW (cc := cc) (maxL := nL) (ret := ret) hy rfl ?_
  intro p e s m args below meth c s₁ B hml hv
  have hex : ∀ x ∈ c.exceptionTable.toList, False := by
    obtain ⟨meth9, c9, h1, h2, -, -, -, -, h7, -⟩ := Cond.code_spec B.named (atoms_spec B.pre _ List.mem_cons_self)
    cases Option.some.inj (h1.symm.trans B.method)
    cases Option.some.inj (h2.symm.trans (Stand.of_body B).code)
    intro x hx
    rw [Array.isEmpty_iff.mp h7] at hx
    cases hx
  obtain ⟨rfl, hsz, hP, hC, hK, hok⟩ := hv
  have hts : ∀ w ∈ g_tb, w.before (av.map (g_cv ad)).toArray s = true := fun w hw => atoms_spec B.pre w (List.mem_cons_of_mem _ hw)
  subst hsz
  have hl := lv_entry (av.map (g_cv ad)) (n := nL) (by rw [g_sl_len]; exact hn)
  rw [lg_entry_eq]
  rw [g_args_cv] at hl
  have key := k (p, l, e, { frames := rk, cells := mc, slots := ms, locals := 60 * rk }, s, m, (av.map (g_cv ad)).toArray, below, meth, c, D, cy, ad, u, nL, mc, ms) ⟨⟨⟨B.exec, B.bytes, hml, findClass_of_methodNamed B.named, hts⟩, B.returns, B.notSynchronized, hK⟩, rfl, hT, rfl, rfl, rfl, rfl, (name_of_methodNamed B.named B.method).1⟩ hex
  have fin := key ad s.heap [] _ ⟨fun a h => ⟨rfl, h⟩, fun _ => rfl⟩ (hP.weaken (fun a h _ => Or.inl ⟨a, h, rfl⟩)) hC va_S.rf (fun _ h => by cases h) (g_args_mem av 0 hok) hl
  rw [g_end_n hth] at fin
  exact fin
section TC
variable {p : Program} {l : Launch} {e : Env} {R : Room} {s : State} {m : MethodId} {args : Array Value} {below : List Frame} {meth : Method} {c : Code} {W0 : State} {locs : List Loc} {cells slots : Nat}
/-- the exception's constructor, and its throw: by the library's laws of Throwable's constructors, with one link more at the head of the chain -/
theorem th_ctor (X : Stand p l e R s m args below meth c W0 locs cells slots) (hexec : p.tables.exec = Jvm.exec) (htr : e.platform.stackTraces = false) (hown : s.vm.findClass RX11 = some m.cls) (h : ∀ a ∈ th_A, a.before args s = true)
    (hlocs : ∀ x ∈ locs, ∀ cell, s.heap[x.base]? = some cell → cell.vm.isStatics = false) {a : Addr} {cX : ClassId} {kX : Class} (hfoundX : s.vm.findClass th_N = some cX) (hkX : s.vm.classes[cX]? = some kX) (hcell : W0.heap[a]? = some (freshCell cX kX)) (hnew : s.heap.size ≤ a)
    {msg : Value} (hmsg : msg.isRef = true) {g : JFrame} (hg : g.method = m) (hsize : g.locals.size = c.maxLocals) (hlocked : g.locked = none) (hentered : g.entered = []) {rest : List Value} (hstack : g.stack = msg :: .ref a :: .ref a :: rest)
    (hd6 : decode c.code g.pc = .ok (.invokespecial 289, 3)) (hd9 : decode c.code (g.pc + 3) = .ok (.athrow, 1)) (hout : ∀ x ∈ c.exceptionTable.toList, covers x (g.pc + 3) = false)
    (hRframes : 5 < R.frames) (hRlocals : 2 * g.monitorRoom + ((Value.ref a :: rest).map fun v => v.category).sum + 81 ≤ R.locals) (hlocks : meth.locks = false) :
    ∃ U : State, Steps p.tables e below (W0.setTop g) U ∧ U.status = .running ∧ Ended U below (.threw a) ∧ s.WarmedH U.vm ∧ s.sameButNew ({ U with vm := s.vm } : State) locs cells slots ∧
      ∃ ce, U.heap[a]? = some ce ∧ ce.vm = .none ∧ s.vm.findClass th_N = some ce.cls := by
  have howns : e.platform.frameOwnsMonitors = true := by rw [X.admits.platform]
  have hfin : e.platform.finalization = false := by rw [X.admits.platform]
  have hpl : e.platform.magicAccessors = ({} : Platform).magicAccessors := by rw [X.admits.platform]
  have a' : ∀ x, x ∈ th_A → x.holds args s none s [] = true := fun x hx => h x hx
  obtain ⟨T, Z0, L, -, Y⟩ := ThrowableC.of_atoms (args := args) howns hfin hpl (fun x hx => h x (by simp [th_A, hx]))
  obtain ⟨Z, M, LZ, LM, hnZ⟩ := Init0T.ofS_atoms (args := args) hpl L Y (fun x hx => h x (by simp [th_A, hx]))
  obtain ⟨P0, L0, hP0m, hP0s⟩ := PassC.ofS_atoms (args := args) (s := s) hpl (X := th_N) (Y := th_R) (index := 13) (bytes := th_13) (by decide) (by decide) (by decide +kernel) (by decide +kernel) (by decide +kernel) (by decide +kernel) (fun x hx => h x (by simp [th_A, hx]))
  obtain ⟨P1, Ps, hlen, L1, hL, hP1m, hlink1, hlink⟩ := Bundle.chainS (args := args) hpl hnZ ["java/lang/Exception"] th_R (by decide) (by decide) (fun x hx => h x (by simp [th_A, hx]))
  have h01 : P0.sup = P1.m := Option.some.inj (hP0s.symm.trans hP1m)
  have hfound : s.vm.findClass th_N = some P0.m.cls := findClass_of_methodNamed hP0m
  cases Option.some.inj (hfoundX.symm.trans hfound)
  obtain ⟨c1, kX', hc1, hk, hord, -, -, hn6⟩ := Cond.instantiable_spec (a' (.instantiable th_N 6) (by simp [th_A]))
  cases Option.some.inj (hc1.symm.trans hfound)
  cases Option.some.inj (hkX.symm.trans hk)
  have hsel : ∀ {x : MethodName} {r : MethodId}, Cond.selects th_N x x ∈ th_A → s.methodNamed? x = some r → x.cls ≠ "java/lang/invoke/MethodHandle" ∧ x.cls ≠ "java/lang/invoke/VarHandle" → selectMethod e.platform s.vm P0.m.cls r = .method r := by
    intro x r hm hn hy
    obtain ⟨c2, r2, m2, q1, q2, q3, q4, -⟩ := Cond.selects_spec (a' _ hm)
    cases Option.some.inj (q1.symm.trans hfound)
    cases Option.some.inj (q2.symm.trans (State.methodFound?_of_named hn hy))
    cases Option.some.inj (q3.symm.trans hn)
    rw [Launch.admits_selectMethod X.admits]; exact q4
  have hsel0 := hsel (by simp [th_A]) Y.fill0 (by decide)
  have hselF := hsel (by simp [th_A]) Y.fill (by decide)
  obtain ⟨cS0, hcS0, hiss⟩ := Y.statics
  obtain ⟨u0, hu0⟩ := Cond.staticRefV Y.unassigned L.unassignedStatic L.statics hcS0 hiss (a' (.isRef (.static Bundle.tN "UNASSIGNED_STACK" Bundle.steD)) (by simp [th_A]))
  obtain ⟨sen, hsen⟩ := Cond.staticRefV Y.sentinel L.sentinelStatic L.statics hcS0 hiss (a' (.isRef (.static Bundle.tN "SUPPRESSED_SENTINEL" Bundle.listD)) (by simp [th_A]))
  obtain ⟨ci, i9, fB, hk9, hg9, ha9, hsB, -, hnB, htB, hffB⟩ := Cond.ownField (t := .object "java/lang/Object") Y.found L.cls (by decide +kernel) (a' (.fieldLink Bundle.tN 198 Bundle.tN "backtrace" "Ljava/lang/Object;") (by simp [th_A])) (a' (.lays Bundle.tN Bundle.tN "backtrace" "Ljava/lang/Object;") (by simp [th_A])) e.platform hpl
  obtain ⟨cS, hcS, heS, -, hkeep⟩ := X.same.2.2.2.2.2 T.aS cS0 hcS0
  have hcellS : W0.heap[T.aS]? = some cS := hcS
  have hno : ∀ i, (⟨T.aS, i⟩ : Loc) ∉ locs := fun i hm => by
    have := hlocs _ hm cS0 hcS0
    rw [hiss] at this; cases this
  have hknown : cS.vm ≠ .unknown := by
    rw [heS]; intro hu
    rw [show cS0.vm = .unknown from hu] at hiss
    cases hiss
  have hne : T.aS ≠ a := Nat.ne_of_lt (Nat.lt_of_lt_of_le (Array.getElem?_eq_some_iff.mp hcS0).1 hnew)
  obtain ⟨iM, hffM⟩ := Y.msg
  obtain ⟨tyC, dC, hdC, hdnC⟩ := Cond.laysAt hfound hk Y.cause (a' (.lays th_N Bundle.tN "cause" "Ljava/lang/Throwable;") (by simp [th_A]))
  obtain ⟨tyS, dS, hdS, hdnS⟩ := Cond.laysAt hfound hk Y.stack (a' (.lays th_N Bundle.tN "stackTrace" Bundle.steD) (by simp [th_A]))
  obtain ⟨tyP, dP, hdP, hdnP⟩ := Cond.laysAt hfound hk Y.supp (a' (.lays th_N Bundle.tN "suppressedExceptions" Bundle.listD) (by simp [th_A]))
  obtain ⟨tyM, dM, hdM, hdnM⟩ := Cond.laysAt hfound hk hffM (a' (.lays th_N Bundle.tN "detailMessage" "Ljava/lang/String;") (by simp [th_A]))
  obtain ⟨tyB, dB, hdB, hdnB⟩ := Cond.laysAt hfound hk hffB (a' (.lays th_N Bundle.tN "backtrace" "Ljava/lang/Object;") (by simp [th_A]))
  have bC := Cond.laysApart hdB hdC hdnB hdnC (by rw [hnB, Y.causeName]; decide)
  have bS := Cond.laysApart hdB hdS hdnB hdnS (by rw [hnB, Y.stackName]; decide)
  have bP := Cond.laysApart hdB hdP hdnB hdnP (by rw [hnB, Y.suppName]; decide)
  have hskip : SkipFacts T e.platform s (fun u => u) u0 ((preparedCellV T.toThrowableT (freshCell P0.m.cls kX) a u0 sen).withEntry W0.cur) :=
    ⟨{ ci198 := ci, i198 := i9, fBack := fB }, ⟨hk9, hg9, ha9, hsB⟩, by
      have := fresh_default (c := P0.m.cls) tyB
      rw [htB] at this
      simpa [preparedCellV, Cell.setSlot, Cell.withEntry, Array.getElem?_setIfInBounds, bC, bS, bP, bC.symm, bS.symm, bP.symm, defaultValue] using this, fun _ _ => rfl⟩
  obtain ⟨tm, methC, cdC, kC, vm₁, hnC, -, -, -, -, -, -, -, hW₁, st1⟩ := Steps.initColdS (tb := p.tables) (e := e) (below := below) (s := s) (U := W0) X.here hexec X.warmed hpl hown (t := Bundle.initS th_N) rfl rfl (by decide)
    (a' (.methodLink RX11 289 (Bundle.initS th_N)) (by simp [th_A])) (h (.instanceMethod (Bundle.initS th_N)) (by simp [th_A, Bundle.passSAtoms])) (bytes := th_13) (maxL := 2) (h (.code (Bundle.initS th_N) th_13 2 none) (by simp [th_A, Bundle.passSAtoms]))
    (f := g) hg (a := a) (msg := msg) (rest := .ref a :: rest) hstack hd6
  cases Option.some.inj (hnC.symm.trans hP0m)
  have X₁ := X.noted hW₁
  obtain ⟨vm₂, X₂, st2⟩ := X₁.ctorMessageOffV hexec (g := { g with stack := .ref a :: rest }) hg hsize T L Z LZ M LM (P0 :: P1 :: Ps)
    (fun P hP => by rcases List.mem_cons.mp hP with rfl | hP; exact L0; rcases List.mem_cons.mp hP with rfl | hP; exact L1; exact hL P hP) ⟨h01, hlink1, hlink⟩ (u0 := u0) (sen := sen) (self := a) hmsg (cell := freshCell P0.m.cls kX) (cellS := cS)
    hcell (fun _ => by simp) (by simp) rfl rfl hsel0 hselF hcellS hne hknown (by rw [hkeep _ (hno _)]; exact hu0) (by rw [hkeep _ (hno _)]; exact hsen)
    (Takes.of_laid hk hord tyC (by rw [Y.causeType]; rfl)) (Takes.of_laid hk hord tyS (by rw [Y.stackType]; exact fits_refV_array _ u0)) (Takes.of_laid hk hord tyP (by rw [Y.suppType]; exact fits_refV_object _ sen))
    (Takes.of_laid hk hord tyM (by rw [Y.msgType]; exact fits_refV_object _ ⟨msg, hmsg⟩)) Y.objLocals hskip htr [] hd6
    (by simp only [List.length_cons, hlen, List.length_nil]; omega) (by simp only [List.length_cons, hlen, List.length_nil]; exact hRlocals)
  obtain ⟨hwalk, hrun, hended, hWU, hsame⟩ := X₂.athrowLeaves hexec (g := { g with stack := .ref a :: rest, pc := g.pc + 3 }) hg hlocked hentered hout (a := a) (rest := rest) rfl hd9 hlocks
  have hlt : a < ((W0.setVm vm₁).setVm vm₂).heap.size := (Array.getElem?_eq_some_iff.mp hcell).1
  have hU := heapAt_setCell_self (s := (W0.setVm vm₁).setVm vm₂) (plainBareV T.toThrowableT (freshCell P0.m.cls kX) a u0 sen msg) hlt
  refine ⟨_, st1 _ (fun acts => ?_), hrun, hended, hWU, hsame.weaken (fun y hy hlt' => ?_) (Nat.le_refl _) (Nat.le_refl _), _, hU, rfl, hfound⟩
  · rw [doInvoke_state]
    exact st2 _ hwalk
  · rcases List.mem_append.mp hy with h1 | h1
    · exact h1
    · exfalso
      have hb : y.base = a := by
        simp only [List.mem_cons, List.not_mem_nil, or_false] at h1
        rcases h1 with rfl | rfl | rfl | rfl | rfl <;> rfl
      rw [hb] at hlt'
      exact Nat.not_lt.mpr hnew hlt'
variable {H : Heap} {Qc : Array Value → State → Outcome → State → Prop} {XC : String → State → State → Prop} {free : Addr → Prop} {ls : Array Slot} {rest : List Value}
/-- 'new', 'dup', the message, the constructor, 'athrow': as vx_throwSW, over th_ctor -/
theorem th_throw {cc : ByteArray} {pc : Nat} (hexec : p.tables.exec = Jvm.exec) (hb : c.code = cc) (hl : l.stackTraces = false) {text : String} {is mc ms sa : Nat} {A : Nat → Prop} (hown : s.vm.findClass RX11 = some m.cls)
    (hk : (Cond.classLink RX11 285 th_N).before args s = true) (hini : (Cond.initialized th_N).before args s = true) (hstr : vk_R RX11 is text sa s) (hat : ∀ w ∈ th_B, w.before args s = true)
    (hU : vx_Zq Bundle.tN "UNASSIGNED_STACK" Bundle.steD A s s.heap) (hN : vx_Zq Bundle.tN "SUPPRESSED_SENTINEL" Bundle.listD A s s.heap) (hS : va_S A s.heap H locs) (hsize : ls.size = c.maxLocals)
    (d0 : decode cc pc = .ok (.new 285, 3)) (d3 : decode cc (pc + 3) = .ok (.dup, 1)) (d4 : decode cc (pc + 4) = .ok (.ldc_w is, 3)) (d7 : decode cc (pc + 7) = .ok (.invokespecial 289, 3)) (d10 : decode cc (pc + 10) = .ok (.athrow, 1))
    (hout : ∀ x ∈ c.exceptionTable.toList, covers x (pc + 10) = false) (hRframes : 5 < R.frames) (hRlocals : (rest.map fun v => v.category).sum + 82 ≤ R.locals) (hRcells : cells + 1 ≤ R.cells) (hRslots : slots + 6 ≤ R.slots) (hlocks : meth.locks = false)
    (hx : ∀ t : State, s.vm.Alike t.vm → H.size ≤ t.heap.size → (∀ q : Nat, q < H.size → t.heap[q]? = H[q]?) → XC th_N s t) (hf : ∀ z ∈ locs, free z.base) (hc : cells + 1 ≤ mc) (hs : slots + 6 ≤ ms) :
    W p l e R s m args below meth c H locs cells slots (vx_MQ below Qc XC args s mc ms free) (F0 m pc ls rest) := by
  intro T hT X
  have htr : e.platform.stackTraces = false := (show e.platform.stackTraces = l.stackTraces by rw [X.admits.platform]).trans hl
  have Y := vx_rebase X (R' := { frames := R.frames, locals := R.locals, cells := 1, slots := 6 }) (Nat.le_refl _) (Nat.le_refl _) hRcells hRslots
  obtain ⟨s', hA⟩ : ∃ z, z = (T.setVm s.vm).setFrames (.invoking m args :: below) := ⟨_, rfl⟩
  rw [← hA] at Y
  have hvm : s'.vm = s.vm := by rw [hA]; rfl
  have hhp : s'.heap = H := by rw [hA]; exact hT
  have hW0 : s.WarmedH s'.vm := by rw [hvm]; exact State.WarmedH.refl s
  have hat' : ∀ w ∈ th_B, w.before args s' = true := fun w hw => vx_ot_at hW0 hvm.symm (th_ot w (List.mem_cons_of_mem _ (List.mem_cons_of_mem _ hw))) (hat w hw)
  have hk' : (Cond.classLink RX11 285 th_N).before args s' = true := vx_ot_at hW0 hvm.symm (th_ot _ List.mem_cons_self) hk
  have hini' : (Cond.initialized th_N).before args s' = true := vx_ot_at hW0 hvm.symm (th_ot _ (List.mem_cons_of_mem _ List.mem_cons_self)) hini
  have hU' : vx_Zq Bundle.tN "UNASSIGNED_STACK" Bundle.steD A s' s'.heap := by rw [hhp]; exact vx_Zq.moved hW0.alike (hU.kept hS.2.1)
  have hN' : vx_Zq Bundle.tN "SUPPRESSED_SENTINEL" Bundle.listD A s' s'.heap := by rw [hhp]; exact vx_Zq.moved hW0.alike (hN.kept hS.2.1)
  have h : ∀ w ∈ th_A, w.before args s' = true := vx_own hat' (vx_isRefq hU'.1) (vx_isRefq hN'.1) hU'.2.word hN'.2.word
  have hown' : s'.vm.findClass RX11 = some m.cls := by rw [hvm]; exact hown
  obtain ⟨vm₁, cX, kX, hfX, hkX, -, -, X₁, st1⟩ := Y.newCold hexec (own := RX11) (C := th_N) (index := 285) (n := 6) hown' hk' (h _ (by simp [th_A])) hini'
    (g := F0 m pc ls rest) rfl (by rw [hb]; exact d0) (Nat.le_refl _) (Nat.le_refl _)
  generalize hT1 : (T.setVm vm₁).pushCell { cls := cX, slots := kX.instanceTypes.map defaultValue, vm := .none } = T1 at X₁ st1
  have hcat : (Value.ref T.heap.size).category = 1 := rfl
  have hcellA : T1.heap[T.heap.size]? = some (freshCell cX kX) := by rw [← hT1]; exact State.heap_pushCell_size _ _
  have d3' : decode c.code (pc + 3) = .ok (.dup, 1) := by rw [hb]; exact d3
  have d4' : decode c.code (pc + 4) = .ok (.ldc_w is, 3) := by rw [hb]; exact d4
  have hstr' : vk_R RX11 is text sa s' := vk_R.warm hW0 hstr
  obtain ⟨U, hsteps, hrun, hend, hW, hsame, ce, hce, hcv, hcl0⟩ := th_ctor X₁ hexec htr hown' h (fun x hx => nomatch hx) hfX hkX hcellA (by rw [hhp, hT]; exact Nat.le_refl _) (msg := .ref sa) rfl
    (g := { method := m, pc := pc + 7, locals := ls, stack := .ref sa :: .ref T.heap.size :: .ref T.heap.size :: rest, locked := none }) rfl hsize rfl rfl (rest := rest) rfl
    (by rw [hb]; exact d7) (by rw [hb]; exact d10) hout hRframes (by simp only [List.map_cons, List.sum_cons, hcat]; show 2 * 0 + _ + 81 ≤ R.locals; omega) hlocks
  obtain ⟨f1, f2⟩ := vx_frame hsame
  rw [hhp] at f1 f2
  have hWs : s.WarmedH U.vm := State.WarmedH.trans hW0 hW
  have hcl : s.vm.findClass th_N = some ce.cls := by rw [hvm] at hcl0; exact hcl0
  have hall : s.sameButNew ({ U with vm := s.vm } : State) locs mc ms := by
    subst hA
    obtain ⟨e1, e2⟩ := hsame
    rw [State.setFrames_setFrames] at e1
    have h2 : (T.setVm s.vm).sameButNew ({ U with vm := s.vm } : State) [] (0 + 1) (0 + 6) := ⟨e1, e2⟩
    have h3 := X.same.trans h2
    rw [List.append_nil] at h3
    exact h3.mono hc hs
  refine ⟨U, ?_, .threw T.heap.size, hrun, hend, Or.inr ⟨T.heap.size, rfl, th_N, ce, locs, hx U hWs.alike f1 (fun q hq => f2 q hq (fun z hz => nomatch hz)), hce, hcv, hcl, hWs, hall, hf⟩⟩
  refine st1 _ ?_
  show Steps p.tables e below (T1.setTop { method := m, pc := pc + 3, locals := ls, stack := .ref T.heap.size :: rest, locked := none }) _
  jvm_step X₁.here [X₁.here.top, hexec, d3', Value.category]
  exact X₁.ldcStringW hexec (own := RX11) (text := text) (index := is) (a := sa) hown' hstr'.1 hstr'.2
    (g := { method := m, pc := pc + 4, locals := ls, stack := .ref T.heap.size :: .ref T.heap.size :: rest, locked := none }) rfl d4' _ hsteps
end TC
section GT
variable {α : Type} {E : gE} {cc : ByteArray} {own nm : String} {ret : Option FieldType} {nL : Nat} {tab : gT} {rk mc ms : Nat} {l : Launch} {ce sl pc : Nat} {lv : List (Nat × gV)} {st : List gV} {u : gU} {om : Option α} {emb : α → gO} {iv : Int32}
theorem r_throw (J : g_J E cc RX11 nm ret nL tab rk mc ms l) (hX : g_noEx E) (hl : l.stackTraces = false) {is sa : Nat} {text : String} {ra : α} {i3 i4 i7 i10 : Int32} (hstr : (RX11, is, text, sa) ∈ g_strs)
    (f0 : g_find tab pc = some (.new 285, 3, iv)) (f3 : g_find tab (pc + 3) = some (.dup, 1, i3)) (f4 : g_find tab (pc + 4) = some (.ldc_w is, 3, i4)) (f7 : g_find tab (pc + 7) = some (.invokespecial 289, 3, i7)) (f10 : g_find tab (pc + 10) = some (.athrow, 1, i10))
    (he : emb ra = (some (vE 999), u)) (h1 : ce + 1 ≤ mc) (h2 : sl + 6 ≤ ms) (hrk : 6 ≤ rk) : g_H E ce sl pc lv [] u (some ra) emb := by
  intro r hr
  cases hr
  obtain ⟨⟨⟨hx, hb, hml, hown, hts⟩, hrt, hlocks, hK⟩, hnL, hT, hE⟩ := J
  obtain ⟨p, l', e, R, s, m, args, below, meth, c, D, cy, ad0, u0, nL, mc, ms⟩ := E
  obtain ⟨rfl, hR, rfl, rfl, hnm⟩ := hE
  intro ad H locs ls a1 a2 a3 a4 a5 a6 a7
  rw [he, g_end_t rfl]
  obtain ⟨-, -, -, -, -, -, x2, -, -, x5, x6, x7⟩ := hK
  exact th_throw (text := text) (sa := ad0 (g_EXT + sa)) hx hb hl hown (hts _ th_k) (hts _ th_i) (x2 _ hstr) (fun w hw => (th_at w hw).elim (hts w) (fun h => g_fw_use h (x7 w h))) x5 x6 a4 (a7.1.trans hml.symm)
    (g_find_ok hT f0).1 (g_find_ok hT f3).1 (g_find_ok hT f4).1 (g_find_ok hT f7).1 (g_find_ok hT f10).1 (fun x hx => (hX x hx).elim) (by rw [hR]; show 5 < rk; omega) (by rw [hR]; show 0 + 82 ≤ 60 * rk; omega) (by rw [hR]; exact h1) (by rw [hR]; exact h2) hlocks
    (fun t hA hz hq => ⟨rfl, ⟨ad, a1, a2.kept hq, a3⟩, Nat.le_trans a4.1 hz, fun q q1 q2 => (hq q (Nat.lt_of_lt_of_le q1 a4.1)).trans (a4.2.1 q q1 q2)⟩) a4.2.2 h1 h2
/-- a call that throws, and is caught by a handler at 12: 1 is answered -/
theorem r_callVT (J : g_J E cc own nm ret nL tab rk mc ms l) (hX : g_ExT E [(0, 9, 12, 13)]) {y : MethodName} {cc' : ByteArray} {nL' rk' mc' ms' idx : Nat} {oc : gO} {ra : α} {stk As : List gV} {ret' : Option FieldType} {b kd n N : Nat} {C : String} {T : u_T} {i12 i14 : Int32}
    (hC : g_Cx l y cc' nL' ret' rk' mc' ms' (vR b :: As) u oc) (hcls : g_cls kd C T N) (hs : u.1.1 b = some (kd, n)) (hw : Cond.methodLink own idx y ∈ g_tb) (hwL : Cond.classLink own 13 th_N ∈ g_tb) (hy : Cond.instanceMethod y ∈ g_tb ∧ Cond.selects C y y ∈ g_tb ∧ Cond.initialized y.cls ∈ g_tb ∧ Cond.code y cc' nL' ret' ∈ g_tb)
    (hd : y.cls ≠ "java/lang/invoke/MethodHandle" ∧ y.cls ≠ "java/lang/invoke/VarHandle" ∧ (parseMethodDescriptor y.desc).map (fun d => d.parameters.length) = some As.length) (hR2 : rk' < rk ∧ nL' ≤ 41 ∧ ce + mc' ≤ mc ∧ sl + ms' ≤ ms ∧ (st.map g_cat).sum ≤ 8) (hf : g_find tab pc = some (.invokevirtual idx, 3, iv)) (hpc : pc < 9) (hstk : stk = As.reverse ++ vR b :: st)
    (h3 : 3 < nL) (f12 : g_find tab 12 = some (.astore_n 3, 1, i12)) (f13 : g_find tab 13 = some (.iconst 1, 1, 1)) (f14 : g_find tab 14 = some (.ireturn, 1, i14)) (hret : ret = some .int) (he : emb ra = (some (vI 1), oc.2)) : g_H E ce sl pc lv stk u (some ra) emb := by
  intro r hr
  cases hr
  obtain ⟨⟨⟨hx, hb, hml, hown, hts⟩, hrt, hlocks, hK⟩, hnL, hT, hE⟩ := J
  obtain ⟨p, l, e, R, s, m, args, below, meth, c, D, cy, ad0, u0, nL, mc, ms⟩ := E
  obtain ⟨rfl, hR, rfl, rfl, hnm⟩ := hE
  intro ad H locs ls a1 a2 a3 a4 a5 a6 a7
  subst hstk
  subst hret
  rw [he, g_end_n rfl]
  have hnL : nL = _ := hnL
  obtain ⟨L, q, hL, hP, hD, hq, hcell⟩ := a2.get hs
  rw [g_cl_obj hcls.2.2.2.1] at hcell
  have hb0 := g_ne0 a3 hs
  have hr1 : rk' + 1 ≤ rk := hR2.1
  have hr2 : 8 + (nL' + 11) + 60 * rk' ≤ 60 * rk := by have h1 := hR2.1; have h2 := hR2.2.1; omega
  have hcat : ((st.map (g_cv ad)).map fun v => v.category).sum ≤ 8 := by
    have h1 : ((st.map (g_cv ad)).map fun v => v.category) = st.map g_cat := by
      rw [List.map_map]; apply List.map_congr_left; intro v _; exact g_cat_cv ad v
    rw [h1]; exact hR2.2.2.2.2
  have e1 : (As.reverse ++ vR b :: st).map (g_cv ad) = (As.map (g_cv ad)).reverse ++ .ref (ad b) :: st.map (g_cv ad) := by
    rw [List.map_append, List.map_reverse, List.map_cons, g_cv_R hb0]
  rw [e1]
  have hM := hC D cy ad H.size
  rw [List.map_cons, g_cv_R hb0] at hM
  have hok : ∀ v ∈ vR b :: As, g_ok u.1 v := by
    intro v hv
    rcases List.mem_cons.mp hv with rfl | hv
    · exact a5 _ (List.mem_append_right _ List.mem_cons_self)
    · exact a5 _ (List.mem_append_left _ (List.mem_reverse.mpr hv))
  have hrun := vx_runV (R := R) (locs := locs) (below := below) (cells := ce) (slots := sl) (e := e) (meth := meth) (g := F0 m pc ls ((As.map (g_cv ad)).reverse ++ .ref (ad b) :: st.map (g_cv ad))) (As := As.map (g_cv ad)) (rest := st.map (g_cv ad)) (n := As.length) ⟨hx, hb, hml, hown, hts⟩ hM ⟨callB_of As.length hts (g_good hy.2.2.2) rfl rfl rfl (hts _ hy.2.2.1) (hts _ hw) hd (by rw [hR]; exact ⟨hr1, hr2⟩), hts _ hy.1, hts _ hy.2.1⟩ ⟨g_blind, va_recv hK.1 hP hcls.1 hcell, fun U hU hW => ⟨rfl, by rw [hU], by rw [hU]; exact a2.weaken (fun _ _ _ => trivial), a3, hK.call a1.2 a4 hU hW (g_Fsub a2 a4), hok⟩⟩ rfl (List.length_map _) a7.1 rfl (lv_room hcat) (g_find_ok hT hf).1 (by rw [hR]; exact ⟨hR2.2.2.1, hR2.2.2.2.1⟩)
  have hA : ∀ q, g_F ad u H.size q → g_F ad0 u0 s.heap.size q := g_Fsub a2 a4
  intro T1 hT1 X
  rcases hrun T1 hT1 X with ⟨v, st₀, t, T', L, h0, X', hL, e1, e2, hz, stp⟩ | ⟨q9, st₀, t, T', L, En, ce9, h0, X', hL, e1, e2, ⟨hEn, ⟨ad', ⟨b1, bx⟩, b2, b3⟩, hz, hk⟩, hce, hcv, hcl, stp⟩
  · exact hz.elim
  · subst hEn
    rw [h0] at hz hk
    have a4' : va_S (g_F ad0 u0 s.heap.size) s.heap T'.heap (locs ++ L) := by
      refine ⟨by rw [e1]; exact Nat.le_trans a4.1 hz, fun q q1 q2 => ?_, fun z hz' => ?_⟩
      · rw [e1, hk q (Nat.lt_of_lt_of_le q1 a4.1) (fun h => q2 (hA q h))]
        exact a4.2.1 q q1 q2
      · rcases List.mem_append.mp hz' with h | h
        · exact a4.2.2 z h
        · exact hA _ (hL z h)
    have b2' : g_P D cy (g_F ad0 u0 s.heap.size) ad' oc.2 T'.heap := by
      rw [e1]; exact b2.weaken (fun a _ h => hA _ h)
    have hw9 : vx_W p l e R s m args below meth c T'.heap (locs ++ L) (ce + mc') (sl + ms') (MQ below (g_Q D cy ad0 u0 s.heap.size (some (vI 1), oc.2)) args s mc ms (g_F ad0 u0 s.heap.size)) (F0 m pc ls (st.map (g_cv ad))) q9 := by
      refine vx_catch hown [] ⟨0, 9, 12, 13⟩ [] hX (fun z hz => by cases hz) ?_ (by decide) (hts _ hwL) (g_fw_use th_c (hK.2.2.2.2.2.2.2.2.2.2.2 _ th_c)) (by rw [e1]; exact hce) hcv hcl ?_
      · show (decide (0 ≤ pc) && decide (pc < 9)) = true
        simp [hpc]
      · refine lv_astore_n hx hb (g_find_ok hT f12).1 rfl a7 (by rw [hnL]; exact h3) rfl (fun ls' hl' => ?_)
        refine lv_iconst hx hb (g_find_ok hT f13).1 rfl ?_
        refine W.widen hR2.2.2.1 hR2.2.2.2.1 ?_
        exact W.zret hx hb hrt rfl (fun t ht hW => ⟨⟨ad', ⟨fun a h => ⟨(b1 a (a1.1 a h).2).1.trans (a1.1 a h).1, (b1 a (a1.1 a h).2).2⟩, fun i => (bx i).trans (a1.2 i)⟩, rfl, by rw [ht]; exact b2', b3, fun v hv => by cases hv; trivial⟩, a4'.F ht⟩) a4'.2.2 (g_find_ok hT f14).1
    obtain ⟨t2, s2, z⟩ := hw9 T' rfl X'
    exact ⟨t2, stp.trans s2, z⟩
/-- a call of a static method with handlers -/
theorem r_callSH (J : g_J E cc own nm ret nL tab rk mc ms l) {y : MethodName} {cc' : ByteArray} {nL' rk' mc' ms' idx : Nat} {β : Type} {oc : Option β} {embc : β → gO} {kt : β → Option α} {stk As : List gV} {ret' : Option FieldType} {hh : List (Nat × Nat × Nat × Nat)}
    (hC : ∀ r, oc = some r → g_CtH l y cc' nL' ret' hh rk' mc' ms' As u (embc r)) (hw : Cond.methodLink own idx y ∈ g_tb) (hy : Cond.static y ∈ g_tb ∧ Cond.initialized y.cls ∈ g_tb ∧ Cond.codeWith y cc' nL' ret' hh ∈ g_tb)
    (hd : y.cls ≠ "java/lang/invoke/MethodHandle" ∧ y.cls ≠ "java/lang/invoke/VarHandle" ∧ (parseMethodDescriptor y.desc).map (fun d => d.parameters.length) = some As.length) (hR2 : rk' < rk ∧ nL' ≤ 41 ∧ ce + mc' ≤ mc ∧ sl + ms' ≤ ms ∧ (st.map g_cat).sum ≤ 8) (hf : g_find tab pc = some (.invokestatic idx, 3, iv)) (hstk : stk = As.reverse ++ st)
    (k : ∀ r, oc = some r → g_H E (ce + mc') (sl + ms') (pc + 3) lv ((embc r).1.toList ++ st) (embc r).2 (kt r) emb) : g_H E ce sl pc lv stk u (oc.bind kt) emb := by
  intro r hr
  obtain ⟨rc, hoc, hr⟩ := Option.bind_eq_some_iff.mp hr
  have hC := hC rc hoc
  have k := k rc hoc r hr
  obtain ⟨⟨⟨hx, hb, hml, hown, hts⟩, hrt, hlocks, hK⟩, hnL, hT, hE⟩ := J
  obtain ⟨p, l, e, R, s, m, args, below, meth, c, D, cy, ad0, u0, nL, mc, ms⟩ := E
  obtain ⟨rfl, hR, rfl, rfl, hnm⟩ := hE
  intro ad H locs ls a1 a2 a3 a4 a5 a6 a7
  subst hstk
  have hr1 : rk' + 1 ≤ rk := hR2.1
  have hr2 : 8 + (nL' + 11) + 60 * rk' ≤ 60 * rk := by have h1 := hR2.1; have h2 := hR2.2.1; omega
  have hcat : ((st.map (g_cv ad)).map fun v => v.category).sum ≤ 8 := by
    have h1 : ((st.map (g_cv ad)).map fun v => v.category) = st.map g_cat := by
      rw [List.map_map]; apply List.map_congr_left; intro v _; exact g_cat_cv ad v
    rw [h1]; exact hR2.2.2.2.2
  have e1 : (As.reverse ++ st).map (g_cv ad) = (As.map (g_cv ad)).reverse ++ st.map (g_cv ad) := by
    rw [List.map_append, List.map_reverse]
  rw [e1]
  have hM := hC D cy ad H.size
  have hG : GoodIn g_tb (.codeWith y cc' nL' ret' hh :: g_tb) := by
    intro w hw
    rcases List.mem_cons.mp hw with rfl | hw
    · exact ⟨hy.2.2, good_of_word (g_tb_good hy.2.2)⟩
    · exact ⟨hw, good_of_word (g_tb_good hw)⟩
  have hlen : ∀ sig, parseMethodDescriptor y.desc = some sig → As.length = sig.parameters.length := by
    intro sig h
    have h2 := hd.2.2
    rw [h] at h2
    exact (Option.some.inj h2).symm
  exact g_back (oc := embc rc) (st := st) (u := u) (vx_runSW (hh := hh) (As := As.map (g_cv ad)) (rest := st.map (g_cv ad)) (n := As.length) ⟨hx, hb, hml, hown, hts⟩ hM ⟨⟨rfl, rfl, by rw [hR]; exact hr1, by rw [hR]; exact hr2, pay_in hts hG, List.mem_cons_self⟩, hts _ hy.2.2, hts _ hy.2.1, ⟨hd.1, hd.2.1⟩, hlen, hts _ hw, hts _ hy.1⟩ ⟨g_blind, fun U hU hW => ⟨rfl, by rw [hU], by rw [hU]; exact a2.weaken (fun _ _ _ => trivial), a3, hK.call a1.2 a4 hU hW (g_Fsub a2 a4), fun v hv => a5 _ (List.mem_append_left _ (List.mem_reverse.mpr hv))⟩⟩ rfl (List.length_map _) a7.1 rfl (lv_room hcat) (g_find_ok hT hf).1 (by rw [hR]; exact ⟨hR2.2.2.1, hR2.2.2.2.1⟩)) a1 a2 a4 (fun v hv => a5 v (List.mem_append_right _ hv)) a6 a7 k
/-- the script's array: at the entry nothing of ours lies in the heap -/
def g_Xs (E : gE) (L : Nat) (xs : Nat → Int32) : Prop := match E with
  | (_, _, _, _, s, _, _, _, _, _, _, _, ad0, u0, _, _, _) => va_X (ad0 (g_EXT + 300)) L xs s s.heap ∧ ad0 (g_EXT + 300) < s.heap.size ∧ ∀ a, u0.1.1 a = none
theorem r_xlen (J : g_J E cc own nm ret nL tab rk mc ms l) {L : Nat} {xs : Nat → Int32} (hX : g_Xs E L xs) (hf : g_find tab pc = some (.arraylength, 1, iv)) (k : g_H E ce sl (pc + 1) lv (vI (Int32.ofNat L) :: st) u om emb) : g_H E ce sl pc lv (vE 300 :: st) u om emb := by
  intro r hr
  have k := k r hr
  obtain ⟨⟨⟨hx, hb, hml, hown, hts⟩, hrt, hlocks, hK⟩, hnL, hT, hE⟩ := J
  obtain ⟨p, l, e, R, s, m, args, below, meth, c, D, cy, ad0, u0, nL, mc, ms⟩ := E
  obtain ⟨hX, hlt, hu0⟩ := hX
  intro ad H locs ls a1 a2 a3 a4 a5 a6 a7
  obtain ⟨scr, h1, h2, h3, h4, h5⟩ := hX
  have hc : H[ad0 (g_EXT + 300)]? = some scr := by
    rw [a4.2.1 _ hlt (fun h => by rcases h with ⟨a, ha, -⟩ | h; exact ha (hu0 a); exact Nat.not_le.mpr hlt h)]; exact h1
  refine W.alen hx hb (a := ad0 (g_EXT + 300)) hc h2 (n := Int32.ofNat L) (by rw [h4]) rfl (rest := st.map (g_cv ad)) ?_ (g_find_ok hT hf).1 (k ad H locs ls a1 a2 a3 a4 (fun v hv => ?_) a6 a7)
  · show g_cv ad (vE 300) :: _ = _
    show Value.ref (ad (g_EXT + 300)) :: _ = _
    rw [a1.2]
  · rcases List.mem_cons.mp hv with rfl | hv
    · trivial
    · exact a5 v (List.mem_cons_of_mem _ hv)
theorem r_xld (J : g_J E cc own nm ret nL tab rk mc ms l) {L : Nat} {xs : Nat → Int32} (hX : g_Xs E L xs) {i : Int32} (hf : g_find tab pc = some (.iaload, 1, iv)) (k : g_in i L = true → g_H E ce sl (pc + 1) lv (vI (xs i.toNatClampNeg) :: st) u om emb) : g_H E ce sl pc lv (vI i :: vE 300 :: st) u (if g_in i L = true then om else none) emb := by
  intro r hr
  by_cases hi : g_in i L = true
  case neg => rw [if_neg hi] at hr; cases hr
  rw [if_pos hi] at hr
  have k := k hi r hr
  obtain ⟨⟨⟨hx, hb, hml, hown, hts⟩, hrt, hlocks, hK⟩, hnL, hT, hE⟩ := J
  obtain ⟨p, l, e, R, s, m, args, below, meth, c, D, cy, ad0, u0, nL, mc, ms⟩ := E
  obtain ⟨hX, hlt, hu0⟩ := hX
  intro ad H locs ls a1 a2 a3 a4 a5 a6 a7
  obtain ⟨scr, h1, h2, h3, h4, h5⟩ := hX
  have hin : ¬ (i < 0 ∨ L ≤ i.toNatClampNeg) := of_decide_eq_true hi
  have hc : H[ad0 (g_EXT + 300)]? = some scr := by
    rw [a4.2.1 _ hlt (fun h => by rcases h with ⟨a, ha, -⟩ | h; exact ha (hu0 a); exact Nat.not_le.mpr hlt h)]; exact h1
  refine W.iald hx hb (a := ad0 (g_EXT + 300)) hc h2 h3 (by rw [h4]; exact hin) (h5 _ (Nat.lt_of_not_le fun h => hin (Or.inr h))) rfl (rest := st.map (g_cv ad)) ?_ (g_find_ok hT hf).1 (k ad H locs ls a1 a2 a3 a4 (fun v hv => ?_) a6 a7)
  · show g_cv ad (vI i) :: g_cv ad (vE 300) :: _ = _
    show Value.int i :: Value.ref (ad (g_EXT + 300)) :: _ = _
    rw [a1.2]
  · rcases List.mem_cons.mp hv with rfl | hv
    · trivial
    · exact a5 v (List.mem_cons_of_mem _ (List.mem_cons_of_mem _ hv))
end GT
