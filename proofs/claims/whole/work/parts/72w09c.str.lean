def yS_length : MethodName := ⟨"java/lang/String", "length", "()I"⟩
theorem pl_S_length : plainName yS_length.cls = true := by decide +kernel
def yS_coder : MethodName := ⟨"java/lang/String", "coder", "()B"⟩
theorem pl_S_coder : plainName yS_coder.cls = true := by decide +kernel
def yS_charAt : MethodName := ⟨"java/lang/String", "charAt", "(I)C"⟩
theorem pl_S_charAt : plainName yS_charAt.cls = true := by decide +kernel
def yS_isLatin1 : MethodName := ⟨"java/lang/String", "isLatin1", "()Z"⟩
theorem pl_S_isLatin1 : plainName yS_isLatin1.cls = true := by decide +kernel
def yS_latCharAt : MethodName := ⟨"java/lang/StringLatin1", "charAt", "([BI)C"⟩
theorem pl_S_latCharAt : plainName yS_latCharAt.cls = true := by decide +kernel
def yS_checkIndex : MethodName := ⟨"java/lang/String", "checkIndex", "(II)V"⟩
theorem pl_S_checkIndex : plainName yS_checkIndex.cls = true := by decide +kernel
def yS_preCheck : MethodName := ⟨"jdk/internal/util/Preconditions", "checkIndex", "(IILjava/util/function/BiFunction;)I"⟩
theorem pl_S_preCheck : plainName yS_preCheck.cls = true := by decide +kernel
theorem wf_S_38 : Cond.fieldLink "java/lang/String" 38 "java/lang/String" "COMPACT_STRINGS" "Z" ∈ g_tb := g_tb_4 55 (by decide +kernel) (by decide +kernel)
theorem wf_S_1053 : Cond.fieldLink "java/lang/String" 1053 "jdk/internal/util/Preconditions" "SIOOBE_FORMATTER" "Ljava/util/function/BiFunction;" ∈ g_tb := g_tb_4 71 (by decide +kernel) (by decide +kernel)
theorem wf_S_9 : Cond.fieldLink "java/lang/String" 9 "java/lang/String" "value" "[B" ∈ g_tb := g_tb_8 122 (by decide +kernel) (by decide +kernel)
theorem wf_S_15 : Cond.fieldLink "java/lang/String" 15 "java/lang/String" "coder" "B" ∈ g_tb := g_tb_8 123 (by decide +kernel) (by decide +kernel)
theorem wm_7_143 : Cond.methodLink RX7 143 yS_length ∈ g_tb := g_tb_4 47 (by decide +kernel) (by decide +kernel)
theorem wm_S_335 : Cond.methodLink "java/lang/String" 335 yS_coder ∈ g_tb := g_tb_4 51 (by decide +kernel) (by decide +kernel)
theorem wm_7_148 : Cond.methodLink RX7 148 yS_charAt ∈ g_tb := g_tb_4 57 (by decide +kernel) (by decide +kernel)
theorem wm_S_492 : Cond.methodLink "java/lang/String" 492 yS_isLatin1 ∈ g_tb := g_tb_4 61 (by decide +kernel) (by decide +kernel)
theorem wm_S_495 : Cond.methodLink "java/lang/String" 495 yS_latCharAt ∈ g_tb := g_tb_4 65 (by decide +kernel) (by decide +kernel)
theorem wm_SL_9 : Cond.methodLink "java/lang/StringLatin1" 9 yS_checkIndex ∈ g_tb := g_tb_4 68 (by decide +kernel) (by decide +kernel)
theorem wm_S_1059 : Cond.methodLink "java/lang/String" 1059 yS_preCheck ∈ g_tb := g_tb_4 73 (by decide +kernel) (by decide +kernel)
theorem wy_S_length : Cond.instanceMethod yS_length ∈ g_tb ∧ Cond.selects "java/lang/String" yS_length yS_length ∈ g_tb ∧ Cond.initialized yS_length.cls ∈ g_tb ∧ Cond.code yS_length prog_19_method_54_code 1 (some .int) ∈ g_tb := ⟨g_tb_4 48 (by decide +kernel) (by decide +kernel), g_tb_4 49 (by decide +kernel) (by decide +kernel), g_tb_1 17 (by decide +kernel) (by decide +kernel), g_tb_4 50 (by decide +kernel) (by decide +kernel)⟩
theorem wd_S_length : yS_length.cls ≠ "java/lang/invoke/MethodHandle" ∧ yS_length.cls ≠ "java/lang/invoke/VarHandle" ∧ (parseMethodDescriptor yS_length.desc).map (fun d => d.parameters.length) = some 0 := by decide +kernel
theorem wy_S_coder : Cond.instanceMethod yS_coder ∈ g_tb ∧ Cond.selects "java/lang/String" yS_coder yS_coder ∈ g_tb ∧ Cond.initialized yS_coder.cls ∈ g_tb ∧ Cond.code yS_coder prog_19_method_152_code 1 (some .byte) ∈ g_tb := ⟨g_tb_4 52 (by decide +kernel) (by decide +kernel), g_tb_4 53 (by decide +kernel) (by decide +kernel), g_tb_1 17 (by decide +kernel) (by decide +kernel), g_tb_4 54 (by decide +kernel) (by decide +kernel)⟩
theorem wd_S_coder : yS_coder.cls ≠ "java/lang/invoke/MethodHandle" ∧ yS_coder.cls ≠ "java/lang/invoke/VarHandle" ∧ (parseMethodDescriptor yS_coder.desc).map (fun d => d.parameters.length) = some 0 := by decide +kernel
theorem wy_S_charAt : Cond.instanceMethod yS_charAt ∈ g_tb ∧ Cond.selects "java/lang/String" yS_charAt yS_charAt ∈ g_tb ∧ Cond.initialized yS_charAt.cls ∈ g_tb ∧ Cond.code yS_charAt prog_19_method_56_code 2 (some .char) ∈ g_tb := ⟨g_tb_4 58 (by decide +kernel) (by decide +kernel), g_tb_4 59 (by decide +kernel) (by decide +kernel), g_tb_1 17 (by decide +kernel) (by decide +kernel), g_tb_4 60 (by decide +kernel) (by decide +kernel)⟩
theorem wd_S_charAt : yS_charAt.cls ≠ "java/lang/invoke/MethodHandle" ∧ yS_charAt.cls ≠ "java/lang/invoke/VarHandle" ∧ (parseMethodDescriptor yS_charAt.desc).map (fun d => d.parameters.length) = some 1 := by decide +kernel
theorem wy_S_isLatin1 : Cond.instanceMethod yS_isLatin1 ∈ g_tb ∧ Cond.selects "java/lang/String" yS_isLatin1 yS_isLatin1 ∈ g_tb ∧ Cond.initialized yS_isLatin1.cls ∈ g_tb ∧ Cond.code yS_isLatin1 prog_19_method_154_code 1 (some .boolean) ∈ g_tb := ⟨g_tb_4 62 (by decide +kernel) (by decide +kernel), g_tb_4 63 (by decide +kernel) (by decide +kernel), g_tb_1 17 (by decide +kernel) (by decide +kernel), g_tb_4 64 (by decide +kernel) (by decide +kernel)⟩
theorem wd_S_isLatin1 : yS_isLatin1.cls ≠ "java/lang/invoke/MethodHandle" ∧ yS_isLatin1.cls ≠ "java/lang/invoke/VarHandle" ∧ (parseMethodDescriptor yS_isLatin1.desc).map (fun d => d.parameters.length) = some 0 := by decide +kernel
theorem wy_S_latCharAt : Cond.static yS_latCharAt ∈ g_tb ∧ Cond.initialized yS_latCharAt.cls ∈ g_tb ∧ Cond.code yS_latCharAt prog_20_method_2_code 2 (some .char) ∈ g_tb := ⟨g_tb_4 66 (by decide +kernel) (by decide +kernel), g_tb_1 18 (by decide +kernel) (by decide +kernel), g_tb_4 67 (by decide +kernel) (by decide +kernel)⟩
theorem wd_S_latCharAt : yS_latCharAt.cls ≠ "java/lang/invoke/MethodHandle" ∧ yS_latCharAt.cls ≠ "java/lang/invoke/VarHandle" ∧ (parseMethodDescriptor yS_latCharAt.desc).map (fun d => d.parameters.length) = some 2 := by decide +kernel
theorem wy_S_checkIndex : Cond.static yS_checkIndex ∈ g_tb ∧ Cond.initialized yS_checkIndex.cls ∈ g_tb ∧ Cond.code yS_checkIndex prog_19_method_155_code 2 none ∈ g_tb := ⟨g_tb_4 69 (by decide +kernel) (by decide +kernel), g_tb_1 17 (by decide +kernel) (by decide +kernel), g_tb_4 70 (by decide +kernel) (by decide +kernel)⟩
theorem wd_S_checkIndex : yS_checkIndex.cls ≠ "java/lang/invoke/MethodHandle" ∧ yS_checkIndex.cls ≠ "java/lang/invoke/VarHandle" ∧ (parseMethodDescriptor yS_checkIndex.desc).map (fun d => d.parameters.length) = some 2 := by decide +kernel
theorem wy_S_preCheck : Cond.static yS_preCheck ∈ g_tb ∧ Cond.initialized yS_preCheck.cls ∈ g_tb ∧ Cond.code yS_preCheck prog_25_method_11_code 3 (some .int) ∈ g_tb := ⟨g_tb_4 74 (by decide +kernel) (by decide +kernel), g_tb_1 19 (by decide +kernel) (by decide +kernel), g_tb_4 75 (by decide +kernel) (by decide +kernel)⟩
theorem wd_S_preCheck : yS_preCheck.cls ≠ "java/lang/invoke/MethodHandle" ∧ yS_preCheck.cls ≠ "java/lang/invoke/VarHandle" ∧ (parseMethodDescriptor yS_preCheck.desc).map (fun d => d.parameters.length) = some 3 := by decide +kernel
theorem ws_7_117 : (RX7, 117, "fee", 0) ∈ g_strs := List.mem_of_getElem? (i := 0) rfl
theorem ws_7_123 : (RX7, 123, "back", 1) ∈ g_strs := List.mem_of_getElem? (i := 1) rfl
theorem ws_7_125 : (RX7, 125, "refund", 2) ∈ g_strs := List.mem_of_getElem? (i := 2) rfl
theorem ws_7_127 : (RX7, 127, "free", 3) ∈ g_strs := List.mem_of_getElem? (i := 3) rfl
theorem ws_7_129 : (RX7, 129, "when", 4) ∈ g_strs := List.mem_of_getElem? (i := 4) rfl
theorem ws_7_131 : (RX7, 131, "and", 5) ∈ g_strs := List.mem_of_getElem? (i := 5) rfl
theorem ws_7_133 : (RX7, 133, "left", 6) ∈ g_strs := List.mem_of_getElem? (i := 6) rfl
theorem ws_7_135 : (RX7, 135, "held", 7) ∈ g_strs := List.mem_of_getElem? (i := 7) rfl
theorem ws_7_137 : (RX7, 137, "used", 8) ∈ g_strs := List.mem_of_getElem? (i := 8) rfl
theorem ws_7_139 : (RX7, 139, "people", 9) ∈ g_strs := List.mem_of_getElem? (i := 9) rfl
theorem ws_7_141 : (RX7, 141, "season", 10) ∈ g_strs := List.mem_of_getElem? (i := 10) rfl
theorem ws_11_287 : (RX11, 287, "no such night is closed", 11) ∈ g_strs := List.mem_of_getElem? (i := 11) rfl
theorem ws_11_295 : (RX11, 295, "no such person", 12) ∈ g_strs := List.mem_of_getElem? (i := 12) rfl
theorem g_k13_lt {i : Nat} (h : g_k13 i = true) : i < 13 := of_decide_eq_true h
theorem g_c_nar {x : Int32} (h : g_c x = true) : narrow .char (.int x) = .int x := congrArg Value.int (of_decide_eq_true h)
section GR
variable {α : Type} {E : gE} {cc : ByteArray} {own nm : String} {ret : Option FieldType} {nL : Nat} {tab : gT} {rk mc ms : Nat} {l : Launch} {ce sl pc : Nat} {lv : List (Nat × gV)} {st : List gV} {u : gU} {om : Option α} {emb : α → gO} {iv : Int32}
theorem r_ldcS (J : g_J E cc own nm ret nL tab rk mc ms l) {idx j : Nat} {tx : String} (hf : g_find tab pc = some (.ldc idx, 2, iv)) (hw : (own, idx, tx, j) ∈ g_strs) (k : g_H E ce sl (pc + 2) lv (vE j :: st) u om emb) : g_H E ce sl pc lv st u om emb := by
  intro r hr
  have k := k r hr
  obtain ⟨⟨⟨hx, hb, hml, hown, hts⟩, hrt, hlocks, hK⟩, hnL, hT, hE⟩ := J
  obtain ⟨p, l, e, R, s, m, args, below, meth, c, D, cy, ad0, u0, nL, mc, ms⟩ := E
  obtain ⟨rfl, hR, rfl, rfl, hnm⟩ := hE
  intro ad H locs ls a1 a2 a3 a4 a5 a6 a7
  have hZ := hK.2.2.2.2.2.2.1 _ hw
  dsimp only at hZ
  rw [← a1.2] at hZ
  exact va_ldcS hx hb hown hZ (g_find_ok hT hf).1 (k ad H locs ls a1 a2 a3 a4 (List.forall_mem_cons.mpr ⟨trivial, a5⟩) a6 a7)
theorem r_sval (J : g_J E cc own nm ret nL tab rk mc ms l) {idx i : Nat} (hf : g_find tab pc = some (.getfield idx, 3, iv)) (hw : Cond.fieldLink own idx "java/lang/String" "value" "[B" ∈ g_tb) (hi : i < 13) (k : g_H E ce sl (pc + 3) lv (vE (100 + i) :: st) u om emb) : g_H E ce sl pc lv (vE i :: st) u om emb := by
  intro r hr
  have k := k r hr
  obtain ⟨⟨⟨hx, hb, hml, hown, hts⟩, hrt, hlocks, hK⟩, hnL, hT, hE⟩ := J
  obtain ⟨p, l, e, R, s, m, args, below, meth, c, D, cy, ad0, u0, nL, mc, ms⟩ := E
  obtain ⟨rfl, hR, rfl, rfl, hnm⟩ := hE
  intro ad H locs ls a1 a2 a3 a4 a5 a6 a7
  have hZ := (hK.2.2.2.2.2.1.1 i hi).2.2.1
  dsimp only at hZ
  rw [← a1.2, ← a1.2] at hZ
  exact vk_getf (rest := st.map (g_cv ad)) hx hb hZ a4 hown (hts _ hw) (fun _ h => h) (g_find_ok hT hf).1 (k ad H locs ls a1 a2 a3 a4 (List.forall_mem_cons.mpr ⟨trivial, fun v hv => a5 v (List.mem_cons_of_mem _ hv)⟩) a6 a7)
theorem r_scod (J : g_J E cc own nm ret nL tab rk mc ms l) {idx i : Nat} (hf : g_find tab pc = some (.getfield idx, 3, iv)) (hw : Cond.fieldLink own idx "java/lang/String" "coder" "B" ∈ g_tb) (hi : i < 13) (k : g_H E ce sl (pc + 3) lv (vI 0 :: st) u om emb) : g_H E ce sl pc lv (vE i :: st) u om emb := by
  intro r hr
  have k := k r hr
  obtain ⟨⟨⟨hx, hb, hml, hown, hts⟩, hrt, hlocks, hK⟩, hnL, hT, hE⟩ := J
  obtain ⟨p, l, e, R, s, m, args, below, meth, c, D, cy, ad0, u0, nL, mc, ms⟩ := E
  obtain ⟨rfl, hR, rfl, rfl, hnm⟩ := hE
  intro ad H locs ls a1 a2 a3 a4 a5 a6 a7
  have hZ := (hK.2.2.2.2.2.1.1 i hi).2.1
  dsimp only at hZ
  rw [← a1.2] at hZ
  exact vk_getf (rest := st.map (g_cv ad)) hx hb hZ a4 hown (hts _ hw) (fun _ h => h) (g_find_ok hT hf).1 (k ad H locs ls a1 a2 a3 a4 (List.forall_mem_cons.mpr ⟨trivial, fun v hv => a5 v (List.mem_cons_of_mem _ hv)⟩) a6 a7)
theorem r_slen (J : g_J E cc own nm ret nL tab rk mc ms l) {i : Nat} (hf : g_find tab pc = some (.arraylength, 1, iv)) (hi : i < 13) (k : g_H E ce sl (pc + 1) lv (vI (Int32.ofNat (g_slen.getD i 0)) :: st) u om emb) : g_H E ce sl pc lv (vE (100 + i) :: st) u om emb := by
  intro r hr
  have k := k r hr
  obtain ⟨⟨⟨hx, hb, hml, hown, hts⟩, hrt, hlocks, hK⟩, hnL, hT, hE⟩ := J
  obtain ⟨p, l, e, R, s, m, args, below, meth, c, D, cy, ad0, u0, nL, mc, ms⟩ := E
  obtain ⟨rfl, hR, rfl, rfl, hnm⟩ := hE
  intro ad H locs ls a1 a2 a3 a4 a5 a6 a7
  have hZ := (hK.2.2.2.2.2.1.1 i hi).2.2.2
  dsimp only at hZ
  rw [← a1.2] at hZ
  exact va_tlen (rest := st.map (g_cv ad)) hx hb hZ a4 rfl (g_find_ok hT hf).1 (k ad H locs ls a1 a2 a3 a4 (List.forall_mem_cons.mpr ⟨trivial, fun v hv => a5 v (List.mem_cons_of_mem _ hv)⟩) a6 a7)
theorem r_sbald (J : g_J E cc own nm ret nL tab rk mc ms l) {i : Nat} {j : Int32} (hf : g_find tab pc = some (.baload, 1, iv)) (hi : i < 13) (k : g_in j (g_slen.getD i 0) = true → g_H E ce sl (pc + 1) lv (vI ((g_sbyt.getD i []).getD j.toNatClampNeg 0) :: st) u om emb) : g_H E ce sl pc lv (vI j :: vE (100 + i) :: st) u (if g_in j (g_slen.getD i 0) = true then om else none) emb := by
  intro r hr
  by_cases h : g_in j (g_slen.getD i 0) = true
  · rw [if_pos h] at hr
    have k := k h r hr
    obtain ⟨⟨⟨hx, hb, hml, hown, hts⟩, hrt, hlocks, hK⟩, hnL, hT, hE⟩ := J
    obtain ⟨p, l, e, R, s, m, args, below, meth, c, D, cy, ad0, u0, nL, mc, ms⟩ := E
    obtain ⟨rfl, hR, rfl, rfl, hnm⟩ := hE
    intro ad H locs ls a1 a2 a3 a4 a5 a6 a7
    have hZ := (hK.2.2.2.2.2.1.1 i hi).2.2.2
    dsimp only at hZ
    rw [← a1.2] at hZ
    exact va_tb (rest := st.map (g_cv ad)) hx hb hZ a4 (g_in_vp h) rfl (g_find_ok hT hf).1 (k ad H locs ls a1 a2 a3 a4 (List.forall_mem_cons.mpr ⟨trivial, fun v hv => a5 v (List.mem_cons_of_mem _ (List.mem_cons_of_mem _ hv))⟩) a6 a7)
  · rw [if_neg h] at hr; cases hr
theorem r_gscs (J : g_J E cc own nm ret nL tab rk mc ms l) {idx : Nat} (hf : g_find tab pc = some (.getstatic idx, 3, iv)) (hw : Cond.fieldLink own idx "java/lang/String" "COMPACT_STRINGS" "Z" ∈ g_tb) (k : g_H E ce sl (pc + 3) lv (vI 1 :: st) u om emb) : g_H E ce sl pc lv st u om emb := by
  intro r hr
  have k := k r hr
  obtain ⟨⟨⟨hx, hb, hml, hown, hts⟩, hrt, hlocks, hK⟩, hnL, hT, hE⟩ := J
  obtain ⟨p, l, e, R, s, m, args, below, meth, c, D, cy, ad0, u0, nL, mc, ms⟩ := E
  obtain ⟨rfl, hR, rfl, rfl, hnm⟩ := hE
  intro ad H locs ls a1 a2 a3 a4 a5 a6 a7
  exact va_gets hx hb hK.2.2.2.2.2.2.2.1 a4 hown (hts _ hw) (fun _ h => h) (g_find_ok hT hf).1 (k ad H locs ls a1 a2 a3 a4 (List.forall_mem_cons.mpr ⟨trivial, a5⟩) a6 a7)
theorem r_gsff (J : g_J E cc own nm ret nL tab rk mc ms l) {idx : Nat} (hf : g_find tab pc = some (.getstatic idx, 3, iv)) (hw : Cond.fieldLink own idx "jdk/internal/util/Preconditions" "SIOOBE_FORMATTER" "Ljava/util/function/BiFunction;" ∈ g_tb) (k : ∀ g : gV, g = vR 0 ∨ g = vE 200 → g_H E ce sl (pc + 3) lv (g :: st) u om emb) : g_H E ce sl pc lv st u om emb := by
  intro r hr
  have k1 := k (vR 0) (Or.inl rfl) r hr
  have k2 := k (vE 200) (Or.inr rfl) r hr
  obtain ⟨⟨⟨hx, hb, hml, hown, hts⟩, hrt, hlocks, hK⟩, hnL, hT, hE⟩ := J
  obtain ⟨p, l, e, R, s, m, args, below, meth, c, D, cy, ad0, u0, nL, mc, ms⟩ := E
  obtain ⟨rfl, hR, rfl, rfl, hnm⟩ := hE
  intro ad H locs ls a1 a2 a3 a4 a5 a6 a7
  rcases hK.2.2.2.2.2.2.2.2.1 with h | h
  · exact va_gets hx hb h a4 hown (hts _ hw) (fun _ h => h) (g_find_ok hT hf).1 (k1 ad H locs ls a1 a2 a3 a4 (List.forall_mem_cons.mpr ⟨Or.inl rfl, a5⟩) a6 a7)
  · dsimp only at h
    rw [← a1.2] at h
    exact va_gets hx hb h a4 hown (hts _ hw) (fun _ h => h) (g_find_ok hT hf).1 (k2 ad H locs ls a1 a2 a3 a4 (List.forall_mem_cons.mpr ⟨trivial, a5⟩) a6 a7)
/-- a method of a String constant -/
theorem r_callVE (J : g_J E cc own nm ret nL tab rk mc ms l) {y : MethodName} {cc' : ByteArray} {nL' rk' mc' ms' idx i : Nat} {β : Type} {oc : Option β} {embc : β → gO} {kt : β → Option α} {stk As : List gV} {ret' : Option FieldType}
    (hC : ∀ r, oc = some r → g_Ct l y cc' nL' ret' rk' mc' ms' (vE i :: As) u (embc r)) (hi : i < 13) (hw : Cond.methodLink own idx y ∈ g_tb) (hy : Cond.instanceMethod y ∈ g_tb ∧ Cond.selects "java/lang/String" y y ∈ g_tb ∧ Cond.initialized y.cls ∈ g_tb ∧ Cond.code y cc' nL' ret' ∈ g_tb)
    (hd : y.cls ≠ "java/lang/invoke/MethodHandle" ∧ y.cls ≠ "java/lang/invoke/VarHandle" ∧ (parseMethodDescriptor y.desc).map (fun d => d.parameters.length) = some As.length) (hR2 : rk' < rk ∧ nL' ≤ 41 ∧ ce + mc' ≤ mc ∧ sl + ms' ≤ ms ∧ (st.map g_cat).sum ≤ 8) (hf : g_find tab pc = some (.invokevirtual idx, 3, iv)) (hstk : stk = As.reverse ++ vE i :: st)
    (k : ∀ r, oc = some r → g_H E (ce + mc') (sl + ms') (pc + 3) lv ((embc r).1.toList ++ st) (embc r).2 (kt r) emb) : g_H E ce sl pc lv stk u (oc.bind kt) emb := by
  intro r hr
  obtain ⟨rc, hoc, hr⟩ := Option.bind_eq_some_iff.mp hr
  have hC := hC rc hoc
  have k := k rc hoc r hr
  obtain ⟨⟨⟨hx, hb, hml, hown, hts⟩, hrt, hlocks, hK⟩, hnL, hT, hE⟩ := J
  obtain ⟨p, l, e, R, s, m, args, below, meth, c, D, cy, ad0, u0, nL, mc, ms⟩ := E
  obtain ⟨rfl, hR, rfl, rfl, hnm⟩ := hE
  intro ad H locs ls a1 a2 a3 a4 a5 a6 a7
  subst hstk
  have hr1 : rk' + 1 ≤ rk := hR2.1
  have hr2 : 8 + (nL' + 11) + 60 * rk' ≤ 60 * rk := by have h1 := hR2.1; have h2 := hR2.2.1; omega
  have hcat : ((st.map (g_cv ad)).map fun v => v.category).sum ≤ 8 := by
    have h1 : ((st.map (g_cv ad)).map fun v => v.category) = st.map g_cat := by
      rw [List.map_map]; apply List.map_congr_left; intro v _; exact g_cat_cv ad v
    rw [h1]; exact hR2.2.2.2.2
  have e1 : (As.reverse ++ vE i :: st).map (g_cv ad) = (As.map (g_cv ad)).reverse ++ .ref (ad (g_EXT + i)) :: st.map (g_cv ad) := by
    rw [List.map_append, List.map_reverse, List.map_cons]; rfl
  rw [e1]
  have hM := hC D cy ad H.size
  have hrec := vk_recv hK.2.2.2.2.2.1 hi a4
  have hrec2 : ∃ cell : Cell, H[ad (g_EXT + i)]? = some cell ∧ cell.vm.isStatics = false ∧ s.vm.findClass "java/lang/String" = some cell.cls := by rw [a1.2]; exact hrec
  refine g_back (oc := embc rc) (st := st) (u := u) (va_runV (As := As.map (g_cv ad)) (rest := st.map (g_cv ad)) (n := As.length) ⟨hx, hb, hml, hown, hts⟩ hM ⟨callB_of As.length hts (g_good hy.2.2.2) rfl rfl rfl (hts _ hy.2.2.1) (hts _ hw) hd (by rw [hR]; exact ⟨hr1, hr2⟩), hts _ hy.1, hts _ hy.2.1⟩ ⟨g_blind, hrec2, fun U hU hW => ⟨rfl, by rw [hU], by rw [hU]; exact a2.weaken (fun _ _ _ => trivial), a3, hK.call a1.2 a4 hU hW (g_Fsub a2 a4), ?_⟩⟩ rfl (List.length_map _) a7.1 rfl (lv_room hcat) (g_find_ok hT hf).1 (by rw [hR]; exact ⟨hR2.2.2.1, hR2.2.2.2.1⟩)) a1 a2 a4 (fun v hv => a5 v (List.mem_append_right _ (List.mem_cons_of_mem _ hv))) a6 a7 k
  intro v hv
  rcases List.mem_cons.mp hv with rfl | hv
  · trivial
  · exact a5 _ (List.mem_append_left _ (List.mem_reverse.mpr hv))
end GR
