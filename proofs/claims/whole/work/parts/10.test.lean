def tb_J_bitCount : gT := [(0, .iload_n 0, 1, 0), (1, .iload_n 0, 1, 0), (2, .iconst 1, 1, 1), (3, .iushr, 1, 0), (4, .ldc_w 265, 3, 0), (7, .iand, 1, 0), (8, .isub, 1, 0), (9, .istore_n 0, 1, 0), (10, .iload_n 0, 1, 0), (11, .ldc_w 266, 3, 0), (14, .iand, 1, 0), (15, .iload_n 0, 1, 0), (16, .iconst 2, 1, 2), (17, .iushr, 1, 0), (18, .ldc_w 266, 3, 0), (21, .iand, 1, 0), (22, .iadd, 1, 0), (23, .istore_n 0, 1, 0), (24, .iload_n 0, 1, 0), (25, .iload_n 0, 1, 0), (26, .iconst 4, 1, 4), (27, .iushr, 1, 0), (28, .iadd, 1, 0), (29, .ldc_w 267, 3, 0), (32, .iand, 1, 0), (33, .istore_n 0, 1, 0), (34, .iload_n 0, 1, 0), (35, .iload_n 0, 1, 0), (36, .bipush 8, 2, 8), (38, .iushr, 1, 0), (39, .iadd, 1, 0), (40, .istore_n 0, 1, 0), (41, .iload_n 0, 1, 0), (42, .iload_n 0, 1, 0), (43, .bipush 16, 2, 16), (45, .iushr, 1, 0), (46, .iadd, 1, 0), (47, .istore_n 0, 1, 0), (48, .iload_n 0, 1, 0), (49, .bipush 63, 2, 63), (51, .iand, 1, 0), (52, .ireturn, 1, 0)]
set_option maxRecDepth 100000 in
theorem tk_J_bitCount : g_okT prog_16_method_49_code tb_J_bitCount = true := by decide +kernel
abbrev J_J_bitCount (E : gE) (l : Launch) : Prop := g_J E prog_16_method_49_code "java/lang/Integer" "bitCount" (some .int) 1 tb_J_bitCount 1 0 0 l
noncomputable def b_J_bitCount_0 (x0 : Int32) : Option (Int32) := some ((((((((x0 - (((x0.toUInt32 >>> ((1 : Int32).toUInt32 &&& Int32.toUInt32 31)).toInt32) &&& (1431655765 : Int32))) &&& (858993459 : Int32)) + ((((x0 - (((x0.toUInt32 >>> ((1 : Int32).toUInt32 &&& Int32.toUInt32 31)).toInt32) &&& (1431655765 : Int32))).toUInt32 >>> ((2 : Int32).toUInt32 &&& Int32.toUInt32 31)).toInt32) &&& (858993459 : Int32))) + (((((x0 - (((x0.toUInt32 >>> ((1 : Int32).toUInt32 &&& Int32.toUInt32 31)).toInt32) &&& (1431655765 : Int32))) &&& (858993459 : Int32)) + ((((x0 - (((x0.toUInt32 >>> ((1 : Int32).toUInt32 &&& Int32.toUInt32 31)).toInt32) &&& (1431655765 : Int32))).toUInt32 >>> ((2 : Int32).toUInt32 &&& Int32.toUInt32 31)).toInt32) &&& (858993459 : Int32))).toUInt32 >>> ((4 : Int32).toUInt32 &&& Int32.toUInt32 31)).toInt32)) &&& (252645135 : Int32)) + (((((((x0 - (((x0.toUInt32 >>> ((1 : Int32).toUInt32 &&& Int32.toUInt32 31)).toInt32) &&& (1431655765 : Int32))) &&& (858993459 : Int32)) + ((((x0 - (((x0.toUInt32 >>> ((1 : Int32).toUInt32 &&& Int32.toUInt32 31)).toInt32) &&& (1431655765 : Int32))).toUInt32 >>> ((2 : Int32).toUInt32 &&& Int32.toUInt32 31)).toInt32) &&& (858993459 : Int32))) + (((((x0 - (((x0.toUInt32 >>> ((1 : Int32).toUInt32 &&& Int32.toUInt32 31)).toInt32) &&& (1431655765 : Int32))) &&& (858993459 : Int32)) + ((((x0 - (((x0.toUInt32 >>> ((1 : Int32).toUInt32 &&& Int32.toUInt32 31)).toInt32) &&& (1431655765 : Int32))).toUInt32 >>> ((2 : Int32).toUInt32 &&& Int32.toUInt32 31)).toInt32) &&& (858993459 : Int32))).toUInt32 >>> ((4 : Int32).toUInt32 &&& Int32.toUInt32 31)).toInt32)) &&& (252645135 : Int32)).toUInt32 >>> ((8 : Int32).toUInt32 &&& Int32.toUInt32 31)).toInt32)) + ((((((((x0 - (((x0.toUInt32 >>> ((1 : Int32).toUInt32 &&& Int32.toUInt32 31)).toInt32) &&& (1431655765 : Int32))) &&& (858993459 : Int32)) + ((((x0 - (((x0.toUInt32 >>> ((1 : Int32).toUInt32 &&& Int32.toUInt32 31)).toInt32) &&& (1431655765 : Int32))).toUInt32 >>> ((2 : Int32).toUInt32 &&& Int32.toUInt32 31)).toInt32) &&& (858993459 : Int32))) + (((((x0 - (((x0.toUInt32 >>> ((1 : Int32).toUInt32 &&& Int32.toUInt32 31)).toInt32) &&& (1431655765 : Int32))) &&& (858993459 : Int32)) + ((((x0 - (((x0.toUInt32 >>> ((1 : Int32).toUInt32 &&& Int32.toUInt32 31)).toInt32) &&& (1431655765 : Int32))).toUInt32 >>> ((2 : Int32).toUInt32 &&& Int32.toUInt32 31)).toInt32) &&& (858993459 : Int32))).toUInt32 >>> ((4 : Int32).toUInt32 &&& Int32.toUInt32 31)).toInt32)) &&& (252645135 : Int32)) + (((((((x0 - (((x0.toUInt32 >>> ((1 : Int32).toUInt32 &&& Int32.toUInt32 31)).toInt32) &&& (1431655765 : Int32))) &&& (858993459 : Int32)) + ((((x0 - (((x0.toUInt32 >>> ((1 : Int32).toUInt32 &&& Int32.toUInt32 31)).toInt32) &&& (1431655765 : Int32))).toUInt32 >>> ((2 : Int32).toUInt32 &&& Int32.toUInt32 31)).toInt32) &&& (858993459 : Int32))) + (((((x0 - (((x0.toUInt32 >>> ((1 : Int32).toUInt32 &&& Int32.toUInt32 31)).toInt32) &&& (1431655765 : Int32))) &&& (858993459 : Int32)) + ((((x0 - (((x0.toUInt32 >>> ((1 : Int32).toUInt32 &&& Int32.toUInt32 31)).toInt32) &&& (1431655765 : Int32))).toUInt32 >>> ((2 : Int32).toUInt32 &&& Int32.toUInt32 31)).toInt32) &&& (858993459 : Int32))).toUInt32 >>> ((4 : Int32).toUInt32 &&& Int32.toUInt32 31)).toInt32)) &&& (252645135 : Int32)).toUInt32 >>> ((8 : Int32).toUInt32 &&& Int32.toUInt32 31)).toInt32)).toUInt32 >>> ((16 : Int32).toUInt32 &&& Int32.toUInt32 31)).toInt32)) &&& (63 : Int32))
set_option maxHeartbeats 4000000 in
set_option maxRecDepth 100000 in
theorem p_J_bitCount_0 {l : Launch} {E : gE} (J : J_J_bitCount E l) (x0 : Int32) (σ : gS) (M : gM) (N : gN) : g_H E 0 0 0 [(0, vI x0)] [] (σ, M, N) (b_J_bitCount_0 x0) (eI σ M N) := by
  unfold b_J_bitCount_0
  refine r_run J 4 (pc' := 4) (lv' := [(0, vI x0)]) (st' := [vI ((x0.toUInt32 >>> ((1 : Int32).toUInt32 &&& Int32.toUInt32 31)).toInt32), vI x0]) rfl ?_
  refine r_ldcw J rfl wc_Int_265 ?_
  refine r_run J 4 (pc' := 11) (lv' := [(0, vI (x0 - (((x0.toUInt32 >>> ((1 : Int32).toUInt32 &&& Int32.toUInt32 31)).toInt32) &&& (1431655765 : Int32))))]) (st' := [vI (x0 - (((x0.toUInt32 >>> ((1 : Int32).toUInt32 &&& Int32.toUInt32 31)).toInt32) &&& (1431655765 : Int32)))]) rfl ?_
  refine r_ldcw J rfl wc_Int_266 ?_
  refine r_run J 4 (pc' := 18) (lv' := [(0, vI (x0 - (((x0.toUInt32 >>> ((1 : Int32).toUInt32 &&& Int32.toUInt32 31)).toInt32) &&& (1431655765 : Int32))))]) (st' := [vI (((x0 - (((x0.toUInt32 >>> ((1 : Int32).toUInt32 &&& Int32.toUInt32 31)).toInt32) &&& (1431655765 : Int32))).toUInt32 >>> ((2 : Int32).toUInt32 &&& Int32.toUInt32 31)).toInt32), vI ((x0 - (((x0.toUInt32 >>> ((1 : Int32).toUInt32 &&& Int32.toUInt32 31)).toInt32) &&& (1431655765 : Int32))) &&& (858993459 : Int32))]) rfl ?_
  refine r_ldcw J rfl wc_Int_266 ?_
  refine r_run J 8 (pc' := 29) (lv' := [(0, vI (((x0 - (((x0.toUInt32 >>> ((1 : Int32).toUInt32 &&& Int32.toUInt32 31)).toInt32) &&& (1431655765 : Int32))) &&& (858993459 : Int32)) + ((((x0 - (((x0.toUInt32 >>> ((1 : Int32).toUInt32 &&& Int32.toUInt32 31)).toInt32) &&& (1431655765 : Int32))).toUInt32 >>> ((2 : Int32).toUInt32 &&& Int32.toUInt32 31)).toInt32) &&& (858993459 : Int32))))]) (st' := [vI ((((x0 - (((x0.toUInt32 >>> ((1 : Int32).toUInt32 &&& Int32.toUInt32 31)).toInt32) &&& (1431655765 : Int32))) &&& (858993459 : Int32)) + ((((x0 - (((x0.toUInt32 >>> ((1 : Int32).toUInt32 &&& Int32.toUInt32 31)).toInt32) &&& (1431655765 : Int32))).toUInt32 >>> ((2 : Int32).toUInt32 &&& Int32.toUInt32 31)).toInt32) &&& (858993459 : Int32))) + (((((x0 - (((x0.toUInt32 >>> ((1 : Int32).toUInt32 &&& Int32.toUInt32 31)).toInt32) &&& (1431655765 : Int32))) &&& (858993459 : Int32)) + ((((x0 - (((x0.toUInt32 >>> ((1 : Int32).toUInt32 &&& Int32.toUInt32 31)).toInt32) &&& (1431655765 : Int32))).toUInt32 >>> ((2 : Int32).toUInt32 &&& Int32.toUInt32 31)).toInt32) &&& (858993459 : Int32))).toUInt32 >>> ((4 : Int32).toUInt32 &&& Int32.toUInt32 31)).toInt32))]) rfl ?_
  refine r_ldcw J rfl wc_Int_267 ?_
  refine r_run J 17 (pc' := 52) (lv' := [(0, vI (((((((x0 - (((x0.toUInt32 >>> ((1 : Int32).toUInt32 &&& Int32.toUInt32 31)).toInt32) &&& (1431655765 : Int32))) &&& (858993459 : Int32)) + ((((x0 - (((x0.toUInt32 >>> ((1 : Int32).toUInt32 &&& Int32.toUInt32 31)).toInt32) &&& (1431655765 : Int32))).toUInt32 >>> ((2 : Int32).toUInt32 &&& Int32.toUInt32 31)).toInt32) &&& (858993459 : Int32))) + (((((x0 - (((x0.toUInt32 >>> ((1 : Int32).toUInt32 &&& Int32.toUInt32 31)).toInt32) &&& (1431655765 : Int32))) &&& (858993459 : Int32)) + ((((x0 - (((x0.toUInt32 >>> ((1 : Int32).toUInt32 &&& Int32.toUInt32 31)).toInt32) &&& (1431655765 : Int32))).toUInt32 >>> ((2 : Int32).toUInt32 &&& Int32.toUInt32 31)).toInt32) &&& (858993459 : Int32))).toUInt32 >>> ((4 : Int32).toUInt32 &&& Int32.toUInt32 31)).toInt32)) &&& (252645135 : Int32)) + (((((((x0 - (((x0.toUInt32 >>> ((1 : Int32).toUInt32 &&& Int32.toUInt32 31)).toInt32) &&& (1431655765 : Int32))) &&& (858993459 : Int32)) + ((((x0 - (((x0.toUInt32 >>> ((1 : Int32).toUInt32 &&& Int32.toUInt32 31)).toInt32) &&& (1431655765 : Int32))).toUInt32 >>> ((2 : Int32).toUInt32 &&& Int32.toUInt32 31)).toInt32) &&& (858993459 : Int32))) + (((((x0 - (((x0.toUInt32 >>> ((1 : Int32).toUInt32 &&& Int32.toUInt32 31)).toInt32) &&& (1431655765 : Int32))) &&& (858993459 : Int32)) + ((((x0 - (((x0.toUInt32 >>> ((1 : Int32).toUInt32 &&& Int32.toUInt32 31)).toInt32) &&& (1431655765 : Int32))).toUInt32 >>> ((2 : Int32).toUInt32 &&& Int32.toUInt32 31)).toInt32) &&& (858993459 : Int32))).toUInt32 >>> ((4 : Int32).toUInt32 &&& Int32.toUInt32 31)).toInt32)) &&& (252645135 : Int32)).toUInt32 >>> ((8 : Int32).toUInt32 &&& Int32.toUInt32 31)).toInt32)) + ((((((((x0 - (((x0.toUInt32 >>> ((1 : Int32).toUInt32 &&& Int32.toUInt32 31)).toInt32) &&& (1431655765 : Int32))) &&& (858993459 : Int32)) + ((((x0 - (((x0.toUInt32 >>> ((1 : Int32).toUInt32 &&& Int32.toUInt32 31)).toInt32) &&& (1431655765 : Int32))).toUInt32 >>> ((2 : Int32).toUInt32 &&& Int32.toUInt32 31)).toInt32) &&& (858993459 : Int32))) + (((((x0 - (((x0.toUInt32 >>> ((1 : Int32).toUInt32 &&& Int32.toUInt32 31)).toInt32) &&& (1431655765 : Int32))) &&& (858993459 : Int32)) + ((((x0 - (((x0.toUInt32 >>> ((1 : Int32).toUInt32 &&& Int32.toUInt32 31)).toInt32) &&& (1431655765 : Int32))).toUInt32 >>> ((2 : Int32).toUInt32 &&& Int32.toUInt32 31)).toInt32) &&& (858993459 : Int32))).toUInt32 >>> ((4 : Int32).toUInt32 &&& Int32.toUInt32 31)).toInt32)) &&& (252645135 : Int32)) + (((((((x0 - (((x0.toUInt32 >>> ((1 : Int32).toUInt32 &&& Int32.toUInt32 31)).toInt32) &&& (1431655765 : Int32))) &&& (858993459 : Int32)) + ((((x0 - (((x0.toUInt32 >>> ((1 : Int32).toUInt32 &&& Int32.toUInt32 31)).toInt32) &&& (1431655765 : Int32))).toUInt32 >>> ((2 : Int32).toUInt32 &&& Int32.toUInt32 31)).toInt32) &&& (858993459 : Int32))) + (((((x0 - (((x0.toUInt32 >>> ((1 : Int32).toUInt32 &&& Int32.toUInt32 31)).toInt32) &&& (1431655765 : Int32))) &&& (858993459 : Int32)) + ((((x0 - (((x0.toUInt32 >>> ((1 : Int32).toUInt32 &&& Int32.toUInt32 31)).toInt32) &&& (1431655765 : Int32))).toUInt32 >>> ((2 : Int32).toUInt32 &&& Int32.toUInt32 31)).toInt32) &&& (858993459 : Int32))).toUInt32 >>> ((4 : Int32).toUInt32 &&& Int32.toUInt32 31)).toInt32)) &&& (252645135 : Int32)).toUInt32 >>> ((8 : Int32).toUInt32 &&& Int32.toUInt32 31)).toInt32)).toUInt32 >>> ((16 : Int32).toUInt32 &&& Int32.toUInt32 31)).toInt32)))]) (st' := [vI ((((((((x0 - (((x0.toUInt32 >>> ((1 : Int32).toUInt32 &&& Int32.toUInt32 31)).toInt32) &&& (1431655765 : Int32))) &&& (858993459 : Int32)) + ((((x0 - (((x0.toUInt32 >>> ((1 : Int32).toUInt32 &&& Int32.toUInt32 31)).toInt32) &&& (1431655765 : Int32))).toUInt32 >>> ((2 : Int32).toUInt32 &&& Int32.toUInt32 31)).toInt32) &&& (858993459 : Int32))) + (((((x0 - (((x0.toUInt32 >>> ((1 : Int32).toUInt32 &&& Int32.toUInt32 31)).toInt32) &&& (1431655765 : Int32))) &&& (858993459 : Int32)) + ((((x0 - (((x0.toUInt32 >>> ((1 : Int32).toUInt32 &&& Int32.toUInt32 31)).toInt32) &&& (1431655765 : Int32))).toUInt32 >>> ((2 : Int32).toUInt32 &&& Int32.toUInt32 31)).toInt32) &&& (858993459 : Int32))).toUInt32 >>> ((4 : Int32).toUInt32 &&& Int32.toUInt32 31)).toInt32)) &&& (252645135 : Int32)) + (((((((x0 - (((x0.toUInt32 >>> ((1 : Int32).toUInt32 &&& Int32.toUInt32 31)).toInt32) &&& (1431655765 : Int32))) &&& (858993459 : Int32)) + ((((x0 - (((x0.toUInt32 >>> ((1 : Int32).toUInt32 &&& Int32.toUInt32 31)).toInt32) &&& (1431655765 : Int32))).toUInt32 >>> ((2 : Int32).toUInt32 &&& Int32.toUInt32 31)).toInt32) &&& (858993459 : Int32))) + (((((x0 - (((x0.toUInt32 >>> ((1 : Int32).toUInt32 &&& Int32.toUInt32 31)).toInt32) &&& (1431655765 : Int32))) &&& (858993459 : Int32)) + ((((x0 - (((x0.toUInt32 >>> ((1 : Int32).toUInt32 &&& Int32.toUInt32 31)).toInt32) &&& (1431655765 : Int32))).toUInt32 >>> ((2 : Int32).toUInt32 &&& Int32.toUInt32 31)).toInt32) &&& (858993459 : Int32))).toUInt32 >>> ((4 : Int32).toUInt32 &&& Int32.toUInt32 31)).toInt32)) &&& (252645135 : Int32)).toUInt32 >>> ((8 : Int32).toUInt32 &&& Int32.toUInt32 31)).toInt32)) + ((((((((x0 - (((x0.toUInt32 >>> ((1 : Int32).toUInt32 &&& Int32.toUInt32 31)).toInt32) &&& (1431655765 : Int32))) &&& (858993459 : Int32)) + ((((x0 - (((x0.toUInt32 >>> ((1 : Int32).toUInt32 &&& Int32.toUInt32 31)).toInt32) &&& (1431655765 : Int32))).toUInt32 >>> ((2 : Int32).toUInt32 &&& Int32.toUInt32 31)).toInt32) &&& (858993459 : Int32))) + (((((x0 - (((x0.toUInt32 >>> ((1 : Int32).toUInt32 &&& Int32.toUInt32 31)).toInt32) &&& (1431655765 : Int32))) &&& (858993459 : Int32)) + ((((x0 - (((x0.toUInt32 >>> ((1 : Int32).toUInt32 &&& Int32.toUInt32 31)).toInt32) &&& (1431655765 : Int32))).toUInt32 >>> ((2 : Int32).toUInt32 &&& Int32.toUInt32 31)).toInt32) &&& (858993459 : Int32))).toUInt32 >>> ((4 : Int32).toUInt32 &&& Int32.toUInt32 31)).toInt32)) &&& (252645135 : Int32)) + (((((((x0 - (((x0.toUInt32 >>> ((1 : Int32).toUInt32 &&& Int32.toUInt32 31)).toInt32) &&& (1431655765 : Int32))) &&& (858993459 : Int32)) + ((((x0 - (((x0.toUInt32 >>> ((1 : Int32).toUInt32 &&& Int32.toUInt32 31)).toInt32) &&& (1431655765 : Int32))).toUInt32 >>> ((2 : Int32).toUInt32 &&& Int32.toUInt32 31)).toInt32) &&& (858993459 : Int32))) + (((((x0 - (((x0.toUInt32 >>> ((1 : Int32).toUInt32 &&& Int32.toUInt32 31)).toInt32) &&& (1431655765 : Int32))) &&& (858993459 : Int32)) + ((((x0 - (((x0.toUInt32 >>> ((1 : Int32).toUInt32 &&& Int32.toUInt32 31)).toInt32) &&& (1431655765 : Int32))).toUInt32 >>> ((2 : Int32).toUInt32 &&& Int32.toUInt32 31)).toInt32) &&& (858993459 : Int32))).toUInt32 >>> ((4 : Int32).toUInt32 &&& Int32.toUInt32 31)).toInt32)) &&& (252645135 : Int32)).toUInt32 >>> ((8 : Int32).toUInt32 &&& Int32.toUInt32 31)).toInt32)).toUInt32 >>> ((16 : Int32).toUInt32 &&& Int32.toUInt32 31)).toInt32)) &&& (63 : Int32))]) rfl ?_
  exact r_iret J rfl rfl rfl rfl (by decide) (by decide)
noncomputable def f_J_bitCount (x0 : Int32) : Option (Int32) := b_J_bitCount_0 x0
theorem c_J_bitCount {l : Launch} (x0 : Int32) (σ : gS) (M : gM) (N : gN) (r : Int32) (h : f_J_bitCount x0 = some r) : g_Ct l yJ_bitCount prog_16_method_49_code 1 (some .int) 1 0 0 [vI x0] (σ, M, N) (eI σ M N r) :=
  g_Ct.of tb_J_bitCount (by decide +kernel) tk_J_bitCount (Nat.le_of_ble_eq_true rfl) (fun E J => p_J_bitCount_0 J x0 σ M N r h)
def tb_X12_in : gT := [(0, .iload_n 0, 1, 0), (1, .iload_n 1, 1, 0), (2, .if_icmp .lt 12, 3, 0), (5, .iload_n 0, 1, 0), (6, .iload_n 2, 1, 0), (7, .if_icmp .gt 7, 3, 0), (10, .iconst 1, 1, 1), (11, .goto 4, 3, 0), (14, .iconst 0, 1, 0), (15, .ireturn, 1, 0)]
set_option maxRecDepth 100000 in
theorem tk_X12_in : g_okT cX12_in tb_X12_in = true := by decide +kernel
abbrev J_X12_in (E : gE) (l : Launch) : Prop := g_J E cX12_in RX12 "in" (some .boolean) 3 tb_X12_in 1 0 0 l
noncomputable def b_X12_in_0 (x0 : Int32) (x1 : Int32) (x2 : Int32) : Option (Int32) := if x0 < x1 then some 0 else if x2 < x0 then some 0 else some 1
set_option maxHeartbeats 4000000 in
set_option maxRecDepth 100000 in
theorem p_X12_in_0 {l : Launch} {E : gE} (J : J_X12_in E l) (x0 : Int32) (x1 : Int32) (x2 : Int32) (σ : gS) (M : gM) (N : gN) (hL : g_layM σ) : g_H E 0 0 0 [(0, vI x0), (1, vI x1), (2, vI x2)] [] (σ, M, N) (b_X12_in_0 x0 x1 x2) (eI σ M N) := by
  unfold b_X12_in_0
  refine r_run J 2 (pc' := 2) (lv' := [(0, vI x0), (1, vI x1), (2, vI x2)]) (st' := [vI x1, vI x0]) rfl ?_
  refine r_icmp_lt J (tgt := 14) rfl (by decide) (fun c2 => ?_) (fun c2 => ?_)
  · refine r_run J 1 (pc' := 15) (lv' := [(0, vI x0), (1, vI x1), (2, vI x2)]) (st' := [vI 0]) rfl ?_
    exact r_iret J rfl rfl rfl rfl (by decide) (by decide)
  · refine r_run J 2 (pc' := 7) (lv' := [(0, vI x0), (1, vI x1), (2, vI x2)]) (st' := [vI x2, vI x0]) rfl ?_
    refine r_icmp_gt J (tgt := 14) rfl (by decide) (fun c7 => ?_) (fun c7 => ?_)
    · refine r_run J 1 (pc' := 15) (lv' := [(0, vI x0), (1, vI x1), (2, vI x2)]) (st' := [vI 0]) rfl ?_
      exact r_iret J rfl rfl rfl rfl (by decide) (by decide)
    · refine r_run J 2 (pc' := 15) (lv' := [(0, vI x0), (1, vI x1), (2, vI x2)]) (st' := [vI 1]) rfl ?_
      exact r_iret J rfl rfl rfl rfl (by decide) (by decide)
noncomputable def f_X12_in (x0 : Int32) (x1 : Int32) (x2 : Int32) : Option (Int32) := b_X12_in_0 x0 x1 x2
theorem c_X12_in {l : Launch} (x0 : Int32) (x1 : Int32) (x2 : Int32) (σ : gS) (M : gM) (N : gN) (hL : g_layM σ) (r : Int32) (h : f_X12_in x0 x1 x2 = some r) : g_Ct l yX12_in cX12_in 3 (some .boolean) 1 0 0 [vI x0, vI x1, vI x2] (σ, M, N) (eI σ M N r) :=
  g_Ct.of tb_X12_in (by decide +kernel) tk_X12_in (Nat.le_of_ble_eq_true rfl) (fun E J => p_X12_in_0 J x0 x1 x2 σ M N hL r h)
def tb_X12_isPerson : gT := [(0, .iload_n 1, 1, 0), (1, .iconst 0, 1, 0), (2, .aload_n 0, 1, 0), (3, .getfield 157, 3, 0), (6, .iconst 1, 1, 1), (7, .isub, 1, 0), (8, .invokestatic 160, 3, 0), (11, .ireturn, 1, 0)]
set_option maxRecDepth 100000 in
theorem tk_X12_isPerson : g_okT cX12_isPerson tb_X12_isPerson = true := by decide +kernel
abbrev J_X12_isPerson (E : gE) (l : Launch) : Prop := g_J E cX12_isPerson RX12 "isPerson" (some .boolean) 2 tb_X12_isPerson 2 0 0 l
noncomputable def b_X12_isPerson_0 (x1 : Int32) (σ : gS) (M : gM) : Option (Int32) := (f_X12_in x1 0 ((M 40 1) - (1 : Int32))).bind fun q8 => if g_b q8 = true then some q8 else none
set_option maxHeartbeats 4000000 in
set_option maxRecDepth 100000 in
theorem p_X12_isPerson_0 {l : Launch} {E : gE} (J : J_X12_isPerson E l) (x1 : Int32) (σ : gS) (M : gM) (N : gN) (hL : g_layM σ) : g_H E 0 0 0 [(0, vR 40), (1, vI x1)] [] (σ, M, N) (b_X12_isPerson_0 x1 σ M) (eI σ M N) := by
  unfold b_X12_isPerson_0
  refine r_run J 3 (pc' := 3) (lv' := [(0, vR 40), (1, vI x1)]) (st' := [vR 40, vI 0, vI x1]) rfl ?_
  refine r_getI J cls12 rfl (k := 1) (by decide) wf_12_157 rfl (ly_40 hL) ?_
  show g_H E 0 0 6 [(0, vR 40), (1, vI x1)] [vI (M 40 1), vI 0, vI x1] (σ, M, N) _ _
  refine r_run J 2 (pc' := 8) (lv' := [(0, vR 40), (1, vI x1)]) (st' := [vI ((M 40 1) - (1 : Int32)), vI 0, vI x1]) rfl ?_
  refine r_callS J (As := [vI x1, vI 0, vI ((M 40 1) - (1 : Int32))]) (st := []) (fun r hr => c_X12_in x1 0 ((M 40 1) - (1 : Int32)) σ M N hL r hr) wm_12_160 wy_X12_in wd_X12_in ⟨by decide, by decide, by decide, by decide, Nat.le_of_ble_eq_true rfl⟩ rfl rfl (fun q8 hq8 => ?_)
  show g_H E 0 0 11 [(0, vR 40), (1, vI x1)] [vI q8] (σ, M, N) _ _
  refine r_chk (fun hz => ?_)
  exact r_iret J rfl rfl (g_b_nar hz) rfl (by decide) (by decide)
noncomputable def f_X12_isPerson (x1 : Int32) (σ : gS) (M : gM) : Option (Int32) := b_X12_isPerson_0 x1 σ M
theorem c_X12_isPerson {l : Launch} (x1 : Int32) (σ : gS) (M : gM) (N : gN) (hL : g_layM σ) (r : Int32) (h : f_X12_isPerson x1 σ M = some r) : g_Ct l yX12_isPerson cX12_isPerson 2 (some .boolean) 2 0 0 [vR 40, vI x1] (σ, M, N) (eI σ M N r) :=
  g_Ct.of tb_X12_isPerson (by decide +kernel) tk_X12_isPerson (Nat.le_of_ble_eq_true rfl) (fun E J => p_X12_isPerson_0 J x1 σ M N hL r h)
def tb_X12_isTown : gT := [(0, .iload_n 1, 1, 0), (1, .iconst 0, 1, 0), (2, .aload_n 0, 1, 0), (3, .getfield 164, 3, 0), (6, .iconst 1, 1, 1), (7, .isub, 1, 0), (8, .invokestatic 160, 3, 0), (11, .ireturn, 1, 0)]
set_option maxRecDepth 100000 in
theorem tk_X12_isTown : g_okT cX12_isTown tb_X12_isTown = true := by decide +kernel
abbrev J_X12_isTown (E : gE) (l : Launch) : Prop := g_J E cX12_isTown RX12 "isTown" (some .boolean) 2 tb_X12_isTown 2 0 0 l
noncomputable def b_X12_isTown_0 (x1 : Int32) (σ : gS) (M : gM) : Option (Int32) := (f_X12_in x1 0 ((M 40 11) - (1 : Int32))).bind fun q8 => if g_b q8 = true then some q8 else none
set_option maxHeartbeats 4000000 in
set_option maxRecDepth 100000 in
theorem p_X12_isTown_0 {l : Launch} {E : gE} (J : J_X12_isTown E l) (x1 : Int32) (σ : gS) (M : gM) (N : gN) (hL : g_layM σ) : g_H E 0 0 0 [(0, vR 40), (1, vI x1)] [] (σ, M, N) (b_X12_isTown_0 x1 σ M) (eI σ M N) := by
  unfold b_X12_isTown_0
  refine r_run J 3 (pc' := 3) (lv' := [(0, vR 40), (1, vI x1)]) (st' := [vR 40, vI 0, vI x1]) rfl ?_
  refine r_getI J cls12 rfl (k := 11) (by decide) wf_12_164 rfl (ly_40 hL) ?_
  show g_H E 0 0 6 [(0, vR 40), (1, vI x1)] [vI (M 40 11), vI 0, vI x1] (σ, M, N) _ _
  refine r_run J 2 (pc' := 8) (lv' := [(0, vR 40), (1, vI x1)]) (st' := [vI ((M 40 11) - (1 : Int32)), vI 0, vI x1]) rfl ?_
  refine r_callS J (As := [vI x1, vI 0, vI ((M 40 11) - (1 : Int32))]) (st := []) (fun r hr => c_X12_in x1 0 ((M 40 11) - (1 : Int32)) σ M N hL r hr) wm_12_160 wy_X12_in wd_X12_in ⟨by decide, by decide, by decide, by decide, Nat.le_of_ble_eq_true rfl⟩ rfl rfl (fun q8 hq8 => ?_)
  show g_H E 0 0 11 [(0, vR 40), (1, vI x1)] [vI q8] (σ, M, N) _ _
  refine r_chk (fun hz => ?_)
  exact r_iret J rfl rfl (g_b_nar hz) rfl (by decide) (by decide)
noncomputable def f_X12_isTown (x1 : Int32) (σ : gS) (M : gM) : Option (Int32) := b_X12_isTown_0 x1 σ M
theorem c_X12_isTown {l : Launch} (x1 : Int32) (σ : gS) (M : gM) (N : gN) (hL : g_layM σ) (r : Int32) (h : f_X12_isTown x1 σ M = some r) : g_Ct l yX12_isTown cX12_isTown 2 (some .boolean) 2 0 0 [vR 40, vI x1] (σ, M, N) (eI σ M N r) :=
  g_Ct.of tb_X12_isTown (by decide +kernel) tk_X12_isTown (Nat.le_of_ble_eq_true rfl) (fun E J => p_X12_isTown_0 J x1 σ M N hL r h)
def tb_X12_isOver : gT := [(0, .aload_n 0, 1, 0), (1, .getfield 167, 3, 0), (4, .aload_n 0, 1, 0), (5, .getfield 48, 3, 0), (8, .iload_n 1, 1, 0), (9, .iaload, 1, 0), (10, .aload_n 0, 1, 0), (11, .getfield 45, 3, 0), (14, .iload_n 1, 1, 0), (15, .iaload, 1, 0), (16, .iadd, 1, 0), (17, .if_icmp .lt 7, 3, 0), (20, .iconst 1, 1, 1), (21, .goto 4, 3, 0), (24, .iconst 0, 1, 0), (25, .ireturn, 1, 0)]
set_option maxRecDepth 100000 in
theorem tk_X12_isOver : g_okT cX12_isOver tb_X12_isOver = true := by decide +kernel
abbrev J_X12_isOver (E : gE) (l : Launch) : Prop := g_J E cX12_isOver RX12 "isOver" (some .boolean) 2 tb_X12_isOver 1 0 0 l
noncomputable def b_X12_isOver_0 (x1 : Int32) (σ : gS) (M : gM) : Option (Int32) := if g_in x1 6 = true then if g_in x1 6 = true then if (M 40 13) < ((M 51 x1.toNatClampNeg) + (M 50 x1.toNatClampNeg)) then some 0 else some 1 else none else none
set_option maxHeartbeats 4000000 in
set_option maxRecDepth 100000 in
theorem p_X12_isOver_0 {l : Launch} {E : gE} (J : J_X12_isOver E l) (x1 : Int32) (σ : gS) (M : gM) (N : gN) (hL : g_layM σ) : g_H E 0 0 0 [(0, vR 40), (1, vI x1)] [] (σ, M, N) (b_X12_isOver_0 x1 σ M) (eI σ M N) := by
  unfold b_X12_isOver_0
  refine r_run J 1 (pc' := 1) (lv' := [(0, vR 40), (1, vI x1)]) (st' := [vR 40]) rfl ?_
  refine r_getI J cls12 rfl (k := 13) (by decide) wf_12_167 rfl (ly_40 hL) ?_
  show g_H E 0 0 4 [(0, vR 40), (1, vI x1)] [vI (M 40 13)] (σ, M, N) _ _
  refine r_run J 1 (pc' := 5) (lv' := [(0, vR 40), (1, vI x1)]) (st' := [vR 40, vI (M 40 13)]) rfl ?_
  refine r_getR J cls12 rfl (k := 19) (t := 14) (by decide) wf_12_48 rfl rfl (ly_40 hL) (lr_40_19 hL) (fun _ => ?_)
  show g_H E 0 0 8 [(0, vR 40), (1, vI x1)] [vR 51, vI (M 40 13)] (σ, M, N) _ _
  refine r_run J 1 (pc' := 9) (lv' := [(0, vR 40), (1, vI x1)]) (st' := [vI x1, vR 51, vI (M 40 13)]) rfl ?_
  refine r_iald J rfl (ly_51 hL) (fun i9 => ?_)
  show g_H E 0 0 10 [(0, vR 40), (1, vI x1)] [vI (M 51 x1.toNatClampNeg), vI (M 40 13)] (σ, M, N) _ _
  refine r_run J 1 (pc' := 11) (lv' := [(0, vR 40), (1, vI x1)]) (st' := [vR 40, vI (M 51 x1.toNatClampNeg), vI (M 40 13)]) rfl ?_
  refine r_getR J cls12 rfl (k := 18) (t := 14) (by decide) wf_12_45 rfl rfl (ly_40 hL) (lr_40_18 hL) (fun _ => ?_)
  show g_H E 0 0 14 [(0, vR 40), (1, vI x1)] [vR 50, vI (M 51 x1.toNatClampNeg), vI (M 40 13)] (σ, M, N) _ _
  refine r_run J 1 (pc' := 15) (lv' := [(0, vR 40), (1, vI x1)]) (st' := [vI x1, vR 50, vI (M 51 x1.toNatClampNeg), vI (M 40 13)]) rfl ?_
  refine r_iald J rfl (ly_50 hL) (fun i15 => ?_)
  show g_H E 0 0 16 [(0, vR 40), (1, vI x1)] [vI (M 50 x1.toNatClampNeg), vI (M 51 x1.toNatClampNeg), vI (M 40 13)] (σ, M, N) _ _
  refine r_run J 1 (pc' := 17) (lv' := [(0, vR 40), (1, vI x1)]) (st' := [vI ((M 51 x1.toNatClampNeg) + (M 50 x1.toNatClampNeg)), vI (M 40 13)]) rfl ?_
  refine r_icmp_lt J (tgt := 24) rfl (by decide) (fun c17 => ?_) (fun c17 => ?_)
  · refine r_run J 1 (pc' := 25) (lv' := [(0, vR 40), (1, vI x1)]) (st' := [vI 0]) rfl ?_
    exact r_iret J rfl rfl rfl rfl (by decide) (by decide)
  · refine r_run J 2 (pc' := 25) (lv' := [(0, vR 40), (1, vI x1)]) (st' := [vI 1]) rfl ?_
    exact r_iret J rfl rfl rfl rfl (by decide) (by decide)
noncomputable def f_X12_isOver (x1 : Int32) (σ : gS) (M : gM) : Option (Int32) := b_X12_isOver_0 x1 σ M
theorem c_X12_isOver {l : Launch} (x1 : Int32) (σ : gS) (M : gM) (N : gN) (hL : g_layM σ) (r : Int32) (h : f_X12_isOver x1 σ M = some r) : g_Ct l yX12_isOver cX12_isOver 2 (some .boolean) 1 0 0 [vR 40, vI x1] (σ, M, N) (eI σ M N r) :=
  g_Ct.of tb_X12_isOver (by decide +kernel) tk_X12_isOver (Nat.le_of_ble_eq_true rfl) (fun E J => p_X12_isOver_0 J x1 σ M N hL r h)
def tb_X12_isOpen : gT := [(0, .aload_n 0, 1, 0), (1, .iload_n 1, 1, 0), (2, .invokevirtual 170, 3, 0), (5, .ifCond .eq 15, 3, 0), (8, .aload_n 0, 1, 0), (9, .iload_n 1, 1, 0), (10, .invokevirtual 174, 3, 0), (13, .ifCond .ne 7, 3, 0), (16, .iconst 1, 1, 1), (17, .goto 4, 3, 0), (20, .iconst 0, 1, 0), (21, .ireturn, 1, 0)]
set_option maxRecDepth 100000 in
theorem tk_X12_isOpen : g_okT cX12_isOpen tb_X12_isOpen = true := by decide +kernel
abbrev J_X12_isOpen (E : gE) (l : Launch) : Prop := g_J E cX12_isOpen RX12 "isOpen" (some .boolean) 2 tb_X12_isOpen 3 0 0 l
noncomputable def b_X12_isOpen_0 (x1 : Int32) (σ : gS) (M : gM) : Option (Int32) := (f_X12_isTown x1 σ M).bind fun q2 => if q2 = (0 : Int32) then some 0 else (f_X12_isOver x1 σ M).bind fun q10 => if q10 = (0 : Int32) then some 1 else some 0
set_option maxHeartbeats 4000000 in
set_option maxRecDepth 100000 in
theorem p_X12_isOpen_0 {l : Launch} {E : gE} (J : J_X12_isOpen E l) (x1 : Int32) (σ : gS) (M : gM) (N : gN) (hL : g_layM σ) : g_H E 0 0 0 [(0, vR 40), (1, vI x1)] [] (σ, M, N) (b_X12_isOpen_0 x1 σ M) (eI σ M N) := by
  unfold b_X12_isOpen_0
  refine r_run J 2 (pc' := 2) (lv' := [(0, vR 40), (1, vI x1)]) (st' := [vI x1, vR 40]) rfl ?_
  refine r_callV J (As := [vI x1]) (st := []) (fun r hr => c_X12_isTown x1 σ M N hL r hr) cls12 (ly_40 hL) wm_12_170 wy_X12_isTown wd_X12_isTown ⟨by decide, by decide, by decide, by decide, Nat.le_of_ble_eq_true rfl⟩ rfl rfl (fun q2 hq2 => ?_)
  show g_H E 0 0 5 [(0, vR 40), (1, vI x1)] [vI q2] (σ, M, N) _ _
  refine r_if_eq J (tgt := 20) rfl (by decide) (fun c5 => ?_) (fun c5 => ?_)
  · refine r_run J 1 (pc' := 21) (lv' := [(0, vR 40), (1, vI x1)]) (st' := [vI 0]) rfl ?_
    exact r_iret J rfl rfl rfl rfl (by decide) (by decide)
  · refine r_run J 2 (pc' := 10) (lv' := [(0, vR 40), (1, vI x1)]) (st' := [vI x1, vR 40]) rfl ?_
    refine r_callV J (As := [vI x1]) (st := []) (fun r hr => c_X12_isOver x1 σ M N hL r hr) cls12 (ly_40 hL) wm_12_174 wy_X12_isOver wd_X12_isOver ⟨by decide, by decide, by decide, by decide, Nat.le_of_ble_eq_true rfl⟩ rfl rfl (fun q10 hq10 => ?_)
    show g_H E 0 0 13 [(0, vR 40), (1, vI x1)] [vI q10] (σ, M, N) _ _
    refine r_if_ne J (tgt := 20) rfl (by decide) (fun c13 => ?_) (fun c13 => ?_)
    · refine r_run J 2 (pc' := 21) (lv' := [(0, vR 40), (1, vI x1)]) (st' := [vI 1]) rfl ?_
      exact r_iret J rfl rfl rfl rfl (by decide) (by decide)
    · refine r_run J 1 (pc' := 21) (lv' := [(0, vR 40), (1, vI x1)]) (st' := [vI 0]) rfl ?_
      exact r_iret J rfl rfl rfl rfl (by decide) (by decide)
noncomputable def f_X12_isOpen (x1 : Int32) (σ : gS) (M : gM) : Option (Int32) := b_X12_isOpen_0 x1 σ M
theorem c_X12_isOpen {l : Launch} (x1 : Int32) (σ : gS) (M : gM) (N : gN) (hL : g_layM σ) (r : Int32) (h : f_X12_isOpen x1 σ M = some r) : g_Ct l yX12_isOpen cX12_isOpen 2 (some .boolean) 3 0 0 [vR 40, vI x1] (σ, M, N) (eI σ M N r) :=
  g_Ct.of tb_X12_isOpen (by decide +kernel) tk_X12_isOpen (Nat.le_of_ble_eq_true rfl) (fun E J => p_X12_isOpen_0 J x1 σ M N hL r h)
def tb_X12_isThere : gT := [(0, .aload_n 0, 1, 0), (1, .getfield 33, 3, 0), (4, .iload_n 1, 1, 0), (5, .baload, 1, 0), (6, .ifCond .ne 27, 3, 0), (9, .aload_n 0, 1, 0), (10, .getfield 27, 3, 0), (13, .iload_n 1, 1, 0), (14, .iaload, 1, 0), (15, .iload_n 2, 1, 0), (16, .if_icmp .gt 17, 3, 0), (19, .aload_n 0, 1, 0), (20, .getfield 30, 3, 0), (23, .iload_n 1, 1, 0), (24, .iaload, 1, 0), (25, .iload_n 2, 1, 0), (26, .if_icmp .lt 7, 3, 0), (29, .iconst 1, 1, 1), (30, .goto 4, 3, 0), (33, .iconst 0, 1, 0), (34, .ireturn, 1, 0)]
set_option maxRecDepth 100000 in
theorem tk_X12_isThere : g_okT cX12_isThere tb_X12_isThere = true := by decide +kernel
abbrev J_X12_isThere (E : gE) (l : Launch) : Prop := g_J E cX12_isThere RX12 "isThere" (some .boolean) 3 tb_X12_isThere 1 0 0 l
noncomputable def b_X12_isThere_0 (x1 : Int32) (x2 : Int32) (σ : gS) (M : gM) : Option (Int32) := if g_in x1 10 = true then if (M 47 x1.toNatClampNeg) = (0 : Int32) then if g_in x1 10 = true then if x2 < (M 45 x1.toNatClampNeg) then some 0 else if g_in x1 10 = true then if (M 46 x1.toNatClampNeg) < x2 then some 0 else some 1 else none else none else some 0 else none
set_option maxHeartbeats 4000000 in
set_option maxRecDepth 100000 in
theorem p_X12_isThere_0 {l : Launch} {E : gE} (J : J_X12_isThere E l) (x1 : Int32) (x2 : Int32) (σ : gS) (M : gM) (N : gN) (hL : g_layM σ) : g_H E 0 0 0 [(0, vR 40), (1, vI x1), (2, vI x2)] [] (σ, M, N) (b_X12_isThere_0 x1 x2 σ M) (eI σ M N) := by
  unfold b_X12_isThere_0
  refine r_run J 1 (pc' := 1) (lv' := [(0, vR 40), (1, vI x1), (2, vI x2)]) (st' := [vR 40]) rfl ?_
  refine r_getR J cls12 rfl (k := 8) (t := 15) (by decide) wf_12_33 rfl rfl (ly_40 hL) (lr_40_8 hL) (fun _ => ?_)
  show g_H E 0 0 4 [(0, vR 40), (1, vI x1), (2, vI x2)] [vR 47] (σ, M, N) _ _
  refine r_run J 1 (pc' := 5) (lv' := [(0, vR 40), (1, vI x1), (2, vI x2)]) (st' := [vI x1, vR 47]) rfl ?_
  refine r_zald J rfl (ly_47 hL) (fun i5 => ?_)
  show g_H E 0 0 6 [(0, vR 40), (1, vI x1), (2, vI x2)] [vI (M 47 x1.toNatClampNeg)] (σ, M, N) _ _
  refine r_if_ne J (tgt := 33) rfl (by decide) (fun c6 => ?_) (fun c6 => ?_)
  · refine r_run J 1 (pc' := 10) (lv' := [(0, vR 40), (1, vI x1), (2, vI x2)]) (st' := [vR 40]) rfl ?_
    refine r_getR J cls12 rfl (k := 6) (t := 14) (by decide) wf_12_27 rfl rfl (ly_40 hL) (lr_40_6 hL) (fun _ => ?_)
    show g_H E 0 0 13 [(0, vR 40), (1, vI x1), (2, vI x2)] [vR 45] (σ, M, N) _ _
    refine r_run J 1 (pc' := 14) (lv' := [(0, vR 40), (1, vI x1), (2, vI x2)]) (st' := [vI x1, vR 45]) rfl ?_
    refine r_iald J rfl (ly_45 hL) (fun i14 => ?_)
    show g_H E 0 0 15 [(0, vR 40), (1, vI x1), (2, vI x2)] [vI (M 45 x1.toNatClampNeg)] (σ, M, N) _ _
    refine r_run J 1 (pc' := 16) (lv' := [(0, vR 40), (1, vI x1), (2, vI x2)]) (st' := [vI x2, vI (M 45 x1.toNatClampNeg)]) rfl ?_
    refine r_icmp_gt J (tgt := 33) rfl (by decide) (fun c16 => ?_) (fun c16 => ?_)
    · refine r_run J 1 (pc' := 34) (lv' := [(0, vR 40), (1, vI x1), (2, vI x2)]) (st' := [vI 0]) rfl ?_
      exact r_iret J rfl rfl rfl rfl (by decide) (by decide)
    · refine r_run J 1 (pc' := 20) (lv' := [(0, vR 40), (1, vI x1), (2, vI x2)]) (st' := [vR 40]) rfl ?_
      refine r_getR J cls12 rfl (k := 7) (t := 14) (by decide) wf_12_30 rfl rfl (ly_40 hL) (lr_40_7 hL) (fun _ => ?_)
      show g_H E 0 0 23 [(0, vR 40), (1, vI x1), (2, vI x2)] [vR 46] (σ, M, N) _ _
      refine r_run J 1 (pc' := 24) (lv' := [(0, vR 40), (1, vI x1), (2, vI x2)]) (st' := [vI x1, vR 46]) rfl ?_
      refine r_iald J rfl (ly_46 hL) (fun i24 => ?_)
      show g_H E 0 0 25 [(0, vR 40), (1, vI x1), (2, vI x2)] [vI (M 46 x1.toNatClampNeg)] (σ, M, N) _ _
      refine r_run J 1 (pc' := 26) (lv' := [(0, vR 40), (1, vI x1), (2, vI x2)]) (st' := [vI x2, vI (M 46 x1.toNatClampNeg)]) rfl ?_
      refine r_icmp_lt J (tgt := 33) rfl (by decide) (fun c26 => ?_) (fun c26 => ?_)
      · refine r_run J 1 (pc' := 34) (lv' := [(0, vR 40), (1, vI x1), (2, vI x2)]) (st' := [vI 0]) rfl ?_
        exact r_iret J rfl rfl rfl rfl (by decide) (by decide)
      · refine r_run J 2 (pc' := 34) (lv' := [(0, vR 40), (1, vI x1), (2, vI x2)]) (st' := [vI 1]) rfl ?_
        exact r_iret J rfl rfl rfl rfl (by decide) (by decide)
  · refine r_run J 1 (pc' := 34) (lv' := [(0, vR 40), (1, vI x1), (2, vI x2)]) (st' := [vI 0]) rfl ?_
    exact r_iret J rfl rfl rfl rfl (by decide) (by decide)
noncomputable def f_X12_isThere (x1 : Int32) (x2 : Int32) (σ : gS) (M : gM) : Option (Int32) := b_X12_isThere_0 x1 x2 σ M
theorem c_X12_isThere {l : Launch} (x1 : Int32) (x2 : Int32) (σ : gS) (M : gM) (N : gN) (hL : g_layM σ) (r : Int32) (h : f_X12_isThere x1 x2 σ M = some r) : g_Ct l yX12_isThere cX12_isThere 3 (some .boolean) 1 0 0 [vR 40, vI x1, vI x2] (σ, M, N) (eI σ M N r) :=
  g_Ct.of tb_X12_isThere (by decide +kernel) tk_X12_isThere (Nat.le_of_ble_eq_true rfl) (fun E J => p_X12_isThere_0 J x1 x2 σ M N hL r h)
def tb_X12_setIn : gT := [(0, .iconst 0, 1, 0), (1, .istore_n 3, 1, 0), (2, .iconst 0, 1, 0), (3, .istore 4, 2, 0), (5, .iload 4, 2, 0), (7, .aload_n 0, 1, 0), (8, .getfield 157, 3, 0), (11, .if_icmp .ge 36, 3, 0), (14, .iload_n 3, 1, 0), (15, .aload_n 0, 1, 0), (16, .getfield 66, 3, 0), (19, .bipush 10, 2, 10), (21, .iload_n 1, 1, 0), (22, .imul, 1, 0), (23, .iload 4, 2, 0), (25, .iadd, 1, 0), (26, .iaload, 1, 0), (27, .iload_n 2, 1, 0), (28, .if_icmp .ne 10, 3, 0), (31, .iconst 1, 1, 1), (32, .iload 4, 2, 0), (34, .ishl, 1, 0), (35, .goto 4, 3, 0), (38, .iconst 0, 1, 0), (39, .ior, 1, 0), (40, .istore_n 3, 1, 0), (41, .iinc 4 1, 3, 1), (44, .goto (-39), 3, 0), (47, .iload_n 3, 1, 0), (48, .ireturn, 1, 0)]
set_option maxRecDepth 100000 in
theorem tk_X12_setIn : g_okT cX12_setIn tb_X12_setIn = true := by decide +kernel
abbrev J_X12_setIn (E : gE) (l : Launch) : Prop := g_J E cX12_setIn RX12 "setIn" (some .int) 5 tb_X12_setIn 1 0 0 l
noncomputable def b_X12_setIn_39 (k5 : Int32 → Int32 → Int32 → Int32 → gS → gM → Option (Int32)) (x1 : Int32) (x2 : Int32) (x4 : Int32) (sx0 : Int32) (sx1 : Int32) (σ : gS) (M : gM) : Option (Int32) := k5 x1 x2 (sx1 ||| sx0) (x4 + 1) σ M
noncomputable def l_X12_setIn_5 : Nat → Int32 → Int32 → Int32 → Int32 → gS → gM → Option (Int32)
  | 0, _, _, _, _, _, _ => none
  | n + 1, x1, x2, x3, x4, σ, M => if x4 < (M 40 1) then if g_in (((10 : Int32) * x1) + x4) 60 = true then if (M 57 (((10 : Int32) * x1) + x4).toNatClampNeg) = x2 then b_X12_setIn_39 (fun x1 x2 x3 x4 σ M => l_X12_setIn_5 n x1 x2 x3 x4 σ M) x1 x2 x4 ((1 : Int32) <<< (x4 &&& 31)) x3 σ M else b_X12_setIn_39 (fun x1 x2 x3 x4 σ M => l_X12_setIn_5 n x1 x2 x3 x4 σ M) x1 x2 x4 0 x3 σ M else none else some x3
noncomputable def b_X12_setIn_0 (x1 : Int32) (x2 : Int32) (σ : gS) (M : gM) : Option (Int32) := l_X12_setIn_5 g_FU x1 x2 0 0 σ M
set_option maxHeartbeats 4000000 in
set_option maxRecDepth 100000 in
theorem p_X12_setIn_39 {l : Launch} {E : gE} (J : J_X12_setIn E l) {k5 : Int32 → Int32 → Int32 → Int32 → gS → gM → Option (Int32)} (H5 : ∀ (x1 : Int32) (x2 : Int32) (x3 : Int32) (x4 : Int32) (σ : gS) (M : gM) (N : gN) (_ : g_layM σ), g_H E 0 0 5 [(0, vR 40), (1, vI x1), (2, vI x2), (3, vI x3), (4, vI x4)] [] (σ, M, N) (k5 x1 x2 x3 x4 σ M) (eI σ M N)) (x1 : Int32) (x2 : Int32) (x4 : Int32) (sx0 : Int32) (sx1 : Int32) (σ : gS) (M : gM) (N : gN) (hL : g_layM σ) : g_H E 0 0 39 [(0, vR 40), (1, vI x1), (2, vI x2), (4, vI x4)] [vI sx0, vI sx1] (σ, M, N) (b_X12_setIn_39 k5 x1 x2 x4 sx0 sx1 σ M) (eI σ M N) := by
  unfold b_X12_setIn_39
  refine r_run J 4 (pc' := 5) (lv' := [(4, vI (x4 + 1)), (3, vI (sx1 ||| sx0)), (0, vR 40), (1, vI x1), (2, vI x2)]) (st' := []) rfl ?_
  refine r_sub [2, 3, 4, 1, 0] (lv' := [(0, vR 40), (1, vI x1), (2, vI x2), (3, vI (sx1 ||| sx0)), (4, vI (x4 + 1))]) rfl ?_
  exact H5 x1 x2 (sx1 ||| sx0) (x4 + 1) σ M N hL
set_option maxHeartbeats 4000000 in
set_option maxRecDepth 100000 in
theorem p_X12_setIn_5 {l : Launch} {E : gE} (J : J_X12_setIn E l) : ∀ (n : Nat) (x1 : Int32) (x2 : Int32) (x3 : Int32) (x4 : Int32) (σ : gS) (M : gM) (N : gN) (hL : g_layM σ), g_H E 0 0 5 [(0, vR 40), (1, vI x1), (2, vI x2), (3, vI x3), (4, vI x4)] [] (σ, M, N) (l_X12_setIn_5 n x1 x2 x3 x4 σ M) (eI σ M N) := by
  intro n
  induction n with
  | zero => intros; exact h_none
  | succ n ih =>
    intro x1 x2 x3 x4 σ M N hL
    rw [l_X12_setIn_5]
    refine r_run J 2 (pc' := 8) (lv' := [(0, vR 40), (1, vI x1), (2, vI x2), (3, vI x3), (4, vI x4)]) (st' := [vR 40, vI x4]) rfl ?_
    refine r_getI J cls12 rfl (k := 1) (by decide) wf_12_157 rfl (ly_40 hL) ?_
    show g_H E 0 0 11 [(0, vR 40), (1, vI x1), (2, vI x2), (3, vI x3), (4, vI x4)] [vI (M 40 1), vI x4] (σ, M, N) _ _
    refine r_icmp_ge J (tgt := 47) rfl (by decide) (fun c11 => ?_) (fun c11 => ?_)
    · refine r_run J 2 (pc' := 16) (lv' := [(0, vR 40), (1, vI x1), (2, vI x2), (3, vI x3), (4, vI x4)]) (st' := [vR 40, vI x3]) rfl ?_
      refine r_getR J cls12 rfl (k := 25) (t := 14) (by decide) wf_12_66 rfl rfl (ly_40 hL) (lr_40_25 hL) (fun _ => ?_)
      show g_H E 0 0 19 [(0, vR 40), (1, vI x1), (2, vI x2), (3, vI x3), (4, vI x4)] [vR 57, vI x3] (σ, M, N) _ _
      refine r_run J 5 (pc' := 26) (lv' := [(0, vR 40), (1, vI x1), (2, vI x2), (3, vI x3), (4, vI x4)]) (st' := [vI (((10 : Int32) * x1) + x4), vR 57, vI x3]) rfl ?_
      refine r_iald J rfl (ly_57 hL) (fun i26 => ?_)
      show g_H E 0 0 27 [(0, vR 40), (1, vI x1), (2, vI x2), (3, vI x3), (4, vI x4)] [vI (M 57 (((10 : Int32) * x1) + x4).toNatClampNeg), vI x3] (σ, M, N) _ _
      refine r_run J 1 (pc' := 28) (lv' := [(0, vR 40), (1, vI x1), (2, vI x2), (3, vI x3), (4, vI x4)]) (st' := [vI x2, vI (M 57 (((10 : Int32) * x1) + x4).toNatClampNeg), vI x3]) rfl ?_
      refine r_icmp_ne J (tgt := 38) rfl (by decide) (fun c28 => ?_) (fun c28 => ?_)
      · refine r_run J 4 (pc' := 39) (lv' := [(0, vR 40), (1, vI x1), (2, vI x2), (3, vI x3), (4, vI x4)]) (st' := [vI ((1 : Int32) <<< (x4 &&& 31)), vI x3]) rfl ?_
        refine r_sub [0, 1, 2, 4] (lv' := [(0, vR 40), (1, vI x1), (2, vI x2), (4, vI x4)]) rfl ?_
        exact p_X12_setIn_39 J ih x1 x2 x4 ((1 : Int32) <<< (x4 &&& 31)) x3 σ M N hL
      · refine r_run J 1 (pc' := 39) (lv' := [(0, vR 40), (1, vI x1), (2, vI x2), (3, vI x3), (4, vI x4)]) (st' := [vI 0, vI x3]) rfl ?_
        refine r_sub [0, 1, 2, 4] (lv' := [(0, vR 40), (1, vI x1), (2, vI x2), (4, vI x4)]) rfl ?_
        exact p_X12_setIn_39 J ih x1 x2 x4 0 x3 σ M N hL
    · refine r_run J 1 (pc' := 48) (lv' := [(0, vR 40), (1, vI x1), (2, vI x2), (3, vI x3), (4, vI x4)]) (st' := [vI x3]) rfl ?_
      exact r_iret J rfl rfl rfl rfl (by decide) (by decide)
set_option maxHeartbeats 4000000 in
set_option maxRecDepth 100000 in
theorem p_X12_setIn_0 {l : Launch} {E : gE} (J : J_X12_setIn E l) (x1 : Int32) (x2 : Int32) (σ : gS) (M : gM) (N : gN) (hL : g_layM σ) : g_H E 0 0 0 [(0, vR 40), (1, vI x1), (2, vI x2)] [] (σ, M, N) (b_X12_setIn_0 x1 x2 σ M) (eI σ M N) := by
  unfold b_X12_setIn_0
  refine r_run J 4 (pc' := 5) (lv' := [(4, vI 0), (3, vI 0), (0, vR 40), (1, vI x1), (2, vI x2)]) (st' := []) rfl ?_
  refine r_sub [2, 3, 4, 1, 0] (lv' := [(0, vR 40), (1, vI x1), (2, vI x2), (3, vI 0), (4, vI 0)]) rfl ?_
  exact p_X12_setIn_5 J g_FU x1 x2 0 0 σ M N hL
noncomputable def f_X12_setIn (x1 : Int32) (x2 : Int32) (σ : gS) (M : gM) : Option (Int32) := b_X12_setIn_0 x1 x2 σ M
theorem c_X12_setIn {l : Launch} (x1 : Int32) (x2 : Int32) (σ : gS) (M : gM) (N : gN) (hL : g_layM σ) (r : Int32) (h : f_X12_setIn x1 x2 σ M = some r) : g_Ct l yX12_setIn cX12_setIn 5 (some .int) 1 0 0 [vR 40, vI x1, vI x2] (σ, M, N) (eI σ M N r) :=
  g_Ct.of tb_X12_setIn (by decide +kernel) tk_X12_setIn (Nat.le_of_ble_eq_true rfl) (fun E J => p_X12_setIn_0 J x1 x2 σ M N hL r h)
def tb_X12_start : gT := [(0, .iload_n 1, 1, 0), (1, .iconst 0, 1, 0), (2, .sipush 400, 3, 400), (5, .invokestatic 160, 3, 0), (8, .ifCond .eq 10, 3, 0), (11, .aload_n 0, 1, 0), (12, .getfield 167, 3, 0), (15, .ifCond .le 5, 3, 0), (18, .iconst 0, 1, 0), (19, .ireturn, 1, 0), (20, .aload_n 0, 1, 0), (21, .iload_n 1, 1, 0), (22, .putfield 42, 3, 0), (25, .iconst 1, 1, 1), (26, .ireturn, 1, 0)]
set_option maxRecDepth 100000 in
theorem tk_X12_start : g_okT cX12_start tb_X12_start = true := by decide +kernel
abbrev J_X12_start (E : gE) (l : Launch) : Prop := g_J E cX12_start RX12 "start" (some .boolean) 2 tb_X12_start 2 0 0 l
noncomputable def b_X12_start_0 (x1 : Int32) (σ : gS) (M : gM) : Option (Int32 × gM) := (f_X12_in x1 0 400).bind fun q5 => if q5 = (0 : Int32) then some (0, M) else if (0 : Int32) < (M 40 13) then some (0, M) else some (1, (g_up M 40 15 x1))
set_option maxHeartbeats 4000000 in
set_option maxRecDepth 100000 in
theorem p_X12_start_0 {l : Launch} {E : gE} (J : J_X12_start E l) (x1 : Int32) (σ : gS) (M : gM) (N : gN) (hL : g_layM σ) : g_H E 0 0 0 [(0, vR 40), (1, vI x1)] [] (σ, M, N) (b_X12_start_0 x1 σ M) (eIM σ N) := by
  unfold b_X12_start_0
  refine r_run J 3 (pc' := 5) (lv' := [(0, vR 40), (1, vI x1)]) (st' := [vI 400, vI 0, vI x1]) rfl ?_
  refine r_callS J (As := [vI x1, vI 0, vI 400]) (st := []) (fun r hr => c_X12_in x1 0 400 σ M N hL r hr) wm_12_160 wy_X12_in wd_X12_in ⟨by decide, by decide, by decide, by decide, Nat.le_of_ble_eq_true rfl⟩ rfl rfl (fun q5 hq5 => ?_)
  show g_H E 0 0 8 [(0, vR 40), (1, vI x1)] [vI q5] (σ, M, N) _ _
  refine r_if_eq J (tgt := 18) rfl (by decide) (fun c8 => ?_) (fun c8 => ?_)
  · refine r_run J 1 (pc' := 19) (lv' := [(0, vR 40), (1, vI x1)]) (st' := [vI 0]) rfl ?_
    exact r_iret J rfl rfl rfl rfl (by decide) (by decide)
  · refine r_run J 1 (pc' := 12) (lv' := [(0, vR 40), (1, vI x1)]) (st' := [vR 40]) rfl ?_
    refine r_getI J cls12 rfl (k := 13) (by decide) wf_12_167 rfl (ly_40 hL) ?_
    show g_H E 0 0 15 [(0, vR 40), (1, vI x1)] [vI (M 40 13)] (σ, M, N) _ _
    refine r_if_le J (tgt := 20) rfl (by decide) (fun c15 => ?_) (fun c15 => ?_)
    · refine r_run J 1 (pc' := 19) (lv' := [(0, vR 40), (1, vI x1)]) (st' := [vI 0]) rfl ?_
      exact r_iret J rfl rfl rfl rfl (by decide) (by decide)
    · refine r_run J 2 (pc' := 22) (lv' := [(0, vR 40), (1, vI x1)]) (st' := [vI x1, vR 40]) rfl ?_
      refine r_putI J cls12 rfl (k := 15) (by decide) wf_12_42 rfl (Or.inl rfl) ⟨rfl, rfl⟩ (ly_40 hL) ?_
      show g_H E 0 0 25 [(0, vR 40), (1, vI x1)] [] (σ, (g_up M 40 15 x1), N) _ _
      refine r_run J 1 (pc' := 26) (lv' := [(0, vR 40), (1, vI x1)]) (st' := [vI 1]) rfl ?_
      exact r_iret J rfl rfl rfl rfl (by decide) (by decide)
noncomputable def f_X12_start (x1 : Int32) (σ : gS) (M : gM) : Option (Int32 × gM) := b_X12_start_0 x1 σ M
theorem c_X12_start {l : Launch} (x1 : Int32) (σ : gS) (M : gM) (N : gN) (hL : g_layM σ) (r : Int32 × gM) (h : f_X12_start x1 σ M = some r) : g_Ct l yX12_start cX12_start 2 (some .boolean) 2 0 0 [vR 40, vI x1] (σ, M, N) (eIM σ N r) :=
  g_Ct.of tb_X12_start (by decide +kernel) tk_X12_start (Nat.le_of_ble_eq_true rfl) (fun E J => p_X12_start_0 J x1 σ M N hL r h)
