def tb_X12_kindHere : gT := [(0, .aload_n 0, 1, 0), (1, .ldc2_w 353, 3, 0), (4, .invokevirtual 318, 3, 0), (7, .ifCond .eq 7, 3, 0), (10, .iconst 0, 1, 0), (11, .goto 46, 3, 0), (14, .aload_n 0, 1, 0), (15, .ldc2_w 355, 3, 0), (18, .invokevirtual 318, 3, 0), (21, .ifCond .eq 7, 3, 0), (24, .iconst 1, 1, 1), (25, .goto 32, 3, 0), (28, .aload_n 0, 1, 0), (29, .ldc2_w 357, 3, 0), (32, .invokevirtual 318, 3, 0), (35, .ifCond .eq 7, 3, 0), (38, .iconst 2, 1, 2), (39, .goto 18, 3, 0), (42, .aload_n 0, 1, 0), (43, .ldc2_w 359, 3, 0), (46, .invokevirtual 318, 3, 0), (49, .ifCond .eq 7, 3, 0), (52, .iconst 3, 1, 3), (53, .goto 4, 3, 0), (56, .iconst (-1), 1, (-1)), (57, .ireturn, 1, 0)]
set_option maxRecDepth 100000 in
theorem tk_X12_kindHere : g_okT cX12_kindHere tb_X12_kindHere = true := by decide +kernel
abbrev J_X12_kindHere (E : gE) (l : Launch) : Prop := g_J E cX12_kindHere RX12 "kindHere" (some .int) 1 tb_X12_kindHere 2 0 0 l
set_option maxHeartbeats 4000000 in
set_option maxRecDepth 100000 in
theorem p_X12_kindHere_0 {l : Launch} {E : gE} (J : J_X12_kindHere E l) (σ : gS) (M : gM) (N : gN) (hL : g_layM σ) : g_H E 0 0 0 [(0, vR 40)] [] (σ, M, N) (b_X12_kindHere_0 σ M N) (eI σ M N) := by
  unfold b_X12_kindHere_0
  refine r_run J 1 (pc' := 1) (lv' := [(0, vR 40)]) (st' := [vR 40]) rfl ?_
  refine r_ldc2 J rfl wc_12_353 ?_
  refine r_callV J (As := [vL 4514]) (st := []) (fun r hr => c_X12_isWord 4514 σ M N hL r hr) cls12 (ly_40 hL) wm_12_318 wy_X12_isWord wd_X12_isWord ⟨by decide, by decide, by decide, by decide, Nat.le_of_ble_eq_true rfl⟩ rfl rfl (fun q4 hq4 => ?_)
  show g_H E 0 0 7 [(0, vR 40)] [vI q4] (σ, M, N) _ _
  refine r_if_eq J (tgt := 14) rfl (by decide) (fun c7 => ?_) (fun c7 => ?_)
  · refine r_run J 1 (pc' := 15) (lv' := [(0, vR 40)]) (st' := [vR 40]) rfl ?_
    refine r_ldc2 J rfl wc_12_355 ?_
    refine r_callV J (As := [vL 40187]) (st := []) (fun r hr => c_X12_isWord 40187 σ M N hL r hr) cls12 (ly_40 hL) wm_12_318 wy_X12_isWord wd_X12_isWord ⟨by decide, by decide, by decide, by decide, Nat.le_of_ble_eq_true rfl⟩ rfl rfl (fun q18 hq18 => ?_)
    show g_H E 0 0 21 [(0, vR 40)] [vI q18] (σ, M, N) _ _
    refine r_if_eq J (tgt := 28) rfl (by decide) (fun c21 => ?_) (fun c21 => ?_)
    · refine r_run J 1 (pc' := 29) (lv' := [(0, vR 40)]) (st' := [vR 40]) rfl ?_
      refine r_ldc2 J rfl wc_12_357 ?_
      refine r_callV J (As := [vL 261071320]) (st := []) (fun r hr => c_X12_isWord 261071320 σ M N hL r hr) cls12 (ly_40 hL) wm_12_318 wy_X12_isWord wd_X12_isWord ⟨by decide, by decide, by decide, by decide, Nat.le_of_ble_eq_true rfl⟩ rfl rfl (fun q32 hq32 => ?_)
      show g_H E 0 0 35 [(0, vR 40)] [vI q32] (σ, M, N) _ _
      refine r_if_eq J (tgt := 42) rfl (by decide) (fun c35 => ?_) (fun c35 => ?_)
      · refine r_run J 1 (pc' := 43) (lv' := [(0, vR 40)]) (st' := [vR 40]) rfl ?_
        refine r_ldc2 J rfl wc_12_359 ?_
        refine r_callV J (As := [vL 131360]) (st := []) (fun r hr => c_X12_isWord 131360 σ M N hL r hr) cls12 (ly_40 hL) wm_12_318 wy_X12_isWord wd_X12_isWord ⟨by decide, by decide, by decide, by decide, Nat.le_of_ble_eq_true rfl⟩ rfl rfl (fun q46 hq46 => ?_)
        show g_H E 0 0 49 [(0, vR 40)] [vI q46] (σ, M, N) _ _
        refine r_if_eq J (tgt := 56) rfl (by decide) (fun c49 => ?_) (fun c49 => ?_)
        · refine r_run J 1 (pc' := 57) (lv' := [(0, vR 40)]) (st' := [vI (-1)]) rfl ?_
          exact r_iret J rfl rfl rfl rfl (by decide) (by decide)
        · refine r_run J 2 (pc' := 57) (lv' := [(0, vR 40)]) (st' := [vI 3]) rfl ?_
          exact r_iret J rfl rfl rfl rfl (by decide) (by decide)
      · refine r_run J 2 (pc' := 57) (lv' := [(0, vR 40)]) (st' := [vI 2]) rfl ?_
        exact r_iret J rfl rfl rfl rfl (by decide) (by decide)
    · refine r_run J 2 (pc' := 57) (lv' := [(0, vR 40)]) (st' := [vI 1]) rfl ?_
      exact r_iret J rfl rfl rfl rfl (by decide) (by decide)
  · refine r_run J 2 (pc' := 57) (lv' := [(0, vR 40)]) (st' := [vI 0]) rfl ?_
    exact r_iret J rfl rfl rfl rfl (by decide) (by decide)
theorem c_X12_kindHere {l : Launch} (σ : gS) (M : gM) (N : gN) (hL : g_layM σ) (r : Int32) (h : f_X12_kindHere σ M N = some r) : g_Ct l yX12_kindHere cX12_kindHere 1 (some .int) 2 0 0 [vR 40] (σ, M, N) (eI σ M N r) :=
  g_Ct.of tb_X12_kindHere (by decide +kernel) tk_X12_kindHere (Nat.le_of_ble_eq_true rfl) (fun E J => p_X12_kindHere_0 J σ M N hL r h)
def tb_X12_goes : gT := [(0, .aload_n 0, 1, 0), (1, .iconst 0, 1, 0), (2, .putfield 249, 3, 0), (5, .aload_n 0, 1, 0), (6, .iconst 0, 1, 0), (7, .putfield 303, 3, 0), (10, .aload_n 0, 1, 0), (11, .iconst 0, 1, 0), (12, .putfield 294, 3, 0), (15, .aload_n 0, 1, 0), (16, .iconst 0, 1, 0), (17, .putfield 361, 3, 0), (20, .aload_n 0, 1, 0), (21, .iconst (-1), 1, (-1)), (22, .putfield 364, 3, 0), (25, .aload_n 0, 1, 0), (26, .invokevirtual 309, 3, 0), (29, .aload_n 0, 1, 0), (30, .getfield 294, 3, 0), (33, .ifCond .ne 165, 3, 0), (36, .aload_n 0, 1, 0), (37, .getfield 262, 3, 0), (40, .ifCond .eq 158, 3, 0), (43, .aload_n 0, 1, 0), (44, .invokevirtual 367, 3, 0), (47, .istore_n 2, 1, 0), (48, .iload_n 2, 1, 0), (49, .iconst (-1), 1, (-1)), (50, .if_icmp .eq 12, 3, 0), (53, .aload_n 0, 1, 0), (54, .getfield 361, 3, 0), (57, .bipush 12, 2, 12), (59, .if_icmp .ne 18, 3, 0), (62, .aload_n 0, 1, 0), (63, .iload_n 2, 1, 0), (64, .iconst (-1), 1, (-1)), (65, .if_icmp .ne 7, 3, 0), (68, .iconst 1, 1, 1), (69, .goto 4, 3, 0), (72, .iconst 2, 1, 2), (73, .invokevirtual 306, 3, 0), (76, .return_, 1, 0), (77, .aload_n 0, 1, 0), (78, .invokevirtual 309, 3, 0), (81, .aload_n 0, 1, 0), (82, .invokevirtual 312, 3, 0), (85, .istore_n 3, 1, 0), (86, .iconst 1, 1, 1), (87, .istore 4, 2, 0), (89, .aload_n 0, 1, 0), (90, .getfield 294, 3, 0), (93, .ifCond .ne 23, 3, 0), (96, .aload_n 0, 1, 0), (97, .ldc2_w 370, 3, 0), (100, .invokevirtual 318, 3, 0), (103, .ifCond .eq 13, 3, 0), (106, .aload_n 0, 1, 0), (107, .invokevirtual 309, 3, 0), (110, .aload_n 0, 1, 0), (111, .invokevirtual 312, 3, 0), (114, .istore 4, 2, 0), (116, .aload_n 0, 1, 0), (117, .getfield 294, 3, 0), (120, .ifCond .le 4, 3, 0), (123, .return_, 1, 0), (124, .aload_n 0, 1, 0), (125, .bipush 59, 2, 59), (127, .invokevirtual 300, 3, 0), (130, .ifCond .ne 9, 3, 0), (133, .aload_n 0, 1, 0), (134, .iconst 1, 1, 1), (135, .invokevirtual 306, 3, 0), (138, .return_, 1, 0), (139, .aload_n 0, 1, 0), (140, .invokevirtual 309, 3, 0), (143, .aload_n 0, 1, 0), (144, .dup, 1, 0), (145, .getfield 361, 3, 0), (148, .iconst 1, 1, 1), (149, .iadd, 1, 0), (150, .putfield 361, 3, 0), (153, .iload_n 2, 1, 0), (154, .iload_n 1, 1, 0), (155, .if_icmp .ne 40, 3, 0), (158, .iload 4, 2, 0), (160, .ifCond .eq 35, 3, 0), (163, .aload_n 0, 1, 0), (164, .getfield 364, 3, 0), (167, .iconst (-1), 1, (-1)), (168, .if_icmp .ne 27, 3, 0), (171, .aload_n 0, 1, 0), (172, .iload_n 3, 1, 0), (173, .ifCond .ge 7, 3, 0), (176, .iconst 0, 1, 0), (177, .goto 15, 3, 0), (180, .iload_n 3, 1, 0), (181, .bipush 100, 2, 100), (183, .if_icmp .le 8, 3, 0), (186, .bipush 100, 2, 100), (188, .goto 4, 3, 0), (191, .iload_n 3, 1, 0), (192, .putfield 364, 3, 0), (195, .goto (-166), 3, 0), (198, .return_, 1, 0)]
set_option maxRecDepth 100000 in
theorem tk_X12_goes : g_okT cX12_goes tb_X12_goes = true := by decide +kernel
abbrev J_X12_goes (E : gE) (l : Launch) : Prop := g_J E cX12_goes RX12 "goes" none 5 tb_X12_goes 68 0 0 l
set_option maxHeartbeats 4000000 in
set_option maxRecDepth 100000 in
theorem p_X12_goes_73 {l : Launch} {E : gE} (J : J_X12_goes E l) (sx0 : Int32) (σ : gS) (M : gM) (N : gN) (hL : g_layM σ) : g_H E 0 0 73 [] [vI sx0, vR 40] (σ, M, N) (b_X12_goes_73 sx0 σ M N) (eVMN σ) := by
  unfold b_X12_goes_73
  refine r_callV J (As := [vI sx0]) (st := []) (fun r hr => c_X12_wrong sx0 σ M N hL r hr) cls12 (ly_40 hL) wm_12_306 wy_X12_wrong wd_X12_wrong ⟨by decide, by decide, by decide, by decide, Nat.le_of_ble_eq_true rfl⟩ rfl rfl (fun q73 hq73 => ?_)
  show g_H E 0 0 76 [] [] (σ, q73, N) _ _
  exact r_vret J rfl rfl rfl (by decide) (by decide)
set_option maxHeartbeats 4000000 in
set_option maxRecDepth 100000 in
theorem p_X12_goes_62 {l : Launch} {E : gE} (J : J_X12_goes E l) (x2 : Int32) (σ : gS) (M : gM) (N : gN) (hL : g_layM σ) : g_H E 0 0 62 [(0, vR 40), (2, vI x2)] [] (σ, M, N) (b_X12_goes_62 x2 σ M N) (eVMN σ) := by
  unfold b_X12_goes_62
  refine r_run J 3 (pc' := 65) (lv' := [(0, vR 40), (2, vI x2)]) (st' := [vI (-1), vI x2, vR 40]) rfl ?_
  refine r_icmp_ne J (tgt := 72) rfl (by decide) (fun c65 => ?_) (fun c65 => ?_)
  · refine r_run J 2 (pc' := 73) (lv' := [(0, vR 40), (2, vI x2)]) (st' := [vI 1, vR 40]) rfl ?_
    refine r_sub [] (lv' := []) rfl ?_
    exact p_X12_goes_73 J 1 σ M N hL
  · refine r_run J 1 (pc' := 73) (lv' := [(0, vR 40), (2, vI x2)]) (st' := [vI 2, vR 40]) rfl ?_
    refine r_sub [] (lv' := []) rfl ?_
    exact p_X12_goes_73 J 2 σ M N hL
set_option maxHeartbeats 4000000 in
set_option maxRecDepth 100000 in
theorem p_X12_goes_195 {l : Launch} {E : gE} (J : J_X12_goes E l) {k29 : Int32 → gS → gM → gN → Option (gM × gN)} (H29 : ∀ (x1 : Int32) (σ : gS) (M : gM) (N : gN) (_ : g_layM σ), g_H E 0 0 29 [(0, vR 40), (1, vI x1)] [] (σ, M, N) (k29 x1 σ M N) (eVMN σ)) (x1 : Int32) (σ : gS) (M : gM) (N : gN) (hL : g_layM σ) : g_H E 0 0 195 [(0, vR 40), (1, vI x1)] [] (σ, M, N) (b_X12_goes_195 k29 x1 σ M N) (eVMN σ) := by
  unfold b_X12_goes_195
  refine r_run J 1 (pc' := 29) (lv' := [(0, vR 40), (1, vI x1)]) (st' := []) rfl ?_
  exact H29 x1 σ M N hL
set_option maxHeartbeats 4000000 in
set_option maxRecDepth 100000 in
theorem p_X12_goes_192 {l : Launch} {E : gE} (J : J_X12_goes E l) {k29 : Int32 → gS → gM → gN → Option (gM × gN)} (H29 : ∀ (x1 : Int32) (σ : gS) (M : gM) (N : gN) (_ : g_layM σ), g_H E 0 0 29 [(0, vR 40), (1, vI x1)] [] (σ, M, N) (k29 x1 σ M N) (eVMN σ)) (x1 : Int32) (sx0 : Int32) (σ : gS) (M : gM) (N : gN) (hL : g_layM σ) : g_H E 0 0 192 [(0, vR 40), (1, vI x1)] [vI sx0, vR 40] (σ, M, N) (b_X12_goes_192 k29 x1 sx0 σ M N) (eVMN σ) := by
  unfold b_X12_goes_192
  refine r_putI J cls12 rfl (k := 59) (by decide) wf_12_364 rfl (Or.inl rfl) ⟨rfl, rfl⟩ (ly_40 hL) ?_
  show g_H E 0 0 195 [(0, vR 40), (1, vI x1)] [] (σ, (g_up M 40 59 sx0), N) _ _
  exact p_X12_goes_195 J H29 x1 σ (g_up M 40 59 sx0) N hL
set_option maxHeartbeats 4000000 in
set_option maxRecDepth 100000 in
theorem p_X12_goes_116 {l : Launch} {E : gE} (J : J_X12_goes E l) {k29 : Int32 → gS → gM → gN → Option (gM × gN)} (H29 : ∀ (x1 : Int32) (σ : gS) (M : gM) (N : gN) (_ : g_layM σ), g_H E 0 0 29 [(0, vR 40), (1, vI x1)] [] (σ, M, N) (k29 x1 σ M N) (eVMN σ)) (x1 : Int32) (x2 : Int32) (x3 : Int32) (x4 : Int32) (σ : gS) (M : gM) (N : gN) (hL : g_layM σ) : g_H E 0 0 116 [(0, vR 40), (1, vI x1), (2, vI x2), (3, vI x3), (4, vI x4)] [] (σ, M, N) (b_X12_goes_116 k29 x1 x2 x3 x4 σ M N) (eVMN σ) := by
  unfold b_X12_goes_116
  refine r_run J 1 (pc' := 117) (lv' := [(0, vR 40), (1, vI x1), (2, vI x2), (3, vI x3), (4, vI x4)]) (st' := [vR 40]) rfl ?_
  refine r_getI J cls12 rfl (k := 51) (by decide) wf_12_294 rfl (ly_40 hL) ?_
  show g_H E 0 0 120 [(0, vR 40), (1, vI x1), (2, vI x2), (3, vI x3), (4, vI x4)] [vI (M 40 51)] (σ, M, N) _ _
  refine r_if_le J (tgt := 124) rfl (by decide) (fun c120 => ?_) (fun c120 => ?_)
  · exact r_vret J rfl rfl rfl (by decide) (by decide)
  · refine r_run J 2 (pc' := 127) (lv' := [(0, vR 40), (1, vI x1), (2, vI x2), (3, vI x3), (4, vI x4)]) (st' := [vI 59, vR 40]) rfl ?_
    refine r_callV J (As := [vI 59]) (st := []) (fun r hr => c_X12_isSign 59 σ M N hL r hr) cls12 (ly_40 hL) wm_12_300 wy_X12_isSign wd_X12_isSign ⟨by decide, by decide, by decide, by decide, Nat.le_of_ble_eq_true rfl⟩ rfl rfl (fun q127 hq127 => ?_)
    show g_H E 0 0 130 [(0, vR 40), (1, vI x1), (2, vI x2), (3, vI x3), (4, vI x4)] [vI q127] (σ, M, N) _ _
    refine r_if_ne J (tgt := 139) rfl (by decide) (fun c130 => ?_) (fun c130 => ?_)
    · refine r_run J 2 (pc' := 135) (lv' := [(0, vR 40), (1, vI x1), (2, vI x2), (3, vI x3), (4, vI x4)]) (st' := [vI 1, vR 40]) rfl ?_
      refine r_callV J (As := [vI 1]) (st := []) (fun r hr => c_X12_wrong 1 σ M N hL r hr) cls12 (ly_40 hL) wm_12_306 wy_X12_wrong wd_X12_wrong ⟨by decide, by decide, by decide, by decide, Nat.le_of_ble_eq_true rfl⟩ rfl rfl (fun q135 hq135 => ?_)
      show g_H E 0 0 138 [(0, vR 40), (1, vI x1), (2, vI x2), (3, vI x3), (4, vI x4)] [] (σ, q135, N) _ _
      exact r_vret J rfl rfl rfl (by decide) (by decide)
    · refine r_run J 1 (pc' := 140) (lv' := [(0, vR 40), (1, vI x1), (2, vI x2), (3, vI x3), (4, vI x4)]) (st' := [vR 40]) rfl ?_
      refine r_callV J (As := []) (st := []) (fun r hr => c_X12_next σ M N hL r hr) cls12 (ly_40 hL) wm_12_309 wy_X12_next wd_X12_next ⟨by decide, by decide, by decide, by decide, Nat.le_of_ble_eq_true rfl⟩ rfl rfl (fun q140 hq140 => ?_)
      show g_H E 0 0 143 [(0, vR 40), (1, vI x1), (2, vI x2), (3, vI x3), (4, vI x4)] [] (σ, q140.1, q140.2) _ _
      refine r_run J 2 (pc' := 145) (lv' := [(0, vR 40), (1, vI x1), (2, vI x2), (3, vI x3), (4, vI x4)]) (st' := [vR 40, vR 40]) rfl ?_
      refine r_getI J cls12 rfl (k := 58) (by decide) wf_12_361 rfl (ly_40 hL) ?_
      show g_H E 0 0 148 [(0, vR 40), (1, vI x1), (2, vI x2), (3, vI x3), (4, vI x4)] [vI (q140.1 40 58), vR 40] (σ, q140.1, q140.2) _ _
      refine r_run J 2 (pc' := 150) (lv' := [(0, vR 40), (1, vI x1), (2, vI x2), (3, vI x3), (4, vI x4)]) (st' := [vI ((q140.1 40 58) + (1 : Int32)), vR 40]) rfl ?_
      refine r_putI J cls12 rfl (k := 58) (by decide) wf_12_361 rfl (Or.inl rfl) ⟨rfl, rfl⟩ (ly_40 hL) ?_
      show g_H E 0 0 153 [(0, vR 40), (1, vI x1), (2, vI x2), (3, vI x3), (4, vI x4)] [] (σ, (g_up q140.1 40 58 ((q140.1 40 58) + (1 : Int32))), q140.2) _ _
      refine r_run J 2 (pc' := 155) (lv' := [(0, vR 40), (1, vI x1), (2, vI x2), (3, vI x3), (4, vI x4)]) (st' := [vI x1, vI x2]) rfl ?_
      refine r_icmp_ne J (tgt := 195) rfl (by decide) (fun c155 => ?_) (fun c155 => ?_)
      · refine r_run J 1 (pc' := 160) (lv' := [(0, vR 40), (1, vI x1), (2, vI x2), (3, vI x3), (4, vI x4)]) (st' := [vI x4]) rfl ?_
        refine r_if_eq J (tgt := 195) rfl (by decide) (fun c160 => ?_) (fun c160 => ?_)
        · refine r_sub [0, 1] (lv' := [(0, vR 40), (1, vI x1)]) rfl ?_
          exact p_X12_goes_195 J H29 x1 σ (g_up q140.1 40 58 ((q140.1 40 58) + (1 : Int32))) q140.2 hL
        · refine r_run J 1 (pc' := 164) (lv' := [(0, vR 40), (1, vI x1), (2, vI x2), (3, vI x3), (4, vI x4)]) (st' := [vR 40]) rfl ?_
          refine r_getI J cls12 rfl (k := 59) (by decide) wf_12_364 rfl (ly_40 hL) ?_
          show g_H E 0 0 167 [(0, vR 40), (1, vI x1), (2, vI x2), (3, vI x3), (4, vI x4)] [vI ((g_up q140.1 40 58 ((q140.1 40 58) + (1 : Int32))) 40 59)] (σ, (g_up q140.1 40 58 ((q140.1 40 58) + (1 : Int32))), q140.2) _ _
          refine r_run J 1 (pc' := 168) (lv' := [(0, vR 40), (1, vI x1), (2, vI x2), (3, vI x3), (4, vI x4)]) (st' := [vI (-1), vI ((g_up q140.1 40 58 ((q140.1 40 58) + (1 : Int32))) 40 59)]) rfl ?_
          refine r_icmp_ne J (tgt := 195) rfl (by decide) (fun c168 => ?_) (fun c168 => ?_)
          · refine r_run J 2 (pc' := 173) (lv' := [(0, vR 40), (1, vI x1), (2, vI x2), (3, vI x3), (4, vI x4)]) (st' := [vI x3, vR 40]) rfl ?_
            refine r_if_ge J (tgt := 180) rfl (by decide) (fun c173 => ?_) (fun c173 => ?_)
            · refine r_run J 2 (pc' := 192) (lv' := [(0, vR 40), (1, vI x1), (2, vI x2), (3, vI x3), (4, vI x4)]) (st' := [vI 0, vR 40]) rfl ?_
              refine r_sub [0, 1] (lv' := [(0, vR 40), (1, vI x1)]) rfl ?_
              exact p_X12_goes_192 J H29 x1 0 σ (g_up q140.1 40 58 ((q140.1 40 58) + (1 : Int32))) q140.2 hL
            · refine r_run J 2 (pc' := 183) (lv' := [(0, vR 40), (1, vI x1), (2, vI x2), (3, vI x3), (4, vI x4)]) (st' := [vI 100, vI x3, vR 40]) rfl ?_
              refine r_icmp_le J (tgt := 191) rfl (by decide) (fun c183 => ?_) (fun c183 => ?_)
              · refine r_run J 2 (pc' := 192) (lv' := [(0, vR 40), (1, vI x1), (2, vI x2), (3, vI x3), (4, vI x4)]) (st' := [vI 100, vR 40]) rfl ?_
                refine r_sub [0, 1] (lv' := [(0, vR 40), (1, vI x1)]) rfl ?_
                exact p_X12_goes_192 J H29 x1 100 σ (g_up q140.1 40 58 ((q140.1 40 58) + (1 : Int32))) q140.2 hL
              · refine r_run J 1 (pc' := 192) (lv' := [(0, vR 40), (1, vI x1), (2, vI x2), (3, vI x3), (4, vI x4)]) (st' := [vI x3, vR 40]) rfl ?_
                refine r_sub [0, 1] (lv' := [(0, vR 40), (1, vI x1)]) rfl ?_
                exact p_X12_goes_192 J H29 x1 x3 σ (g_up q140.1 40 58 ((q140.1 40 58) + (1 : Int32))) q140.2 hL
          · refine r_sub [0, 1] (lv' := [(0, vR 40), (1, vI x1)]) rfl ?_
            exact p_X12_goes_195 J H29 x1 σ (g_up q140.1 40 58 ((q140.1 40 58) + (1 : Int32))) q140.2 hL
      · refine r_sub [0, 1] (lv' := [(0, vR 40), (1, vI x1)]) rfl ?_
        exact p_X12_goes_195 J H29 x1 σ (g_up q140.1 40 58 ((q140.1 40 58) + (1 : Int32))) q140.2 hL
set_option maxHeartbeats 4000000 in
set_option maxRecDepth 100000 in
theorem p_X12_goes_29 {l : Launch} {E : gE} (J : J_X12_goes E l) : ∀ (n : Nat) (x1 : Int32) (σ : gS) (M : gM) (N : gN) (hL : g_layM σ), g_H E 0 0 29 [(0, vR 40), (1, vI x1)] [] (σ, M, N) (l_X12_goes_29 n x1 σ M N) (eVMN σ) := by
  intro n
  induction n with
  | zero => intros; exact h_none
  | succ n ih =>
    intro x1 σ M N hL
    rw [l_X12_goes_29]
    refine r_run J 1 (pc' := 30) (lv' := [(0, vR 40), (1, vI x1)]) (st' := [vR 40]) rfl ?_
    refine r_getI J cls12 rfl (k := 51) (by decide) wf_12_294 rfl (ly_40 hL) ?_
    show g_H E 0 0 33 [(0, vR 40), (1, vI x1)] [vI (M 40 51)] (σ, M, N) _ _
    refine r_if_ne J (tgt := 198) rfl (by decide) (fun c33 => ?_) (fun c33 => ?_)
    · refine r_run J 1 (pc' := 37) (lv' := [(0, vR 40), (1, vI x1)]) (st' := [vR 40]) rfl ?_
      refine r_getI J cls12 rfl (k := 49) (by decide) wf_12_262 rfl (ly_40 hL) ?_
      show g_H E 0 0 40 [(0, vR 40), (1, vI x1)] [vI (M 40 49)] (σ, M, N) _ _
      refine r_if_eq J (tgt := 198) rfl (by decide) (fun c40 => ?_) (fun c40 => ?_)
      · exact r_vret J rfl rfl rfl (by decide) (by decide)
      · refine r_run J 1 (pc' := 44) (lv' := [(0, vR 40), (1, vI x1)]) (st' := [vR 40]) rfl ?_
        refine r_callV J (As := []) (st := []) (fun r hr => c_X12_kindHere σ M N hL r hr) cls12 (ly_40 hL) wm_12_367 wy_X12_kindHere wd_X12_kindHere ⟨by decide, by decide, by decide, by decide, Nat.le_of_ble_eq_true rfl⟩ rfl rfl (fun q44 hq44 => ?_)
        show g_H E 0 0 47 [(0, vR 40), (1, vI x1)] [vI q44] (σ, M, N) _ _
        refine r_run J 3 (pc' := 50) (lv' := [(2, vI q44), (0, vR 40), (1, vI x1)]) (st' := [vI (-1), vI q44]) rfl ?_
        refine r_icmp_eq J (tgt := 62) rfl (by decide) (fun c50 => ?_) (fun c50 => ?_)
        · refine r_sub [1, 0] (lv' := [(0, vR 40), (2, vI q44)]) rfl ?_
          exact p_X12_goes_62 J q44 σ M N hL
        · refine r_run J 1 (pc' := 54) (lv' := [(2, vI q44), (0, vR 40), (1, vI x1)]) (st' := [vR 40]) rfl ?_
          refine r_getI J cls12 rfl (k := 58) (by decide) wf_12_361 rfl (ly_40 hL) ?_
          show g_H E 0 0 57 [(2, vI q44), (0, vR 40), (1, vI x1)] [vI (M 40 58)] (σ, M, N) _ _
          refine r_run J 1 (pc' := 59) (lv' := [(2, vI q44), (0, vR 40), (1, vI x1)]) (st' := [vI 12, vI (M 40 58)]) rfl ?_
          refine r_icmp_ne J (tgt := 77) rfl (by decide) (fun c59 => ?_) (fun c59 => ?_)
          · refine r_sub [1, 0] (lv' := [(0, vR 40), (2, vI q44)]) rfl ?_
            exact p_X12_goes_62 J q44 σ M N hL
          · refine r_run J 1 (pc' := 78) (lv' := [(2, vI q44), (0, vR 40), (1, vI x1)]) (st' := [vR 40]) rfl ?_
            refine r_callV J (As := []) (st := []) (fun r hr => c_X12_next σ M N hL r hr) cls12 (ly_40 hL) wm_12_309 wy_X12_next wd_X12_next ⟨by decide, by decide, by decide, by decide, Nat.le_of_ble_eq_true rfl⟩ rfl rfl (fun q78 hq78 => ?_)
            show g_H E 0 0 81 [(2, vI q44), (0, vR 40), (1, vI x1)] [] (σ, q78.1, q78.2) _ _
            refine r_run J 1 (pc' := 82) (lv' := [(2, vI q44), (0, vR 40), (1, vI x1)]) (st' := [vR 40]) rfl ?_
            refine r_callV J (As := []) (st := []) (fun r hr => c_X12_whole 64 σ q78.1 q78.2 hL r hr) cls12 (ly_40 hL) wm_12_312 wy_X12_whole wd_X12_whole ⟨by omega, by decide, by decide, by decide, Nat.le_of_ble_eq_true rfl⟩ rfl rfl (fun q82 hq82 => ?_)
            show g_H E 0 0 85 [(2, vI q44), (0, vR 40), (1, vI x1)] [vI q82.1] (σ, q82.2.1, q82.2.2) _ _
            refine r_run J 4 (pc' := 90) (lv' := [(4, vI 1), (3, vI q82.1), (2, vI q44), (0, vR 40), (1, vI x1)]) (st' := [vR 40]) rfl ?_
            refine r_getI J cls12 rfl (k := 51) (by decide) wf_12_294 rfl (ly_40 hL) ?_
            show g_H E 0 0 93 [(4, vI 1), (3, vI q82.1), (2, vI q44), (0, vR 40), (1, vI x1)] [vI (q82.2.1 40 51)] (σ, q82.2.1, q82.2.2) _ _
            refine r_if_ne J (tgt := 116) rfl (by decide) (fun c93 => ?_) (fun c93 => ?_)
            · refine r_run J 1 (pc' := 97) (lv' := [(4, vI 1), (3, vI q82.1), (2, vI q44), (0, vR 40), (1, vI x1)]) (st' := [vR 40]) rfl ?_
              refine r_ldc2 J rfl wc_12_370 ?_
              refine r_callV J (As := [vL 458690]) (st := []) (fun r hr => c_X12_isWord 458690 σ q82.2.1 q82.2.2 hL r hr) cls12 (ly_40 hL) wm_12_318 wy_X12_isWord wd_X12_isWord ⟨by decide, by decide, by decide, by decide, Nat.le_of_ble_eq_true rfl⟩ rfl rfl (fun q100 hq100 => ?_)
              show g_H E 0 0 103 [(4, vI 1), (3, vI q82.1), (2, vI q44), (0, vR 40), (1, vI x1)] [vI q100] (σ, q82.2.1, q82.2.2) _ _
              refine r_if_eq J (tgt := 116) rfl (by decide) (fun c103 => ?_) (fun c103 => ?_)
              · refine r_sub [3, 4, 2, 1, 0] (lv' := [(0, vR 40), (1, vI x1), (2, vI q44), (3, vI q82.1), (4, vI 1)]) rfl ?_
                exact p_X12_goes_116 J ih x1 q44 q82.1 1 σ q82.2.1 q82.2.2 hL
              · refine r_run J 1 (pc' := 107) (lv' := [(4, vI 1), (3, vI q82.1), (2, vI q44), (0, vR 40), (1, vI x1)]) (st' := [vR 40]) rfl ?_
                refine r_callV J (As := []) (st := []) (fun r hr => c_X12_next σ q82.2.1 q82.2.2 hL r hr) cls12 (ly_40 hL) wm_12_309 wy_X12_next wd_X12_next ⟨by decide, by decide, by decide, by decide, Nat.le_of_ble_eq_true rfl⟩ rfl rfl (fun q107 hq107 => ?_)
                show g_H E 0 0 110 [(4, vI 1), (3, vI q82.1), (2, vI q44), (0, vR 40), (1, vI x1)] [] (σ, q107.1, q107.2) _ _
                refine r_run J 1 (pc' := 111) (lv' := [(4, vI 1), (3, vI q82.1), (2, vI q44), (0, vR 40), (1, vI x1)]) (st' := [vR 40]) rfl ?_
                refine r_callV J (As := []) (st := []) (fun r hr => c_X12_whole 64 σ q107.1 q107.2 hL r hr) cls12 (ly_40 hL) wm_12_312 wy_X12_whole wd_X12_whole ⟨by omega, by decide, by decide, by decide, Nat.le_of_ble_eq_true rfl⟩ rfl rfl (fun q111 hq111 => ?_)
                show g_H E 0 0 114 [(4, vI 1), (3, vI q82.1), (2, vI q44), (0, vR 40), (1, vI x1)] [vI q111.1] (σ, q111.2.1, q111.2.2) _ _
                refine r_run J 1 (pc' := 116) (lv' := [(4, vI q111.1), (3, vI q82.1), (2, vI q44), (0, vR 40), (1, vI x1)]) (st' := []) rfl ?_
                refine r_sub [3, 4, 2, 1, 0] (lv' := [(0, vR 40), (1, vI x1), (2, vI q44), (3, vI q82.1), (4, vI q111.1)]) rfl ?_
                exact p_X12_goes_116 J ih x1 q44 q82.1 q111.1 σ q111.2.1 q111.2.2 hL
            · refine r_sub [3, 4, 2, 1, 0] (lv' := [(0, vR 40), (1, vI x1), (2, vI q44), (3, vI q82.1), (4, vI 1)]) rfl ?_
              exact p_X12_goes_116 J ih x1 q44 q82.1 1 σ q82.2.1 q82.2.2 hL
    · exact r_vret J rfl rfl rfl (by decide) (by decide)
set_option maxHeartbeats 4000000 in
set_option maxRecDepth 100000 in
theorem p_X12_goes_15 {l : Launch} {E : gE} (J : J_X12_goes E l) (x1 : Int32) (σ : gS) (M : gM) (N : gN) (hL : g_layM σ) : g_H E 0 0 15 [(0, vR 40), (1, vI x1)] [] (σ, M, N) (b_X12_goes_15 x1 σ M N) (eVMN σ) := by
  unfold b_X12_goes_15
  refine r_run J 2 (pc' := 17) (lv' := [(0, vR 40), (1, vI x1)]) (st' := [vI 0, vR 40]) rfl ?_
  refine r_putI J cls12 rfl (k := 58) (by decide) wf_12_361 rfl (Or.inl rfl) ⟨rfl, rfl⟩ (ly_40 hL) ?_
  show g_H E 0 0 20 [(0, vR 40), (1, vI x1)] [] (σ, (g_up M 40 58 0), N) _ _
  refine r_run J 2 (pc' := 22) (lv' := [(0, vR 40), (1, vI x1)]) (st' := [vI (-1), vR 40]) rfl ?_
  refine r_putI J cls12 rfl (k := 59) (by decide) wf_12_364 rfl (Or.inl rfl) ⟨rfl, rfl⟩ (ly_40 hL) ?_
  show g_H E 0 0 25 [(0, vR 40), (1, vI x1)] [] (σ, (g_up (g_up M 40 58 0) 40 59 (-1)), N) _ _
  refine r_run J 1 (pc' := 26) (lv' := [(0, vR 40), (1, vI x1)]) (st' := [vR 40]) rfl ?_
  refine r_callV J (As := []) (st := []) (fun r hr => c_X12_next σ (g_up (g_up M 40 58 0) 40 59 (-1)) N hL r hr) cls12 (ly_40 hL) wm_12_309 wy_X12_next wd_X12_next ⟨by decide, by decide, by decide, by decide, Nat.le_of_ble_eq_true rfl⟩ rfl rfl (fun q26 hq26 => ?_)
  show g_H E 0 0 29 [(0, vR 40), (1, vI x1)] [] (σ, q26.1, q26.2) _ _
  exact p_X12_goes_29 J g_FU x1 σ q26.1 q26.2 hL
set_option maxHeartbeats 4000000 in
set_option maxRecDepth 100000 in
theorem p_X12_goes_0 {l : Launch} {E : gE} (J : J_X12_goes E l) (x1 : Int32) (σ : gS) (M : gM) (N : gN) (hL : g_layM σ) : g_H E 0 0 0 [(0, vR 40), (1, vI x1)] [] (σ, M, N) (b_X12_goes_0 x1 σ M N) (eVMN σ) := by
  unfold b_X12_goes_0
  refine r_run J 2 (pc' := 2) (lv' := [(0, vR 40), (1, vI x1)]) (st' := [vI 0, vR 40]) rfl ?_
  refine r_putI J cls12 rfl (k := 47) (by decide) wf_12_249 rfl (Or.inl rfl) ⟨rfl, rfl⟩ (ly_40 hL) ?_
  show g_H E 0 0 5 [(0, vR 40), (1, vI x1)] [] (σ, (g_up M 40 47 0), N) _ _
  refine r_run J 2 (pc' := 7) (lv' := [(0, vR 40), (1, vI x1)]) (st' := [vI 0, vR 40]) rfl ?_
  refine r_putI J cls12 rfl (k := 50) (by decide) wf_12_303 rfl (Or.inl rfl) ⟨rfl, rfl⟩ (ly_40 hL) ?_
  show g_H E 0 0 10 [(0, vR 40), (1, vI x1)] [] (σ, (g_up (g_up M 40 47 0) 40 50 0), N) _ _
  refine r_run J 2 (pc' := 12) (lv' := [(0, vR 40), (1, vI x1)]) (st' := [vI 0, vR 40]) rfl ?_
  refine r_putI J cls12 rfl (k := 51) (by decide) wf_12_294 rfl (Or.inl rfl) ⟨rfl, rfl⟩ (ly_40 hL) ?_
  show g_H E 0 0 15 [(0, vR 40), (1, vI x1)] [] (σ, (g_up (g_up (g_up M 40 47 0) 40 50 0) 40 51 0), N) _ _
  exact p_X12_goes_15 J x1 σ (g_up (g_up (g_up M 40 47 0) 40 50 0) 40 51 0) N hL
theorem c_X12_goes {l : Launch} (x1 : Int32) (σ : gS) (M : gM) (N : gN) (hL : g_layM σ) (r : gM × gN) (h : f_X12_goes x1 σ M N = some r) : g_Ct l yX12_goes cX12_goes 5 none 68 0 0 [vR 40, vI x1] (σ, M, N) (eVMN σ r) :=
  g_Ct.of tb_X12_goes (by decide +kernel) tk_X12_goes (Nat.le_of_ble_eq_true rfl) (fun E J => p_X12_goes_0 J x1 σ M N hL r h)
def tb_X12_read : gT := [(0, .aload_n 0, 1, 0), (1, .iload_n 1, 1, 0), (2, .invokevirtual 170, 3, 0), (5, .ifCond .ne 5, 3, 0), (8, .iconst (-1), 1, (-1)), (9, .ireturn, 1, 0), (10, .aload_n 0, 1, 0), (11, .aload_n 0, 1, 0), (12, .getfield 246, 3, 0), (15, .putfield 252, 3, 0), (18, .iconst 0, 1, 0), (19, .istore_n 2, 1, 0), (20, .iload_n 2, 1, 0), (21, .aload_n 0, 1, 0), (22, .getfield 246, 3, 0), (25, .if_icmp .ge 21, 3, 0), (28, .aload_n 0, 1, 0), (29, .getfield 121, 3, 0), (32, .iload_n 2, 1, 0), (33, .aload_n 0, 1, 0), (34, .getfield 108, 3, 0), (37, .iload_n 2, 1, 0), (38, .baload, 1, 0), (39, .bastore, 1, 0), (40, .iinc 2 1, 3, 1), (43, .goto (-23), 3, 0), (46, .aload_n 0, 1, 0), (47, .iconst 0, 1, 0), (48, .putfield 246, 3, 0), (51, .aload_n 0, 1, 0), (52, .iconst (-1), 1, (-1)), (53, .invokevirtual 372, 3, 0), (56, .aload_n 0, 1, 0), (57, .getfield 294, 3, 0), (60, .ifCond .le 16, 3, 0), (63, .aload_n 0, 1, 0), (64, .getfield 294, 3, 0), (67, .bipush 10, 2, 10), (69, .aload_n 0, 1, 0), (70, .getfield 297, 3, 0), (73, .imul, 1, 0), (74, .iadd, 1, 0), (75, .ireturn, 1, 0), (76, .iconst 0, 1, 0), (77, .istore_n 2, 1, 0), (78, .iload_n 2, 1, 0), (79, .aload_n 0, 1, 0), (80, .getfield 252, 3, 0), (83, .if_icmp .ge 27, 3, 0), (86, .aload_n 0, 1, 0), (87, .getfield 112, 3, 0), (90, .sipush 400, 3, 400), (93, .iload_n 1, 1, 0), (94, .imul, 1, 0), (95, .iload_n 2, 1, 0), (96, .iadd, 1, 0), (97, .aload_n 0, 1, 0), (98, .getfield 121, 3, 0), (101, .iload_n 2, 1, 0), (102, .baload, 1, 0), (103, .bastore, 1, 0), (104, .iinc 2 1, 3, 1), (107, .goto (-29), 3, 0), (110, .aload_n 0, 1, 0), (111, .getfield 115, 3, 0), (114, .iload_n 1, 1, 0), (115, .aload_n 0, 1, 0), (116, .getfield 252, 3, 0), (119, .iastore, 1, 0), (120, .aload_n 0, 1, 0), (121, .getfield 118, 3, 0), (124, .iload_n 1, 1, 0), (125, .aload_n 0, 1, 0), (126, .getfield 361, 3, 0), (129, .iastore, 1, 0), (130, .iconst 0, 1, 0), (131, .ireturn, 1, 0)]
set_option maxRecDepth 100000 in
theorem tk_X12_read : g_okT cX12_read tb_X12_read = true := by decide +kernel
abbrev J_X12_read (E : gE) (l : Launch) : Prop := g_J E cX12_read RX12 "read" (some .int) 3 tb_X12_read 69 0 0 l
set_option maxHeartbeats 4000000 in
set_option maxRecDepth 100000 in
theorem p_X12_read_130 {l : Launch} {E : gE} (J : J_X12_read E l) (σ : gS) (M : gM) (N : gN) (hL : g_layM σ) : g_H E 0 0 130 [] [] (σ, M, N) (b_X12_read_130 σ M N) (eIMN σ) := by
  unfold b_X12_read_130
  refine r_run J 1 (pc' := 131) (lv' := []) (st' := [vI 0]) rfl ?_
  exact r_iret J rfl rfl rfl rfl (by decide) (by decide)
set_option maxHeartbeats 4000000 in
set_option maxRecDepth 100000 in
theorem p_X12_read_78 {l : Launch} {E : gE} (J : J_X12_read E l) : ∀ (n : Nat) (x1 : Int32) (x2 : Int32) (σ : gS) (M : gM) (N : gN) (hL : g_layM σ), g_H E 0 0 78 [(0, vR 40), (1, vI x1), (2, vI x2)] [] (σ, M, N) (l_X12_read_78 n x1 x2 σ M N) (eIMN σ) := by
  intro n
  induction n with
  | zero => intros; exact h_none
  | succ n ih =>
    intro x1 x2 σ M N hL
    rw [l_X12_read_78]
    refine r_run J 2 (pc' := 80) (lv' := [(0, vR 40), (1, vI x1), (2, vI x2)]) (st' := [vR 40, vI x2]) rfl ?_
    refine r_getI J cls12 rfl (k := 46) (by decide) wf_12_252 rfl (ly_40 hL) ?_
    show g_H E 0 0 83 [(0, vR 40), (1, vI x1), (2, vI x2)] [vI (M 40 46), vI x2] (σ, M, N) _ _
    refine r_icmp_ge J (tgt := 110) rfl (by decide) (fun c83 => ?_) (fun c83 => ?_)
    · refine r_run J 1 (pc' := 87) (lv' := [(0, vR 40), (1, vI x1), (2, vI x2)]) (st' := [vR 40]) rfl ?_
      refine r_getR J cls12 rfl (k := 42) (t := 13) (by decide) wf_12_112 rfl rfl (ly_40 hL) (lr_40_42 hL) (fun _ => ?_)
      show g_H E 0 0 90 [(0, vR 40), (1, vI x1), (2, vI x2)] [vR 71] (σ, M, N) _ _
      refine r_run J 6 (pc' := 98) (lv' := [(0, vR 40), (1, vI x1), (2, vI x2)]) (st' := [vR 40, vI (((400 : Int32) * x1) + x2), vR 71]) rfl ?_
      refine r_getR J cls12 rfl (k := 45) (t := 13) (by decide) wf_12_121 rfl rfl (ly_40 hL) (lr_40_45 hL) (fun _ => ?_)
      show g_H E 0 0 101 [(0, vR 40), (1, vI x1), (2, vI x2)] [vR 74, vI (((400 : Int32) * x1) + x2), vR 71] (σ, M, N) _ _
      refine r_run J 1 (pc' := 102) (lv' := [(0, vR 40), (1, vI x1), (2, vI x2)]) (st' := [vI x2, vR 74, vI (((400 : Int32) * x1) + x2), vR 71]) rfl ?_
      refine r_bald J rfl (ly_74 hL) (fun i102 => ?_)
      show g_H E 0 0 103 [(0, vR 40), (1, vI x1), (2, vI x2)] [vI (M 74 x2.toNatClampNeg), vI (((400 : Int32) * x1) + x2), vR 71] (σ, M, N) _ _
      refine r_bast J rfl (ly_71 hL) (fun i103 => ?_)
      show g_H E 0 0 104 [(0, vR 40), (1, vI x1), (2, vI x2)] [] (σ, (g_up M 71 ((((400 : Int32) * x1) + x2).toNatClampNeg) (vp_nar .byte (M 74 x2.toNatClampNeg))), N) _ _
      refine r_run J 2 (pc' := 78) (lv' := [(2, vI (x2 + 1)), (0, vR 40), (1, vI x1)]) (st' := []) rfl ?_
      refine r_sub [1, 2, 0] (lv' := [(0, vR 40), (1, vI x1), (2, vI (x2 + 1))]) rfl ?_
      exact ih x1 (x2 + 1) σ (g_up M 71 ((((400 : Int32) * x1) + x2).toNatClampNeg) (vp_nar .byte (M 74 x2.toNatClampNeg))) N hL
    · refine r_run J 1 (pc' := 111) (lv' := [(0, vR 40), (1, vI x1), (2, vI x2)]) (st' := [vR 40]) rfl ?_
      refine r_getR J cls12 rfl (k := 43) (t := 14) (by decide) wf_12_115 rfl rfl (ly_40 hL) (lr_40_43 hL) (fun _ => ?_)
      show g_H E 0 0 114 [(0, vR 40), (1, vI x1), (2, vI x2)] [vR 72] (σ, M, N) _ _
      refine r_run J 2 (pc' := 116) (lv' := [(0, vR 40), (1, vI x1), (2, vI x2)]) (st' := [vR 40, vI x1, vR 72]) rfl ?_
      refine r_getI J cls12 rfl (k := 46) (by decide) wf_12_252 rfl (ly_40 hL) ?_
      show g_H E 0 0 119 [(0, vR 40), (1, vI x1), (2, vI x2)] [vI (M 40 46), vI x1, vR 72] (σ, M, N) _ _
      refine r_iast J rfl (ly_72 hL) (fun i119 => ?_)
      show g_H E 0 0 120 [(0, vR 40), (1, vI x1), (2, vI x2)] [] (σ, (g_up M 72 (x1.toNatClampNeg) (M 40 46)), N) _ _
      refine r_run J 1 (pc' := 121) (lv' := [(0, vR 40), (1, vI x1), (2, vI x2)]) (st' := [vR 40]) rfl ?_
      refine r_getR J cls12 rfl (k := 44) (t := 14) (by decide) wf_12_118 rfl rfl (ly_40 hL) (lr_40_44 hL) (fun _ => ?_)
      show g_H E 0 0 124 [(0, vR 40), (1, vI x1), (2, vI x2)] [vR 73] (σ, (g_up M 72 (x1.toNatClampNeg) (M 40 46)), N) _ _
      refine r_run J 2 (pc' := 126) (lv' := [(0, vR 40), (1, vI x1), (2, vI x2)]) (st' := [vR 40, vI x1, vR 73]) rfl ?_
      refine r_getI J cls12 rfl (k := 58) (by decide) wf_12_361 rfl (ly_40 hL) ?_
      show g_H E 0 0 129 [(0, vR 40), (1, vI x1), (2, vI x2)] [vI ((g_up M 72 (x1.toNatClampNeg) (M 40 46)) 40 58), vI x1, vR 73] (σ, (g_up M 72 (x1.toNatClampNeg) (M 40 46)), N) _ _
      refine r_iast J rfl (ly_73 hL) (fun i129 => ?_)
      show g_H E 0 0 130 [(0, vR 40), (1, vI x1), (2, vI x2)] [] (σ, (g_up (g_up M 72 (x1.toNatClampNeg) (M 40 46)) 73 (x1.toNatClampNeg) ((g_up M 72 (x1.toNatClampNeg) (M 40 46)) 40 58)), N) _ _
      refine r_sub [] (lv' := []) rfl ?_
      exact p_X12_read_130 J σ (g_up (g_up M 72 (x1.toNatClampNeg) (M 40 46)) 73 (x1.toNatClampNeg) ((g_up M 72 (x1.toNatClampNeg) (M 40 46)) 40 58)) N hL
set_option maxHeartbeats 4000000 in
set_option maxRecDepth 100000 in
theorem p_X12_read_20 {l : Launch} {E : gE} (J : J_X12_read E l) : ∀ (n : Nat) (x1 : Int32) (x2 : Int32) (σ : gS) (M : gM) (N : gN) (hL : g_layM σ), g_H E 0 0 20 [(0, vR 40), (1, vI x1), (2, vI x2)] [] (σ, M, N) (l_X12_read_20 n x1 x2 σ M N) (eIMN σ) := by
  intro n
  induction n with
  | zero => intros; exact h_none
  | succ n ih =>
    intro x1 x2 σ M N hL
    rw [l_X12_read_20]
    refine r_run J 2 (pc' := 22) (lv' := [(0, vR 40), (1, vI x1), (2, vI x2)]) (st' := [vR 40, vI x2]) rfl ?_
    refine r_getI J cls12 rfl (k := 41) (by decide) wf_12_246 rfl (ly_40 hL) ?_
    show g_H E 0 0 25 [(0, vR 40), (1, vI x1), (2, vI x2)] [vI (M 40 41), vI x2] (σ, M, N) _ _
    refine r_icmp_ge J (tgt := 46) rfl (by decide) (fun c25 => ?_) (fun c25 => ?_)
    · refine r_run J 1 (pc' := 29) (lv' := [(0, vR 40), (1, vI x1), (2, vI x2)]) (st' := [vR 40]) rfl ?_
      refine r_getR J cls12 rfl (k := 45) (t := 13) (by decide) wf_12_121 rfl rfl (ly_40 hL) (lr_40_45 hL) (fun _ => ?_)
      show g_H E 0 0 32 [(0, vR 40), (1, vI x1), (2, vI x2)] [vR 74] (σ, M, N) _ _
      refine r_run J 2 (pc' := 34) (lv' := [(0, vR 40), (1, vI x1), (2, vI x2)]) (st' := [vR 40, vI x2, vR 74]) rfl ?_
      refine r_getR J cls12 rfl (k := 40) (t := 13) (by decide) wf_12_108 rfl rfl (ly_40 hL) (lr_40_40 hL) (fun _ => ?_)
      show g_H E 0 0 37 [(0, vR 40), (1, vI x1), (2, vI x2)] [vR 70, vI x2, vR 74] (σ, M, N) _ _
      refine r_run J 1 (pc' := 38) (lv' := [(0, vR 40), (1, vI x1), (2, vI x2)]) (st' := [vI x2, vR 70, vI x2, vR 74]) rfl ?_
      refine r_bald J rfl (ly_70 hL) (fun i38 => ?_)
      show g_H E 0 0 39 [(0, vR 40), (1, vI x1), (2, vI x2)] [vI (M 70 x2.toNatClampNeg), vI x2, vR 74] (σ, M, N) _ _
      refine r_bast J rfl (ly_74 hL) (fun i39 => ?_)
      show g_H E 0 0 40 [(0, vR 40), (1, vI x1), (2, vI x2)] [] (σ, (g_up M 74 (x2.toNatClampNeg) (vp_nar .byte (M 70 x2.toNatClampNeg))), N) _ _
      refine r_run J 2 (pc' := 20) (lv' := [(2, vI (x2 + 1)), (0, vR 40), (1, vI x1)]) (st' := []) rfl ?_
      refine r_sub [1, 2, 0] (lv' := [(0, vR 40), (1, vI x1), (2, vI (x2 + 1))]) rfl ?_
      exact ih x1 (x2 + 1) σ (g_up M 74 (x2.toNatClampNeg) (vp_nar .byte (M 70 x2.toNatClampNeg))) N hL
    · refine r_run J 2 (pc' := 48) (lv' := [(0, vR 40), (1, vI x1), (2, vI x2)]) (st' := [vI 0, vR 40]) rfl ?_
      refine r_putI J cls12 rfl (k := 41) (by decide) wf_12_246 rfl (Or.inl rfl) ⟨rfl, rfl⟩ (ly_40 hL) ?_
      show g_H E 0 0 51 [(0, vR 40), (1, vI x1), (2, vI x2)] [] (σ, (g_up M 40 41 0), N) _ _
      refine r_run J 2 (pc' := 53) (lv' := [(0, vR 40), (1, vI x1), (2, vI x2)]) (st' := [vI (-1), vR 40]) rfl ?_
      refine r_callV J (As := [vI (-1)]) (st := []) (fun r hr => c_X12_goes (-1) σ (g_up M 40 41 0) N hL r hr) cls12 (ly_40 hL) wm_12_372 wy_X12_goes wd_X12_goes ⟨by decide, by decide, by decide, by decide, Nat.le_of_ble_eq_true rfl⟩ rfl rfl (fun q53 hq53 => ?_)
      show g_H E 0 0 56 [(0, vR 40), (1, vI x1), (2, vI x2)] [] (σ, q53.1, q53.2) _ _
      refine r_run J 1 (pc' := 57) (lv' := [(0, vR 40), (1, vI x1), (2, vI x2)]) (st' := [vR 40]) rfl ?_
      refine r_getI J cls12 rfl (k := 51) (by decide) wf_12_294 rfl (ly_40 hL) ?_
      show g_H E 0 0 60 [(0, vR 40), (1, vI x1), (2, vI x2)] [vI (q53.1 40 51)] (σ, q53.1, q53.2) _ _
      refine r_if_le J (tgt := 76) rfl (by decide) (fun c60 => ?_) (fun c60 => ?_)
      · refine r_run J 1 (pc' := 64) (lv' := [(0, vR 40), (1, vI x1), (2, vI x2)]) (st' := [vR 40]) rfl ?_
        refine r_getI J cls12 rfl (k := 51) (by decide) wf_12_294 rfl (ly_40 hL) ?_
        show g_H E 0 0 67 [(0, vR 40), (1, vI x1), (2, vI x2)] [vI (q53.1 40 51)] (σ, q53.1, q53.2) _ _
        refine r_run J 2 (pc' := 70) (lv' := [(0, vR 40), (1, vI x1), (2, vI x2)]) (st' := [vR 40, vI 10, vI (q53.1 40 51)]) rfl ?_
        refine r_getI J cls12 rfl (k := 52) (by decide) wf_12_297 rfl (ly_40 hL) ?_
        show g_H E 0 0 73 [(0, vR 40), (1, vI x1), (2, vI x2)] [vI (q53.1 40 52), vI 10, vI (q53.1 40 51)] (σ, q53.1, q53.2) _ _
        refine r_run J 2 (pc' := 75) (lv' := [(0, vR 40), (1, vI x1), (2, vI x2)]) (st' := [vI ((q53.1 40 51) + ((10 : Int32) * (q53.1 40 52)))]) rfl ?_
        exact r_iret J rfl rfl rfl rfl (by decide) (by decide)
      · refine r_run J 2 (pc' := 78) (lv' := [(2, vI 0), (0, vR 40), (1, vI x1)]) (st' := []) rfl ?_
        refine r_sub [1, 2, 0] (lv' := [(0, vR 40), (1, vI x1), (2, vI 0)]) rfl ?_
        exact p_X12_read_78 J g_FU x1 0 σ q53.1 q53.2 hL
set_option maxHeartbeats 4000000 in
set_option maxRecDepth 100000 in
theorem p_X12_read_0 {l : Launch} {E : gE} (J : J_X12_read E l) (x1 : Int32) (σ : gS) (M : gM) (N : gN) (hL : g_layM σ) : g_H E 0 0 0 [(0, vR 40), (1, vI x1)] [] (σ, M, N) (b_X12_read_0 x1 σ M N) (eIMN σ) := by
  unfold b_X12_read_0
  refine r_run J 2 (pc' := 2) (lv' := [(0, vR 40), (1, vI x1)]) (st' := [vI x1, vR 40]) rfl ?_
  refine r_callV J (As := [vI x1]) (st := []) (fun r hr => c_X12_isTown x1 σ M N hL r hr) cls12 (ly_40 hL) wm_12_170 wy_X12_isTown wd_X12_isTown ⟨by decide, by decide, by decide, by decide, Nat.le_of_ble_eq_true rfl⟩ rfl rfl (fun q2 hq2 => ?_)
  show g_H E 0 0 5 [(0, vR 40), (1, vI x1)] [vI q2] (σ, M, N) _ _
  refine r_if_ne J (tgt := 10) rfl (by decide) (fun c5 => ?_) (fun c5 => ?_)
  · refine r_run J 1 (pc' := 9) (lv' := [(0, vR 40), (1, vI x1)]) (st' := [vI (-1)]) rfl ?_
    exact r_iret J rfl rfl rfl rfl (by decide) (by decide)
  · refine r_run J 2 (pc' := 12) (lv' := [(0, vR 40), (1, vI x1)]) (st' := [vR 40, vR 40]) rfl ?_
    refine r_getI J cls12 rfl (k := 41) (by decide) wf_12_246 rfl (ly_40 hL) ?_
    show g_H E 0 0 15 [(0, vR 40), (1, vI x1)] [vI (M 40 41), vR 40] (σ, M, N) _ _
    refine r_putI J cls12 rfl (k := 46) (by decide) wf_12_252 rfl (Or.inl rfl) ⟨rfl, rfl⟩ (ly_40 hL) ?_
    show g_H E 0 0 18 [(0, vR 40), (1, vI x1)] [] (σ, (g_up M 40 46 (M 40 41)), N) _ _
    refine r_run J 2 (pc' := 20) (lv' := [(2, vI 0), (0, vR 40), (1, vI x1)]) (st' := []) rfl ?_
    refine r_sub [1, 2, 0] (lv' := [(0, vR 40), (1, vI x1), (2, vI 0)]) rfl ?_
    exact p_X12_read_20 J g_FU x1 0 σ (g_up M 40 46 (M 40 41)) N hL
theorem c_X12_read {l : Launch} (x1 : Int32) (σ : gS) (M : gM) (N : gN) (hL : g_layM σ) (r : Int32 × gM × gN) (h : f_X12_read x1 σ M N = some r) : g_Ct l yX12_read cX12_read 3 (some .int) 69 0 0 [vR 40, vI x1] (σ, M, N) (eIMN σ r) :=
  g_Ct.of tb_X12_read (by decide +kernel) tk_X12_read (Nat.le_of_ble_eq_true rfl) (fun E J => p_X12_read_0 J x1 σ M N hL r h)
def tb_X12_told : gT := [(0, .aload_n 0, 1, 0), (1, .aload_n 0, 1, 0), (2, .getfield 115, 3, 0), (5, .iload_n 1, 1, 0), (6, .iaload, 1, 0), (7, .putfield 252, 3, 0), (10, .iconst 0, 1, 0), (11, .istore_n 3, 1, 0), (12, .iload_n 3, 1, 0), (13, .aload_n 0, 1, 0), (14, .getfield 252, 3, 0), (17, .if_icmp .ge 27, 3, 0), (20, .aload_n 0, 1, 0), (21, .getfield 121, 3, 0), (24, .iload_n 3, 1, 0), (25, .aload_n 0, 1, 0), (26, .getfield 112, 3, 0), (29, .sipush 400, 3, 400), (32, .iload_n 1, 1, 0), (33, .imul, 1, 0), (34, .iload_n 3, 1, 0), (35, .iadd, 1, 0), (36, .baload, 1, 0), (37, .bastore, 1, 0), (38, .iinc 3 1, 3, 1), (41, .goto (-29), 3, 0), (44, .aload_n 0, 1, 0), (45, .iload_n 2, 1, 0), (46, .invokevirtual 372, 3, 0), (49, .aload_n 0, 1, 0), (50, .getfield 364, 3, 0), (53, .iconst (-1), 1, (-1)), (54, .if_icmp .ne 7, 3, 0), (57, .iconst 0, 1, 0), (58, .goto 7, 3, 0), (61, .aload_n 0, 1, 0), (62, .getfield 364, 3, 0), (65, .ireturn, 1, 0)]
set_option maxRecDepth 100000 in
theorem tk_X12_told : g_okT cX12_told tb_X12_told = true := by decide +kernel
abbrev J_X12_told (E : gE) (l : Launch) : Prop := g_J E cX12_told RX12 "told" (some .int) 4 tb_X12_told 69 0 0 l
set_option maxHeartbeats 4000000 in
set_option maxRecDepth 100000 in
theorem p_X12_told_12 {l : Launch} {E : gE} (J : J_X12_told E l) : ∀ (n : Nat) (x1 : Int32) (x2 : Int32) (x3 : Int32) (σ : gS) (M : gM) (N : gN) (hL : g_layM σ), g_H E 0 0 12 [(0, vR 40), (1, vI x1), (2, vI x2), (3, vI x3)] [] (σ, M, N) (l_X12_told_12 n x1 x2 x3 σ M N) (eIMN σ) := by
  intro n
  induction n with
  | zero => intros; exact h_none
  | succ n ih =>
    intro x1 x2 x3 σ M N hL
    rw [l_X12_told_12]
    refine r_run J 2 (pc' := 14) (lv' := [(0, vR 40), (1, vI x1), (2, vI x2), (3, vI x3)]) (st' := [vR 40, vI x3]) rfl ?_
    refine r_getI J cls12 rfl (k := 46) (by decide) wf_12_252 rfl (ly_40 hL) ?_
    show g_H E 0 0 17 [(0, vR 40), (1, vI x1), (2, vI x2), (3, vI x3)] [vI (M 40 46), vI x3] (σ, M, N) _ _
    refine r_icmp_ge J (tgt := 44) rfl (by decide) (fun c17 => ?_) (fun c17 => ?_)
    · refine r_run J 1 (pc' := 21) (lv' := [(0, vR 40), (1, vI x1), (2, vI x2), (3, vI x3)]) (st' := [vR 40]) rfl ?_
      refine r_getR J cls12 rfl (k := 45) (t := 13) (by decide) wf_12_121 rfl rfl (ly_40 hL) (lr_40_45 hL) (fun _ => ?_)
      show g_H E 0 0 24 [(0, vR 40), (1, vI x1), (2, vI x2), (3, vI x3)] [vR 74] (σ, M, N) _ _
      refine r_run J 2 (pc' := 26) (lv' := [(0, vR 40), (1, vI x1), (2, vI x2), (3, vI x3)]) (st' := [vR 40, vI x3, vR 74]) rfl ?_
      refine r_getR J cls12 rfl (k := 42) (t := 13) (by decide) wf_12_112 rfl rfl (ly_40 hL) (lr_40_42 hL) (fun _ => ?_)
      show g_H E 0 0 29 [(0, vR 40), (1, vI x1), (2, vI x2), (3, vI x3)] [vR 71, vI x3, vR 74] (σ, M, N) _ _
      refine r_run J 5 (pc' := 36) (lv' := [(0, vR 40), (1, vI x1), (2, vI x2), (3, vI x3)]) (st' := [vI (((400 : Int32) * x1) + x3), vR 71, vI x3, vR 74]) rfl ?_
      refine r_bald J rfl (ly_71 hL) (fun i36 => ?_)
      show g_H E 0 0 37 [(0, vR 40), (1, vI x1), (2, vI x2), (3, vI x3)] [vI (M 71 (((400 : Int32) * x1) + x3).toNatClampNeg), vI x3, vR 74] (σ, M, N) _ _
      refine r_bast J rfl (ly_74 hL) (fun i37 => ?_)
      show g_H E 0 0 38 [(0, vR 40), (1, vI x1), (2, vI x2), (3, vI x3)] [] (σ, (g_up M 74 (x3.toNatClampNeg) (vp_nar .byte (M 71 (((400 : Int32) * x1) + x3).toNatClampNeg))), N) _ _
      refine r_run J 2 (pc' := 12) (lv' := [(3, vI (x3 + 1)), (0, vR 40), (1, vI x1), (2, vI x2)]) (st' := []) rfl ?_
      refine r_sub [1, 2, 3, 0] (lv' := [(0, vR 40), (1, vI x1), (2, vI x2), (3, vI (x3 + 1))]) rfl ?_
      exact ih x1 x2 (x3 + 1) σ (g_up M 74 (x3.toNatClampNeg) (vp_nar .byte (M 71 (((400 : Int32) * x1) + x3).toNatClampNeg))) N hL
    · refine r_run J 2 (pc' := 46) (lv' := [(0, vR 40), (1, vI x1), (2, vI x2), (3, vI x3)]) (st' := [vI x2, vR 40]) rfl ?_
      refine r_callV J (As := [vI x2]) (st := []) (fun r hr => c_X12_goes x2 σ M N hL r hr) cls12 (ly_40 hL) wm_12_372 wy_X12_goes wd_X12_goes ⟨by decide, by decide, by decide, by decide, Nat.le_of_ble_eq_true rfl⟩ rfl rfl (fun q46 hq46 => ?_)
      show g_H E 0 0 49 [(0, vR 40), (1, vI x1), (2, vI x2), (3, vI x3)] [] (σ, q46.1, q46.2) _ _
      refine r_run J 1 (pc' := 50) (lv' := [(0, vR 40), (1, vI x1), (2, vI x2), (3, vI x3)]) (st' := [vR 40]) rfl ?_
      refine r_getI J cls12 rfl (k := 59) (by decide) wf_12_364 rfl (ly_40 hL) ?_
      show g_H E 0 0 53 [(0, vR 40), (1, vI x1), (2, vI x2), (3, vI x3)] [vI (q46.1 40 59)] (σ, q46.1, q46.2) _ _
      refine r_run J 1 (pc' := 54) (lv' := [(0, vR 40), (1, vI x1), (2, vI x2), (3, vI x3)]) (st' := [vI (-1), vI (q46.1 40 59)]) rfl ?_
      refine r_icmp_ne J (tgt := 61) rfl (by decide) (fun c54 => ?_) (fun c54 => ?_)
      · refine r_run J 2 (pc' := 65) (lv' := [(0, vR 40), (1, vI x1), (2, vI x2), (3, vI x3)]) (st' := [vI 0]) rfl ?_
        exact r_iret J rfl rfl rfl rfl (by decide) (by decide)
      · refine r_run J 1 (pc' := 62) (lv' := [(0, vR 40), (1, vI x1), (2, vI x2), (3, vI x3)]) (st' := [vR 40]) rfl ?_
        refine r_getI J cls12 rfl (k := 59) (by decide) wf_12_364 rfl (ly_40 hL) ?_
        show g_H E 0 0 65 [(0, vR 40), (1, vI x1), (2, vI x2), (3, vI x3)] [vI (q46.1 40 59)] (σ, q46.1, q46.2) _ _
        exact r_iret J rfl rfl rfl rfl (by decide) (by decide)
set_option maxHeartbeats 4000000 in
set_option maxRecDepth 100000 in
theorem p_X12_told_0 {l : Launch} {E : gE} (J : J_X12_told E l) (x1 : Int32) (x2 : Int32) (σ : gS) (M : gM) (N : gN) (hL : g_layM σ) : g_H E 0 0 0 [(0, vR 40), (1, vI x1), (2, vI x2)] [] (σ, M, N) (b_X12_told_0 x1 x2 σ M N) (eIMN σ) := by
  unfold b_X12_told_0
  refine r_run J 2 (pc' := 2) (lv' := [(0, vR 40), (1, vI x1), (2, vI x2)]) (st' := [vR 40, vR 40]) rfl ?_
  refine r_getR J cls12 rfl (k := 43) (t := 14) (by decide) wf_12_115 rfl rfl (ly_40 hL) (lr_40_43 hL) (fun _ => ?_)
  show g_H E 0 0 5 [(0, vR 40), (1, vI x1), (2, vI x2)] [vR 72, vR 40] (σ, M, N) _ _
  refine r_run J 1 (pc' := 6) (lv' := [(0, vR 40), (1, vI x1), (2, vI x2)]) (st' := [vI x1, vR 72, vR 40]) rfl ?_
  refine r_iald J rfl (ly_72 hL) (fun i6 => ?_)
  show g_H E 0 0 7 [(0, vR 40), (1, vI x1), (2, vI x2)] [vI (M 72 x1.toNatClampNeg), vR 40] (σ, M, N) _ _
  refine r_putI J cls12 rfl (k := 46) (by decide) wf_12_252 rfl (Or.inl rfl) ⟨rfl, rfl⟩ (ly_40 hL) ?_
  show g_H E 0 0 10 [(0, vR 40), (1, vI x1), (2, vI x2)] [] (σ, (g_up M 40 46 (M 72 x1.toNatClampNeg)), N) _ _
  refine r_run J 2 (pc' := 12) (lv' := [(3, vI 0), (0, vR 40), (1, vI x1), (2, vI x2)]) (st' := []) rfl ?_
  refine r_sub [1, 2, 3, 0] (lv' := [(0, vR 40), (1, vI x1), (2, vI x2), (3, vI 0)]) rfl ?_
  exact p_X12_told_12 J g_FU x1 x2 0 σ (g_up M 40 46 (M 72 x1.toNatClampNeg)) N hL
theorem c_X12_told {l : Launch} (x1 : Int32) (x2 : Int32) (σ : gS) (M : gM) (N : gN) (hL : g_layM σ) (r : Int32 × gM × gN) (h : f_X12_told x1 x2 σ M N = some r) : g_Ct l yX12_told cX12_told 4 (some .int) 69 0 0 [vR 40, vI x1, vI x2] (σ, M, N) (eIMN σ r) :=
  g_Ct.of tb_X12_told (by decide +kernel) tk_X12_told (Nat.le_of_ble_eq_true rfl) (fun E J => p_X12_told_0 J x1 x2 σ M N hL r h)
def tb_X12_heldIn : gT := [(0, .iconst 0, 1, 0), (1, .istore_n 2, 1, 0), (2, .iconst 0, 1, 0), (3, .istore_n 3, 1, 0), (4, .iload_n 3, 1, 0), (5, .aload_n 0, 1, 0), (6, .getfield 51, 3, 0), (9, .iload_n 1, 1, 0), (10, .iaload, 1, 0), (11, .if_icmp .ge 31, 3, 0), (14, .iload_n 2, 1, 0), (15, .aload_n 0, 1, 0), (16, .getfield 63, 3, 0), (19, .bipush 10, 2, 10), (21, .iload_n 1, 1, 0), (22, .imul, 1, 0), (23, .iload_n 3, 1, 0), (24, .iadd, 1, 0), (25, .baload, 1, 0), (26, .ifCond .eq 7, 3, 0), (29, .iconst 1, 1, 1), (30, .goto 4, 3, 0), (33, .iconst 0, 1, 0), (34, .iadd, 1, 0), (35, .istore_n 2, 1, 0), (36, .iinc 3 1, 3, 1), (39, .goto (-35), 3, 0), (42, .iload_n 2, 1, 0), (43, .ireturn, 1, 0)]
set_option maxRecDepth 100000 in
theorem tk_X12_heldIn : g_okT cX12_heldIn tb_X12_heldIn = true := by decide +kernel
abbrev J_X12_heldIn (E : gE) (l : Launch) : Prop := g_J E cX12_heldIn RX12 "heldIn" (some .int) 4 tb_X12_heldIn 1 0 0 l
set_option maxHeartbeats 4000000 in
set_option maxRecDepth 100000 in
theorem p_X12_heldIn_34 {l : Launch} {E : gE} (J : J_X12_heldIn E l) {k4 : Int32 → Int32 → Int32 → gS → gM → Option (Int32)} (H4 : ∀ (x1 : Int32) (x2 : Int32) (x3 : Int32) (σ : gS) (M : gM) (N : gN) (_ : g_layM σ), g_H E 0 0 4 [(0, vR 40), (1, vI x1), (2, vI x2), (3, vI x3)] [] (σ, M, N) (k4 x1 x2 x3 σ M) (eI σ M N)) (x1 : Int32) (x3 : Int32) (sx0 : Int32) (sx1 : Int32) (σ : gS) (M : gM) (N : gN) (hL : g_layM σ) : g_H E 0 0 34 [(0, vR 40), (1, vI x1), (3, vI x3)] [vI sx0, vI sx1] (σ, M, N) (b_X12_heldIn_34 k4 x1 x3 sx0 sx1 σ M) (eI σ M N) := by
  unfold b_X12_heldIn_34
  refine r_run J 4 (pc' := 4) (lv' := [(3, vI (x3 + 1)), (2, vI (sx1 + sx0)), (0, vR 40), (1, vI x1)]) (st' := []) rfl ?_
  refine r_sub [2, 3, 1, 0] (lv' := [(0, vR 40), (1, vI x1), (2, vI (sx1 + sx0)), (3, vI (x3 + 1))]) rfl ?_
  exact H4 x1 (sx1 + sx0) (x3 + 1) σ M N hL
set_option maxHeartbeats 4000000 in
set_option maxRecDepth 100000 in
theorem p_X12_heldIn_4 {l : Launch} {E : gE} (J : J_X12_heldIn E l) : ∀ (n : Nat) (x1 : Int32) (x2 : Int32) (x3 : Int32) (σ : gS) (M : gM) (N : gN) (hL : g_layM σ), g_H E 0 0 4 [(0, vR 40), (1, vI x1), (2, vI x2), (3, vI x3)] [] (σ, M, N) (l_X12_heldIn_4 n x1 x2 x3 σ M) (eI σ M N) := by
  intro n
  induction n with
  | zero => intros; exact h_none
  | succ n ih =>
    intro x1 x2 x3 σ M N hL
    rw [l_X12_heldIn_4]
    refine r_run J 2 (pc' := 6) (lv' := [(0, vR 40), (1, vI x1), (2, vI x2), (3, vI x3)]) (st' := [vR 40, vI x3]) rfl ?_
    refine r_getR J cls12 rfl (k := 20) (t := 14) (by decide) wf_12_51 rfl rfl (ly_40 hL) (lr_40_20 hL) (fun _ => ?_)
    show g_H E 0 0 9 [(0, vR 40), (1, vI x1), (2, vI x2), (3, vI x3)] [vR 52, vI x3] (σ, M, N) _ _
    refine r_run J 1 (pc' := 10) (lv' := [(0, vR 40), (1, vI x1), (2, vI x2), (3, vI x3)]) (st' := [vI x1, vR 52, vI x3]) rfl ?_
    refine r_iald J rfl (ly_52 hL) (fun i10 => ?_)
    show g_H E 0 0 11 [(0, vR 40), (1, vI x1), (2, vI x2), (3, vI x3)] [vI (M 52 x1.toNatClampNeg), vI x3] (σ, M, N) _ _
    refine r_icmp_ge J (tgt := 42) rfl (by decide) (fun c11 => ?_) (fun c11 => ?_)
    · refine r_run J 2 (pc' := 16) (lv' := [(0, vR 40), (1, vI x1), (2, vI x2), (3, vI x3)]) (st' := [vR 40, vI x2]) rfl ?_
      refine r_getR J cls12 rfl (k := 24) (t := 15) (by decide) wf_12_63 rfl rfl (ly_40 hL) (lr_40_24 hL) (fun _ => ?_)
      show g_H E 0 0 19 [(0, vR 40), (1, vI x1), (2, vI x2), (3, vI x3)] [vR 56, vI x2] (σ, M, N) _ _
      refine r_run J 5 (pc' := 25) (lv' := [(0, vR 40), (1, vI x1), (2, vI x2), (3, vI x3)]) (st' := [vI (((10 : Int32) * x1) + x3), vR 56, vI x2]) rfl ?_
      refine r_zald J rfl (ly_56 hL) (fun i25 => ?_)
      show g_H E 0 0 26 [(0, vR 40), (1, vI x1), (2, vI x2), (3, vI x3)] [vI (M 56 (((10 : Int32) * x1) + x3).toNatClampNeg), vI x2] (σ, M, N) _ _
      refine r_if_eq J (tgt := 33) rfl (by decide) (fun c26 => ?_) (fun c26 => ?_)
      · refine r_run J 1 (pc' := 34) (lv' := [(0, vR 40), (1, vI x1), (2, vI x2), (3, vI x3)]) (st' := [vI 0, vI x2]) rfl ?_
        refine r_sub [0, 1, 3] (lv' := [(0, vR 40), (1, vI x1), (3, vI x3)]) rfl ?_
        exact p_X12_heldIn_34 J ih x1 x3 0 x2 σ M N hL
      · refine r_run J 2 (pc' := 34) (lv' := [(0, vR 40), (1, vI x1), (2, vI x2), (3, vI x3)]) (st' := [vI 1, vI x2]) rfl ?_
        refine r_sub [0, 1, 3] (lv' := [(0, vR 40), (1, vI x1), (3, vI x3)]) rfl ?_
        exact p_X12_heldIn_34 J ih x1 x3 1 x2 σ M N hL
    · refine r_run J 1 (pc' := 43) (lv' := [(0, vR 40), (1, vI x1), (2, vI x2), (3, vI x3)]) (st' := [vI x2]) rfl ?_
      exact r_iret J rfl rfl rfl rfl (by decide) (by decide)
set_option maxHeartbeats 4000000 in
set_option maxRecDepth 100000 in
theorem p_X12_heldIn_0 {l : Launch} {E : gE} (J : J_X12_heldIn E l) (x1 : Int32) (σ : gS) (M : gM) (N : gN) (hL : g_layM σ) : g_H E 0 0 0 [(0, vR 40), (1, vI x1)] [] (σ, M, N) (b_X12_heldIn_0 x1 σ M) (eI σ M N) := by
  unfold b_X12_heldIn_0
  refine r_run J 4 (pc' := 4) (lv' := [(3, vI 0), (2, vI 0), (0, vR 40), (1, vI x1)]) (st' := []) rfl ?_
  refine r_sub [2, 3, 1, 0] (lv' := [(0, vR 40), (1, vI x1), (2, vI 0), (3, vI 0)]) rfl ?_
  exact p_X12_heldIn_4 J g_FU x1 0 0 σ M N hL
theorem c_X12_heldIn {l : Launch} (x1 : Int32) (σ : gS) (M : gM) (N : gN) (hL : g_layM σ) (r : Int32) (h : f_X12_heldIn x1 σ M = some r) : g_Ct l yX12_heldIn cX12_heldIn 4 (some .int) 1 0 0 [vR 40, vI x1] (σ, M, N) (eI σ M N r) :=
  g_Ct.of tb_X12_heldIn (by decide +kernel) tk_X12_heldIn (Nat.le_of_ble_eq_true rfl) (fun E J => p_X12_heldIn_0 J x1 σ M N hL r h)
def tb_X12_usedIn : gT := [(0, .iconst 0, 1, 0), (1, .istore_n 2, 1, 0), (2, .iconst 0, 1, 0), (3, .istore_n 3, 1, 0), (4, .iload_n 3, 1, 0), (5, .aload_n 0, 1, 0), (6, .getfield 51, 3, 0), (9, .iload_n 1, 1, 0), (10, .iaload, 1, 0), (11, .if_icmp .ge 26, 3, 0), (14, .iload_n 2, 1, 0), (15, .aload_n 0, 1, 0), (16, .iload_n 1, 1, 0), (17, .iload_n 3, 1, 0), (18, .invokevirtual 211, 3, 0), (21, .ifCond .eq 7, 3, 0), (24, .iconst 1, 1, 1), (25, .goto 4, 3, 0), (28, .iconst 0, 1, 0), (29, .iadd, 1, 0), (30, .istore_n 2, 1, 0), (31, .iinc 3 1, 3, 1), (34, .goto (-30), 3, 0), (37, .iload_n 2, 1, 0), (38, .ireturn, 1, 0)]
set_option maxRecDepth 100000 in
theorem tk_X12_usedIn : g_okT cX12_usedIn tb_X12_usedIn = true := by decide +kernel
abbrev J_X12_usedIn (E : gE) (l : Launch) : Prop := g_J E cX12_usedIn RX12 "usedIn" (some .int) 4 tb_X12_usedIn 2 0 0 l
set_option maxHeartbeats 4000000 in
set_option maxRecDepth 100000 in
theorem p_X12_usedIn_29 {l : Launch} {E : gE} (J : J_X12_usedIn E l) {k4 : Int32 → Int32 → Int32 → gS → gM → Option (Int32)} (H4 : ∀ (x1 : Int32) (x2 : Int32) (x3 : Int32) (σ : gS) (M : gM) (N : gN) (_ : g_layM σ), g_H E 0 0 4 [(0, vR 40), (1, vI x1), (2, vI x2), (3, vI x3)] [] (σ, M, N) (k4 x1 x2 x3 σ M) (eI σ M N)) (x1 : Int32) (x3 : Int32) (sx0 : Int32) (sx1 : Int32) (σ : gS) (M : gM) (N : gN) (hL : g_layM σ) : g_H E 0 0 29 [(0, vR 40), (1, vI x1), (3, vI x3)] [vI sx0, vI sx1] (σ, M, N) (b_X12_usedIn_29 k4 x1 x3 sx0 sx1 σ M) (eI σ M N) := by
  unfold b_X12_usedIn_29
  refine r_run J 4 (pc' := 4) (lv' := [(3, vI (x3 + 1)), (2, vI (sx1 + sx0)), (0, vR 40), (1, vI x1)]) (st' := []) rfl ?_
  refine r_sub [2, 3, 1, 0] (lv' := [(0, vR 40), (1, vI x1), (2, vI (sx1 + sx0)), (3, vI (x3 + 1))]) rfl ?_
  exact H4 x1 (sx1 + sx0) (x3 + 1) σ M N hL
set_option maxHeartbeats 4000000 in
set_option maxRecDepth 100000 in
theorem p_X12_usedIn_4 {l : Launch} {E : gE} (J : J_X12_usedIn E l) : ∀ (n : Nat) (x1 : Int32) (x2 : Int32) (x3 : Int32) (σ : gS) (M : gM) (N : gN) (hL : g_layM σ), g_H E 0 0 4 [(0, vR 40), (1, vI x1), (2, vI x2), (3, vI x3)] [] (σ, M, N) (l_X12_usedIn_4 n x1 x2 x3 σ M) (eI σ M N) := by
  intro n
  induction n with
  | zero => intros; exact h_none
  | succ n ih =>
    intro x1 x2 x3 σ M N hL
    rw [l_X12_usedIn_4]
    refine r_run J 2 (pc' := 6) (lv' := [(0, vR 40), (1, vI x1), (2, vI x2), (3, vI x3)]) (st' := [vR 40, vI x3]) rfl ?_
    refine r_getR J cls12 rfl (k := 20) (t := 14) (by decide) wf_12_51 rfl rfl (ly_40 hL) (lr_40_20 hL) (fun _ => ?_)
    show g_H E 0 0 9 [(0, vR 40), (1, vI x1), (2, vI x2), (3, vI x3)] [vR 52, vI x3] (σ, M, N) _ _
    refine r_run J 1 (pc' := 10) (lv' := [(0, vR 40), (1, vI x1), (2, vI x2), (3, vI x3)]) (st' := [vI x1, vR 52, vI x3]) rfl ?_
    refine r_iald J rfl (ly_52 hL) (fun i10 => ?_)
    show g_H E 0 0 11 [(0, vR 40), (1, vI x1), (2, vI x2), (3, vI x3)] [vI (M 52 x1.toNatClampNeg), vI x3] (σ, M, N) _ _
    refine r_icmp_ge J (tgt := 37) rfl (by decide) (fun c11 => ?_) (fun c11 => ?_)
    · refine r_run J 4 (pc' := 18) (lv' := [(0, vR 40), (1, vI x1), (2, vI x2), (3, vI x3)]) (st' := [vI x3, vI x1, vR 40, vI x2]) rfl ?_
      refine r_callV J (As := [vI x1, vI x3]) (st := [vI x2]) (fun r hr => c_X12_setIn x1 x3 σ M N hL r hr) cls12 (ly_40 hL) wm_12_211 wy_X12_setIn wd_X12_setIn ⟨by decide, by decide, by decide, by decide, Nat.le_of_ble_eq_true rfl⟩ rfl rfl (fun q18 hq18 => ?_)
      show g_H E 0 0 21 [(0, vR 40), (1, vI x1), (2, vI x2), (3, vI x3)] [vI q18, vI x2] (σ, M, N) _ _
      refine r_if_eq J (tgt := 28) rfl (by decide) (fun c21 => ?_) (fun c21 => ?_)
      · refine r_run J 1 (pc' := 29) (lv' := [(0, vR 40), (1, vI x1), (2, vI x2), (3, vI x3)]) (st' := [vI 0, vI x2]) rfl ?_
        refine r_sub [0, 1, 3] (lv' := [(0, vR 40), (1, vI x1), (3, vI x3)]) rfl ?_
        exact p_X12_usedIn_29 J ih x1 x3 0 x2 σ M N hL
      · refine r_run J 2 (pc' := 29) (lv' := [(0, vR 40), (1, vI x1), (2, vI x2), (3, vI x3)]) (st' := [vI 1, vI x2]) rfl ?_
        refine r_sub [0, 1, 3] (lv' := [(0, vR 40), (1, vI x1), (3, vI x3)]) rfl ?_
        exact p_X12_usedIn_29 J ih x1 x3 1 x2 σ M N hL
    · refine r_run J 1 (pc' := 38) (lv' := [(0, vR 40), (1, vI x1), (2, vI x2), (3, vI x3)]) (st' := [vI x2]) rfl ?_
      exact r_iret J rfl rfl rfl rfl (by decide) (by decide)
set_option maxHeartbeats 4000000 in
set_option maxRecDepth 100000 in
theorem p_X12_usedIn_0 {l : Launch} {E : gE} (J : J_X12_usedIn E l) (x1 : Int32) (σ : gS) (M : gM) (N : gN) (hL : g_layM σ) : g_H E 0 0 0 [(0, vR 40), (1, vI x1)] [] (σ, M, N) (b_X12_usedIn_0 x1 σ M) (eI σ M N) := by
  unfold b_X12_usedIn_0
  refine r_run J 4 (pc' := 4) (lv' := [(3, vI 0), (2, vI 0), (0, vR 40), (1, vI x1)]) (st' := []) rfl ?_
  refine r_sub [2, 3, 1, 0] (lv' := [(0, vR 40), (1, vI x1), (2, vI 0), (3, vI 0)]) rfl ?_
  exact p_X12_usedIn_4 J g_FU x1 0 0 σ M N hL
theorem c_X12_usedIn {l : Launch} (x1 : Int32) (σ : gS) (M : gM) (N : gN) (hL : g_layM σ) (r : Int32) (h : f_X12_usedIn x1 σ M = some r) : g_Ct l yX12_usedIn cX12_usedIn 4 (some .int) 2 0 0 [vR 40, vI x1] (σ, M, N) (eI σ M N r) :=
  g_Ct.of tb_X12_usedIn (by decide +kernel) tk_X12_usedIn (Nat.le_of_ble_eq_true rfl) (fun E J => p_X12_usedIn_0 J x1 σ M N hL r h)
def tb_X12_peopleIn : gT := [(0, .iconst 0, 1, 0), (1, .istore_n 2, 1, 0), (2, .iconst 0, 1, 0), (3, .istore_n 3, 1, 0), (4, .iload_n 3, 1, 0), (5, .aload_n 0, 1, 0), (6, .getfield 157, 3, 0), (9, .if_icmp .ge 32, 3, 0), (12, .iload_n 2, 1, 0), (13, .aload_n 0, 1, 0), (14, .getfield 66, 3, 0), (17, .bipush 10, 2, 10), (19, .iload_n 1, 1, 0), (20, .imul, 1, 0), (21, .iload_n 3, 1, 0), (22, .iadd, 1, 0), (23, .iaload, 1, 0), (24, .iconst (-1), 1, (-1)), (25, .if_icmp .eq 7, 3, 0), (28, .iconst 1, 1, 1), (29, .goto 4, 3, 0), (32, .iconst 0, 1, 0), (33, .iadd, 1, 0), (34, .istore_n 2, 1, 0), (35, .iinc 3 1, 3, 1), (38, .goto (-34), 3, 0), (41, .iload_n 2, 1, 0), (42, .ireturn, 1, 0)]
set_option maxRecDepth 100000 in
theorem tk_X12_peopleIn : g_okT cX12_peopleIn tb_X12_peopleIn = true := by decide +kernel
abbrev J_X12_peopleIn (E : gE) (l : Launch) : Prop := g_J E cX12_peopleIn RX12 "peopleIn" (some .int) 4 tb_X12_peopleIn 1 0 0 l
set_option maxHeartbeats 4000000 in
set_option maxRecDepth 100000 in
theorem p_X12_peopleIn_33 {l : Launch} {E : gE} (J : J_X12_peopleIn E l) {k4 : Int32 → Int32 → Int32 → gS → gM → Option (Int32)} (H4 : ∀ (x1 : Int32) (x2 : Int32) (x3 : Int32) (σ : gS) (M : gM) (N : gN) (_ : g_layM σ), g_H E 0 0 4 [(0, vR 40), (1, vI x1), (2, vI x2), (3, vI x3)] [] (σ, M, N) (k4 x1 x2 x3 σ M) (eI σ M N)) (x1 : Int32) (x3 : Int32) (sx0 : Int32) (sx1 : Int32) (σ : gS) (M : gM) (N : gN) (hL : g_layM σ) : g_H E 0 0 33 [(0, vR 40), (1, vI x1), (3, vI x3)] [vI sx0, vI sx1] (σ, M, N) (b_X12_peopleIn_33 k4 x1 x3 sx0 sx1 σ M) (eI σ M N) := by
  unfold b_X12_peopleIn_33
  refine r_run J 4 (pc' := 4) (lv' := [(3, vI (x3 + 1)), (2, vI (sx1 + sx0)), (0, vR 40), (1, vI x1)]) (st' := []) rfl ?_
  refine r_sub [2, 3, 1, 0] (lv' := [(0, vR 40), (1, vI x1), (2, vI (sx1 + sx0)), (3, vI (x3 + 1))]) rfl ?_
  exact H4 x1 (sx1 + sx0) (x3 + 1) σ M N hL
set_option maxHeartbeats 4000000 in
set_option maxRecDepth 100000 in
theorem p_X12_peopleIn_4 {l : Launch} {E : gE} (J : J_X12_peopleIn E l) : ∀ (n : Nat) (x1 : Int32) (x2 : Int32) (x3 : Int32) (σ : gS) (M : gM) (N : gN) (hL : g_layM σ), g_H E 0 0 4 [(0, vR 40), (1, vI x1), (2, vI x2), (3, vI x3)] [] (σ, M, N) (l_X12_peopleIn_4 n x1 x2 x3 σ M) (eI σ M N) := by
  intro n
  induction n with
  | zero => intros; exact h_none
  | succ n ih =>
    intro x1 x2 x3 σ M N hL
    rw [l_X12_peopleIn_4]
    refine r_run J 2 (pc' := 6) (lv' := [(0, vR 40), (1, vI x1), (2, vI x2), (3, vI x3)]) (st' := [vR 40, vI x3]) rfl ?_
    refine r_getI J cls12 rfl (k := 1) (by decide) wf_12_157 rfl (ly_40 hL) ?_
    show g_H E 0 0 9 [(0, vR 40), (1, vI x1), (2, vI x2), (3, vI x3)] [vI (M 40 1), vI x3] (σ, M, N) _ _
    refine r_icmp_ge J (tgt := 41) rfl (by decide) (fun c9 => ?_) (fun c9 => ?_)
    · refine r_run J 2 (pc' := 14) (lv' := [(0, vR 40), (1, vI x1), (2, vI x2), (3, vI x3)]) (st' := [vR 40, vI x2]) rfl ?_
      refine r_getR J cls12 rfl (k := 25) (t := 14) (by decide) wf_12_66 rfl rfl (ly_40 hL) (lr_40_25 hL) (fun _ => ?_)
      show g_H E 0 0 17 [(0, vR 40), (1, vI x1), (2, vI x2), (3, vI x3)] [vR 57, vI x2] (σ, M, N) _ _
      refine r_run J 5 (pc' := 23) (lv' := [(0, vR 40), (1, vI x1), (2, vI x2), (3, vI x3)]) (st' := [vI (((10 : Int32) * x1) + x3), vR 57, vI x2]) rfl ?_
      refine r_iald J rfl (ly_57 hL) (fun i23 => ?_)
      show g_H E 0 0 24 [(0, vR 40), (1, vI x1), (2, vI x2), (3, vI x3)] [vI (M 57 (((10 : Int32) * x1) + x3).toNatClampNeg), vI x2] (σ, M, N) _ _
      refine r_run J 1 (pc' := 25) (lv' := [(0, vR 40), (1, vI x1), (2, vI x2), (3, vI x3)]) (st' := [vI (-1), vI (M 57 (((10 : Int32) * x1) + x3).toNatClampNeg), vI x2]) rfl ?_
      refine r_icmp_eq J (tgt := 32) rfl (by decide) (fun c25 => ?_) (fun c25 => ?_)
      · refine r_run J 1 (pc' := 33) (lv' := [(0, vR 40), (1, vI x1), (2, vI x2), (3, vI x3)]) (st' := [vI 0, vI x2]) rfl ?_
        refine r_sub [0, 1, 3] (lv' := [(0, vR 40), (1, vI x1), (3, vI x3)]) rfl ?_
        exact p_X12_peopleIn_33 J ih x1 x3 0 x2 σ M N hL
      · refine r_run J 2 (pc' := 33) (lv' := [(0, vR 40), (1, vI x1), (2, vI x2), (3, vI x3)]) (st' := [vI 1, vI x2]) rfl ?_
        refine r_sub [0, 1, 3] (lv' := [(0, vR 40), (1, vI x1), (3, vI x3)]) rfl ?_
        exact p_X12_peopleIn_33 J ih x1 x3 1 x2 σ M N hL
    · refine r_run J 1 (pc' := 42) (lv' := [(0, vR 40), (1, vI x1), (2, vI x2), (3, vI x3)]) (st' := [vI x2]) rfl ?_
      exact r_iret J rfl rfl rfl rfl (by decide) (by decide)
set_option maxHeartbeats 4000000 in
set_option maxRecDepth 100000 in
theorem p_X12_peopleIn_0 {l : Launch} {E : gE} (J : J_X12_peopleIn E l) (x1 : Int32) (σ : gS) (M : gM) (N : gN) (hL : g_layM σ) : g_H E 0 0 0 [(0, vR 40), (1, vI x1)] [] (σ, M, N) (b_X12_peopleIn_0 x1 σ M) (eI σ M N) := by
  unfold b_X12_peopleIn_0
  refine r_run J 4 (pc' := 4) (lv' := [(3, vI 0), (2, vI 0), (0, vR 40), (1, vI x1)]) (st' := []) rfl ?_
  refine r_sub [2, 3, 1, 0] (lv' := [(0, vR 40), (1, vI x1), (2, vI 0), (3, vI 0)]) rfl ?_
  exact p_X12_peopleIn_4 J g_FU x1 0 0 σ M N hL
theorem c_X12_peopleIn {l : Launch} (x1 : Int32) (σ : gS) (M : gM) (N : gN) (hL : g_layM σ) (r : Int32) (h : f_X12_peopleIn x1 σ M = some r) : g_Ct l yX12_peopleIn cX12_peopleIn 4 (some .int) 1 0 0 [vR 40, vI x1] (σ, M, N) (eI σ M N r) :=
  g_Ct.of tb_X12_peopleIn (by decide +kernel) tk_X12_peopleIn (Nat.le_of_ble_eq_true rfl) (fun E J => p_X12_peopleIn_0 J x1 σ M N hL r h)
def tb_X12_now : gT := [(0, .aload_n 0, 1, 0), (1, .aload_n 0, 1, 0), (2, .getfield 42, 3, 0), (5, .aload_n 0, 1, 0), (6, .getfield 48, 3, 0), (9, .iload_n 1, 1, 0), (10, .iaload, 1, 0), (11, .iadd, 1, 0), (12, .aload_n 0, 1, 0), (13, .getfield 183, 3, 0), (16, .isub, 1, 0), (17, .putfield 322, 3, 0), (20, .aload_n 0, 1, 0), (21, .aload_n 0, 1, 0), (22, .iload_n 1, 1, 0), (23, .invokevirtual 375, 3, 0), (26, .putfield 327, 3, 0), (29, .aload_n 0, 1, 0), (30, .aload_n 0, 1, 0), (31, .iload_n 1, 1, 0), (32, .invokevirtual 378, 3, 0), (35, .putfield 332, 3, 0), (38, .aload_n 0, 1, 0), (39, .aload_n 0, 1, 0), (40, .iload_n 1, 1, 0), (41, .invokevirtual 381, 3, 0), (44, .putfield 337, 3, 0), (47, .aload_n 0, 1, 0), (48, .iload_n 1, 1, 0), (49, .iload_n 2, 1, 0), (50, .invokevirtual 384, 3, 0), (53, .ireturn, 1, 0)]
set_option maxRecDepth 100000 in
theorem tk_X12_now : g_okT cX12_now tb_X12_now = true := by decide +kernel
abbrev J_X12_now (E : gE) (l : Launch) : Prop := g_J E cX12_now RX12 "now" (some .int) 3 tb_X12_now 70 0 0 l
set_option maxHeartbeats 4000000 in
set_option maxRecDepth 100000 in
theorem p_X12_now_38 {l : Launch} {E : gE} (J : J_X12_now E l) (x1 : Int32) (x2 : Int32) (σ : gS) (M : gM) (N : gN) (hL : g_layM σ) : g_H E 0 0 38 [(0, vR 40), (1, vI x1), (2, vI x2)] [] (σ, M, N) (b_X12_now_38 x1 x2 σ M N) (eIMN σ) := by
  unfold b_X12_now_38
  refine r_run J 3 (pc' := 41) (lv' := [(0, vR 40), (1, vI x1), (2, vI x2)]) (st' := [vI x1, vR 40, vR 40]) rfl ?_
  refine r_callV J (As := [vI x1]) (st := [vR 40]) (fun r hr => c_X12_peopleIn x1 σ M N hL r hr) cls12 (ly_40 hL) wm_12_381 wy_X12_peopleIn wd_X12_peopleIn ⟨by decide, by decide, by decide, by decide, Nat.le_of_ble_eq_true rfl⟩ rfl rfl (fun q41 hq41 => ?_)
  show g_H E 0 0 44 [(0, vR 40), (1, vI x1), (2, vI x2)] [vI q41, vR 40] (σ, M, N) _ _
  refine r_putI J cls12 rfl (k := 57) (by decide) wf_12_337 rfl (Or.inl rfl) ⟨rfl, rfl⟩ (ly_40 hL) ?_
  show g_H E 0 0 47 [(0, vR 40), (1, vI x1), (2, vI x2)] [] (σ, (g_up M 40 57 q41), N) _ _
  refine r_run J 3 (pc' := 50) (lv' := [(0, vR 40), (1, vI x1), (2, vI x2)]) (st' := [vI x2, vI x1, vR 40]) rfl ?_
  refine r_callV J (As := [vI x1, vI x2]) (st := []) (fun r hr => c_X12_told x1 x2 σ (g_up M 40 57 q41) N hL r hr) cls12 (ly_40 hL) wm_12_384 wy_X12_told wd_X12_told ⟨by decide, by decide, by decide, by decide, Nat.le_of_ble_eq_true rfl⟩ rfl rfl (fun q50 hq50 => ?_)
  show g_H E 0 0 53 [(0, vR 40), (1, vI x1), (2, vI x2)] [vI q50.1] (σ, q50.2.1, q50.2.2) _ _
  exact r_iret J rfl rfl rfl rfl (by decide) (by decide)
set_option maxHeartbeats 4000000 in
set_option maxRecDepth 100000 in
theorem p_X12_now_0 {l : Launch} {E : gE} (J : J_X12_now E l) (x1 : Int32) (x2 : Int32) (σ : gS) (M : gM) (N : gN) (hL : g_layM σ) : g_H E 0 0 0 [(0, vR 40), (1, vI x1), (2, vI x2)] [] (σ, M, N) (b_X12_now_0 x1 x2 σ M N) (eIMN σ) := by
  unfold b_X12_now_0
  refine r_run J 2 (pc' := 2) (lv' := [(0, vR 40), (1, vI x1), (2, vI x2)]) (st' := [vR 40, vR 40]) rfl ?_
  refine r_getI J cls12 rfl (k := 15) (by decide) wf_12_42 rfl (ly_40 hL) ?_
  show g_H E 0 0 5 [(0, vR 40), (1, vI x1), (2, vI x2)] [vI (M 40 15), vR 40] (σ, M, N) _ _
  refine r_run J 1 (pc' := 6) (lv' := [(0, vR 40), (1, vI x1), (2, vI x2)]) (st' := [vR 40, vI (M 40 15), vR 40]) rfl ?_
  refine r_getR J cls12 rfl (k := 19) (t := 14) (by decide) wf_12_48 rfl rfl (ly_40 hL) (lr_40_19 hL) (fun _ => ?_)
  show g_H E 0 0 9 [(0, vR 40), (1, vI x1), (2, vI x2)] [vR 51, vI (M 40 15), vR 40] (σ, M, N) _ _
  refine r_run J 1 (pc' := 10) (lv' := [(0, vR 40), (1, vI x1), (2, vI x2)]) (st' := [vI x1, vR 51, vI (M 40 15), vR 40]) rfl ?_
  refine r_iald J rfl (ly_51 hL) (fun i10 => ?_)
  show g_H E 0 0 11 [(0, vR 40), (1, vI x1), (2, vI x2)] [vI (M 51 x1.toNatClampNeg), vI (M 40 15), vR 40] (σ, M, N) _ _
  refine r_run J 2 (pc' := 13) (lv' := [(0, vR 40), (1, vI x1), (2, vI x2)]) (st' := [vR 40, vI ((M 40 15) + (M 51 x1.toNatClampNeg)), vR 40]) rfl ?_
  refine r_getI J cls12 rfl (k := 14) (by decide) wf_12_183 rfl (ly_40 hL) ?_
  show g_H E 0 0 16 [(0, vR 40), (1, vI x1), (2, vI x2)] [vI (M 40 14), vI ((M 40 15) + (M 51 x1.toNatClampNeg)), vR 40] (σ, M, N) _ _
  refine r_run J 1 (pc' := 17) (lv' := [(0, vR 40), (1, vI x1), (2, vI x2)]) (st' := [vI (((M 40 15) + (M 51 x1.toNatClampNeg)) - (M 40 14)), vR 40]) rfl ?_
  refine r_putI J cls12 rfl (k := 54) (by decide) wf_12_322 rfl (Or.inl rfl) ⟨rfl, rfl⟩ (ly_40 hL) ?_
  show g_H E 0 0 20 [(0, vR 40), (1, vI x1), (2, vI x2)] [] (σ, (g_up M 40 54 (((M 40 15) + (M 51 x1.toNatClampNeg)) - (M 40 14))), N) _ _
  refine r_run J 3 (pc' := 23) (lv' := [(0, vR 40), (1, vI x1), (2, vI x2)]) (st' := [vI x1, vR 40, vR 40]) rfl ?_
  refine r_callV J (As := [vI x1]) (st := [vR 40]) (fun r hr => c_X12_heldIn x1 σ (g_up M 40 54 (((M 40 15) + (M 51 x1.toNatClampNeg)) - (M 40 14))) N hL r hr) cls12 (ly_40 hL) wm_12_375 wy_X12_heldIn wd_X12_heldIn ⟨by decide, by decide, by decide, by decide, Nat.le_of_ble_eq_true rfl⟩ rfl rfl (fun q23 hq23 => ?_)
  show g_H E 0 0 26 [(0, vR 40), (1, vI x1), (2, vI x2)] [vI q23, vR 40] (σ, (g_up M 40 54 (((M 40 15) + (M 51 x1.toNatClampNeg)) - (M 40 14))), N) _ _
  refine r_putI J cls12 rfl (k := 55) (by decide) wf_12_327 rfl (Or.inl rfl) ⟨rfl, rfl⟩ (ly_40 hL) ?_
  show g_H E 0 0 29 [(0, vR 40), (1, vI x1), (2, vI x2)] [] (σ, (g_up (g_up M 40 54 (((M 40 15) + (M 51 x1.toNatClampNeg)) - (M 40 14))) 40 55 q23), N) _ _
  refine r_run J 3 (pc' := 32) (lv' := [(0, vR 40), (1, vI x1), (2, vI x2)]) (st' := [vI x1, vR 40, vR 40]) rfl ?_
  refine r_callV J (As := [vI x1]) (st := [vR 40]) (fun r hr => c_X12_usedIn x1 σ (g_up (g_up M 40 54 (((M 40 15) + (M 51 x1.toNatClampNeg)) - (M 40 14))) 40 55 q23) N hL r hr) cls12 (ly_40 hL) wm_12_378 wy_X12_usedIn wd_X12_usedIn ⟨by decide, by decide, by decide, by decide, Nat.le_of_ble_eq_true rfl⟩ rfl rfl (fun q32 hq32 => ?_)
  show g_H E 0 0 35 [(0, vR 40), (1, vI x1), (2, vI x2)] [vI q32, vR 40] (σ, (g_up (g_up M 40 54 (((M 40 15) + (M 51 x1.toNatClampNeg)) - (M 40 14))) 40 55 q23), N) _ _
  refine r_putI J cls12 rfl (k := 56) (by decide) wf_12_332 rfl (Or.inl rfl) ⟨rfl, rfl⟩ (ly_40 hL) ?_
  show g_H E 0 0 38 [(0, vR 40), (1, vI x1), (2, vI x2)] [] (σ, (g_up (g_up (g_up M 40 54 (((M 40 15) + (M 51 x1.toNatClampNeg)) - (M 40 14))) 40 55 q23) 40 56 q32), N) _ _
  exact p_X12_now_38 J x1 x2 σ (g_up (g_up (g_up M 40 54 (((M 40 15) + (M 51 x1.toNatClampNeg)) - (M 40 14))) 40 55 q23) 40 56 q32) N hL
theorem c_X12_now {l : Launch} (x1 : Int32) (x2 : Int32) (σ : gS) (M : gM) (N : gN) (hL : g_layM σ) (r : Int32 × gM × gN) (h : f_X12_now x1 x2 σ M N = some r) : g_Ct l yX12_now cX12_now 3 (some .int) 70 0 0 [vR 40, vI x1, vI x2] (σ, M, N) (eIMN σ r) :=
  g_Ct.of tb_X12_now (by decide +kernel) tk_X12_now (Nat.le_of_ble_eq_true rfl) (fun E J => p_X12_now_0 J x1 x2 σ M N hL r h)
def tb_X12_worth : gT := [(0, .aload_n 0, 1, 0), (1, .iload_n 1, 1, 0), (2, .invokevirtual 170, 3, 0), (5, .ifCond .eq 21, 3, 0), (8, .iload_n 2, 1, 0), (9, .iconst 0, 1, 0), (10, .iconst 3, 1, 3), (11, .invokestatic 160, 3, 0), (14, .ifCond .eq 12, 3, 0), (17, .aload_n 0, 1, 0), (18, .iload_n 1, 1, 0), (19, .iload_n 2, 1, 0), (20, .invokevirtual 387, 3, 0), (23, .goto 4, 3, 0), (26, .iconst (-1), 1, (-1)), (27, .ireturn, 1, 0)]
set_option maxRecDepth 100000 in
theorem tk_X12_worth : g_okT cX12_worth tb_X12_worth = true := by decide +kernel
abbrev J_X12_worth (E : gE) (l : Launch) : Prop := g_J E cX12_worth RX12 "worth" (some .int) 3 tb_X12_worth 71 0 0 l
set_option maxHeartbeats 4000000 in
set_option maxRecDepth 100000 in
theorem p_X12_worth_0 {l : Launch} {E : gE} (J : J_X12_worth E l) (x1 : Int32) (x2 : Int32) (σ : gS) (M : gM) (N : gN) (hL : g_layM σ) : g_H E 0 0 0 [(0, vR 40), (1, vI x1), (2, vI x2)] [] (σ, M, N) (b_X12_worth_0 x1 x2 σ M N) (eIMN σ) := by
  unfold b_X12_worth_0
  refine r_run J 2 (pc' := 2) (lv' := [(0, vR 40), (1, vI x1), (2, vI x2)]) (st' := [vI x1, vR 40]) rfl ?_
  refine r_callV J (As := [vI x1]) (st := []) (fun r hr => c_X12_isTown x1 σ M N hL r hr) cls12 (ly_40 hL) wm_12_170 wy_X12_isTown wd_X12_isTown ⟨by decide, by decide, by decide, by decide, Nat.le_of_ble_eq_true rfl⟩ rfl rfl (fun q2 hq2 => ?_)
  show g_H E 0 0 5 [(0, vR 40), (1, vI x1), (2, vI x2)] [vI q2] (σ, M, N) _ _
  refine r_if_eq J (tgt := 26) rfl (by decide) (fun c5 => ?_) (fun c5 => ?_)
  · refine r_run J 1 (pc' := 27) (lv' := [(0, vR 40), (1, vI x1), (2, vI x2)]) (st' := [vI (-1)]) rfl ?_
    exact r_iret J rfl rfl rfl rfl (by decide) (by decide)
  · refine r_run J 3 (pc' := 11) (lv' := [(0, vR 40), (1, vI x1), (2, vI x2)]) (st' := [vI 3, vI 0, vI x2]) rfl ?_
    refine r_callS J (As := [vI x2, vI 0, vI 3]) (st := []) (fun r hr => c_X12_in x2 0 3 σ M N hL r hr) wm_12_160 wy_X12_in wd_X12_in ⟨by decide, by decide, by decide, by decide, Nat.le_of_ble_eq_true rfl⟩ rfl rfl (fun q11 hq11 => ?_)
    show g_H E 0 0 14 [(0, vR 40), (1, vI x1), (2, vI x2)] [vI q11] (σ, M, N) _ _
    refine r_if_eq J (tgt := 26) rfl (by decide) (fun c14 => ?_) (fun c14 => ?_)
    · refine r_run J 1 (pc' := 27) (lv' := [(0, vR 40), (1, vI x1), (2, vI x2)]) (st' := [vI (-1)]) rfl ?_
      exact r_iret J rfl rfl rfl rfl (by decide) (by decide)
    · refine r_run J 3 (pc' := 20) (lv' := [(0, vR 40), (1, vI x1), (2, vI x2)]) (st' := [vI x2, vI x1, vR 40]) rfl ?_
      refine r_callV J (As := [vI x1, vI x2]) (st := []) (fun r hr => c_X12_now x1 x2 σ M N hL r hr) cls12 (ly_40 hL) wm_12_387 wy_X12_now wd_X12_now ⟨by decide, by decide, by decide, by decide, Nat.le_of_ble_eq_true rfl⟩ rfl rfl (fun q20 hq20 => ?_)
      show g_H E 0 0 23 [(0, vR 40), (1, vI x1), (2, vI x2)] [vI q20.1] (σ, q20.2.1, q20.2.2) _ _
      refine r_run J 1 (pc' := 27) (lv' := [(0, vR 40), (1, vI x1), (2, vI x2)]) (st' := [vI q20.1]) rfl ?_
      exact r_iret J rfl rfl rfl rfl (by decide) (by decide)
theorem c_X12_worth {l : Launch} (x1 : Int32) (x2 : Int32) (σ : gS) (M : gM) (N : gN) (hL : g_layM σ) (r : Int32 × gM × gN) (h : f_X12_worth x1 x2 σ M N = some r) : g_Ct l yX12_worth cX12_worth 3 (some .int) 71 0 0 [vR 40, vI x1, vI x2] (σ, M, N) (eIMN σ r) :=
  g_Ct.of tb_X12_worth (by decide +kernel) tk_X12_worth (Nat.le_of_ble_eq_true rfl) (fun E J => p_X12_worth_0 J x1 x2 σ M N hL r h)
def tb_X12_part_ : gT := [(0, .aload_n 0, 1, 0), (1, .getfield 60, 3, 0), (4, .bipush 10, 2, 10), (6, .iload_n 1, 1, 0), (7, .imul, 1, 0), (8, .iload_n 2, 1, 0), (9, .iadd, 1, 0), (10, .iaload, 1, 0), (11, .aload_n 0, 1, 0), (12, .getfield 45, 3, 0), (15, .iload_n 1, 1, 0), (16, .iaload, 1, 0), (17, .imul, 1, 0), (18, .iload_n 3, 1, 0), (19, .imul, 1, 0), (20, .bipush 99, 2, 99), (22, .iadd, 1, 0), (23, .bipush 100, 2, 100), (25, .idiv, 1, 0), (26, .ireturn, 1, 0)]
set_option maxRecDepth 100000 in
theorem tk_X12_part_ : g_okT cX12_part_ tb_X12_part_ = true := by decide +kernel
abbrev J_X12_part_ (E : gE) (l : Launch) : Prop := g_J E cX12_part_ RX12 "part" (some .int) 4 tb_X12_part_ 1 0 0 l
set_option maxHeartbeats 4000000 in
set_option maxRecDepth 100000 in
theorem p_X12_part__0 {l : Launch} {E : gE} (J : J_X12_part_ E l) (x1 : Int32) (x2 : Int32) (x3 : Int32) (σ : gS) (M : gM) (N : gN) (hL : g_layM σ) : g_H E 0 0 0 [(0, vR 40), (1, vI x1), (2, vI x2), (3, vI x3)] [] (σ, M, N) (b_X12_part__0 x1 x2 x3 σ M) (eI σ M N) := by
  unfold b_X12_part__0
  refine r_run J 1 (pc' := 1) (lv' := [(0, vR 40), (1, vI x1), (2, vI x2), (3, vI x3)]) (st' := [vR 40]) rfl ?_
  refine r_getR J cls12 rfl (k := 23) (t := 14) (by decide) wf_12_60 rfl rfl (ly_40 hL) (lr_40_23 hL) (fun _ => ?_)
  show g_H E 0 0 4 [(0, vR 40), (1, vI x1), (2, vI x2), (3, vI x3)] [vR 55] (σ, M, N) _ _
  refine r_run J 5 (pc' := 10) (lv' := [(0, vR 40), (1, vI x1), (2, vI x2), (3, vI x3)]) (st' := [vI (((10 : Int32) * x1) + x2), vR 55]) rfl ?_
  refine r_iald J rfl (ly_55 hL) (fun i10 => ?_)
  show g_H E 0 0 11 [(0, vR 40), (1, vI x1), (2, vI x2), (3, vI x3)] [vI (M 55 (((10 : Int32) * x1) + x2).toNatClampNeg)] (σ, M, N) _ _
  refine r_run J 1 (pc' := 12) (lv' := [(0, vR 40), (1, vI x1), (2, vI x2), (3, vI x3)]) (st' := [vR 40, vI (M 55 (((10 : Int32) * x1) + x2).toNatClampNeg)]) rfl ?_
  refine r_getR J cls12 rfl (k := 18) (t := 14) (by decide) wf_12_45 rfl rfl (ly_40 hL) (lr_40_18 hL) (fun _ => ?_)
  show g_H E 0 0 15 [(0, vR 40), (1, vI x1), (2, vI x2), (3, vI x3)] [vR 50, vI (M 55 (((10 : Int32) * x1) + x2).toNatClampNeg)] (σ, M, N) _ _
  refine r_run J 1 (pc' := 16) (lv' := [(0, vR 40), (1, vI x1), (2, vI x2), (3, vI x3)]) (st' := [vI x1, vR 50, vI (M 55 (((10 : Int32) * x1) + x2).toNatClampNeg)]) rfl ?_
  refine r_iald J rfl (ly_50 hL) (fun i16 => ?_)
  show g_H E 0 0 17 [(0, vR 40), (1, vI x1), (2, vI x2), (3, vI x3)] [vI (M 50 x1.toNatClampNeg), vI (M 55 (((10 : Int32) * x1) + x2).toNatClampNeg)] (σ, M, N) _ _
  refine r_run J 6 (pc' := 25) (lv' := [(0, vR 40), (1, vI x1), (2, vI x2), (3, vI x3)]) (st' := [vI 100, vI ((((M 55 (((10 : Int32) * x1) + x2).toNatClampNeg) * (M 50 x1.toNatClampNeg)) * x3) + (99 : Int32))]) rfl ?_
  refine r_idiv J rfl (fun c25 => ?_)
  exact r_iret J rfl rfl rfl rfl (by decide) (by decide)
theorem c_X12_part_ {l : Launch} (x1 : Int32) (x2 : Int32) (x3 : Int32) (σ : gS) (M : gM) (N : gN) (hL : g_layM σ) (r : Int32) (h : f_X12_part_ x1 x2 x3 σ M = some r) : g_Ct l yX12_part_ cX12_part_ 4 (some .int) 1 0 0 [vR 40, vI x1, vI x2, vI x3] (σ, M, N) (eI σ M N r) :=
  g_Ct.of tb_X12_part_ (by decide +kernel) tk_X12_part_ (Nat.le_of_ble_eq_true rfl) (fun E J => p_X12_part__0 J x1 x2 x3 σ M N hL r h)
def tb_X12_give : gT := [(0, .aload_n 0, 1, 0), (1, .iload_n 1, 1, 0), (2, .invokevirtual 198, 3, 0), (5, .ifCond .eq 35, 3, 0), (8, .aload_n 0, 1, 0), (9, .iload_n 1, 1, 0), (10, .iload_n 2, 1, 0), (11, .invokevirtual 208, 3, 0), (14, .ifCond .eq 26, 3, 0), (17, .aload_n 0, 1, 0), (18, .getfield 63, 3, 0), (21, .bipush 10, 2, 10), (23, .iload_n 1, 1, 0), (24, .imul, 1, 0), (25, .iload_n 2, 1, 0), (26, .iadd, 1, 0), (27, .baload, 1, 0), (28, .ifCond .eq 12, 3, 0), (31, .aload_n 0, 1, 0), (32, .iload_n 1, 1, 0), (33, .iload_n 2, 1, 0), (34, .invokevirtual 211, 3, 0), (37, .ifCond .eq 5, 3, 0), (40, .iconst (-1), 1, (-1)), (41, .ireturn, 1, 0), (42, .aload_n 0, 1, 0), (43, .iload_n 1, 1, 0), (44, .iload_n 2, 1, 0), (45, .aload_n 0, 1, 0), (46, .iload_n 1, 1, 0), (47, .iconst 0, 1, 0), (48, .invokevirtual 387, 3, 0), (51, .invokevirtual 390, 3, 0), (54, .istore_n 3, 1, 0), (55, .aload_n 0, 1, 0), (56, .getfield 63, 3, 0), (59, .bipush 10, 2, 10), (61, .iload_n 1, 1, 0), (62, .imul, 1, 0), (63, .iload_n 2, 1, 0), (64, .iadd, 1, 0), (65, .iconst 0, 1, 0), (66, .bastore, 1, 0), (67, .aload_n 0, 1, 0), (68, .dup, 1, 0), (69, .getfield 392, 3, 0), (72, .iload_n 3, 1, 0), (73, .iadd, 1, 0), (74, .putfield 392, 3, 0), (77, .iload_n 3, 1, 0), (78, .ireturn, 1, 0)]
set_option maxRecDepth 100000 in
theorem tk_X12_give : g_okT cX12_give tb_X12_give = true := by decide +kernel
abbrev J_X12_give (E : gE) (l : Launch) : Prop := g_J E cX12_give RX12 "give" (some .int) 4 tb_X12_give 71 0 0 l
set_option maxHeartbeats 4000000 in
set_option maxRecDepth 100000 in
theorem p_X12_give_0 {l : Launch} {E : gE} (J : J_X12_give E l) (x1 : Int32) (x2 : Int32) (σ : gS) (M : gM) (N : gN) (hL : g_layM σ) : g_H E 0 0 0 [(0, vR 40), (1, vI x1), (2, vI x2)] [] (σ, M, N) (b_X12_give_0 x1 x2 σ M N) (eIMN σ) := by
  unfold b_X12_give_0
  refine r_run J 2 (pc' := 2) (lv' := [(0, vR 40), (1, vI x1), (2, vI x2)]) (st' := [vI x1, vR 40]) rfl ?_
  refine r_callV J (As := [vI x1]) (st := []) (fun r hr => c_X12_isOpen x1 σ M N hL r hr) cls12 (ly_40 hL) wm_12_198 wy_X12_isOpen wd_X12_isOpen ⟨by decide, by decide, by decide, by decide, Nat.le_of_ble_eq_true rfl⟩ rfl rfl (fun q2 hq2 => ?_)
  show g_H E 0 0 5 [(0, vR 40), (1, vI x1), (2, vI x2)] [vI q2] (σ, M, N) _ _
  refine r_if_eq J (tgt := 40) rfl (by decide) (fun c5 => ?_) (fun c5 => ?_)
  · refine r_run J 1 (pc' := 41) (lv' := [(0, vR 40), (1, vI x1), (2, vI x2)]) (st' := [vI (-1)]) rfl ?_
    exact r_iret J rfl rfl rfl rfl (by decide) (by decide)
  · refine r_run J 3 (pc' := 11) (lv' := [(0, vR 40), (1, vI x1), (2, vI x2)]) (st' := [vI x2, vI x1, vR 40]) rfl ?_
    refine r_callV J (As := [vI x1, vI x2]) (st := []) (fun r hr => c_X12_isRoom x1 x2 σ M N hL r hr) cls12 (ly_40 hL) wm_12_208 wy_X12_isRoom wd_X12_isRoom ⟨by decide, by decide, by decide, by decide, Nat.le_of_ble_eq_true rfl⟩ rfl rfl (fun q11 hq11 => ?_)
    show g_H E 0 0 14 [(0, vR 40), (1, vI x1), (2, vI x2)] [vI q11] (σ, M, N) _ _
    refine r_if_eq J (tgt := 40) rfl (by decide) (fun c14 => ?_) (fun c14 => ?_)
    · refine r_run J 1 (pc' := 41) (lv' := [(0, vR 40), (1, vI x1), (2, vI x2)]) (st' := [vI (-1)]) rfl ?_
      exact r_iret J rfl rfl rfl rfl (by decide) (by decide)
    · refine r_run J 1 (pc' := 18) (lv' := [(0, vR 40), (1, vI x1), (2, vI x2)]) (st' := [vR 40]) rfl ?_
      refine r_getR J cls12 rfl (k := 24) (t := 15) (by decide) wf_12_63 rfl rfl (ly_40 hL) (lr_40_24 hL) (fun _ => ?_)
      show g_H E 0 0 21 [(0, vR 40), (1, vI x1), (2, vI x2)] [vR 56] (σ, M, N) _ _
      refine r_run J 5 (pc' := 27) (lv' := [(0, vR 40), (1, vI x1), (2, vI x2)]) (st' := [vI (((10 : Int32) * x1) + x2), vR 56]) rfl ?_
      refine r_zald J rfl (ly_56 hL) (fun i27 => ?_)
      show g_H E 0 0 28 [(0, vR 40), (1, vI x1), (2, vI x2)] [vI (M 56 (((10 : Int32) * x1) + x2).toNatClampNeg)] (σ, M, N) _ _
      refine r_if_eq J (tgt := 40) rfl (by decide) (fun c28 => ?_) (fun c28 => ?_)
      · refine r_run J 1 (pc' := 41) (lv' := [(0, vR 40), (1, vI x1), (2, vI x2)]) (st' := [vI (-1)]) rfl ?_
        exact r_iret J rfl rfl rfl rfl (by decide) (by decide)
      · refine r_run J 3 (pc' := 34) (lv' := [(0, vR 40), (1, vI x1), (2, vI x2)]) (st' := [vI x2, vI x1, vR 40]) rfl ?_
        refine r_callV J (As := [vI x1, vI x2]) (st := []) (fun r hr => c_X12_setIn x1 x2 σ M N hL r hr) cls12 (ly_40 hL) wm_12_211 wy_X12_setIn wd_X12_setIn ⟨by decide, by decide, by decide, by decide, Nat.le_of_ble_eq_true rfl⟩ rfl rfl (fun q34 hq34 => ?_)
        show g_H E 0 0 37 [(0, vR 40), (1, vI x1), (2, vI x2)] [vI q34] (σ, M, N) _ _
        refine r_if_eq J (tgt := 42) rfl (by decide) (fun c37 => ?_) (fun c37 => ?_)
        · refine r_run J 6 (pc' := 48) (lv' := [(0, vR 40), (1, vI x1), (2, vI x2)]) (st' := [vI 0, vI x1, vR 40, vI x2, vI x1, vR 40]) rfl ?_
          refine r_callV J (As := [vI x1, vI 0]) (st := [vI x2, vI x1, vR 40]) (fun r hr => c_X12_now x1 0 σ M N hL r hr) cls12 (ly_40 hL) wm_12_387 wy_X12_now wd_X12_now ⟨by decide, by decide, by decide, by decide, Nat.le_of_ble_eq_true rfl⟩ rfl rfl (fun q48 hq48 => ?_)
          show g_H E 0 0 51 [(0, vR 40), (1, vI x1), (2, vI x2)] [vI q48.1, vI x2, vI x1, vR 40] (σ, q48.2.1, q48.2.2) _ _
          refine r_callV J (As := [vI x1, vI x2, vI q48.1]) (st := []) (fun r hr => c_X12_part_ x1 x2 q48.1 σ q48.2.1 q48.2.2 hL r hr) cls12 (ly_40 hL) wm_12_390 wy_X12_part_ wd_X12_part_ ⟨by decide, by decide, by decide, by decide, Nat.le_of_ble_eq_true rfl⟩ rfl rfl (fun q51 hq51 => ?_)
          show g_H E 0 0 54 [(0, vR 40), (1, vI x1), (2, vI x2)] [vI q51] (σ, q48.2.1, q48.2.2) _ _
          refine r_run J 2 (pc' := 56) (lv' := [(3, vI q51), (0, vR 40), (1, vI x1), (2, vI x2)]) (st' := [vR 40]) rfl ?_
          refine r_getR J cls12 rfl (k := 24) (t := 15) (by decide) wf_12_63 rfl rfl (ly_40 hL) (lr_40_24 hL) (fun _ => ?_)
          show g_H E 0 0 59 [(3, vI q51), (0, vR 40), (1, vI x1), (2, vI x2)] [vR 56] (σ, q48.2.1, q48.2.2) _ _
          refine r_run J 6 (pc' := 66) (lv' := [(3, vI q51), (0, vR 40), (1, vI x1), (2, vI x2)]) (st' := [vI 0, vI (((10 : Int32) * x1) + x2), vR 56]) rfl ?_
          refine r_zast J rfl (ly_56 hL) (fun i66 => ?_)
          show g_H E 0 0 67 [(3, vI q51), (0, vR 40), (1, vI x1), (2, vI x2)] [] (σ, (g_up q48.2.1 56 ((((10 : Int32) * x1) + x2).toNatClampNeg) (vp_nar .boolean 0)), q48.2.2) _ _
          refine r_run J 2 (pc' := 69) (lv' := [(3, vI q51), (0, vR 40), (1, vI x1), (2, vI x2)]) (st' := [vR 40, vR 40]) rfl ?_
          refine r_getI J cls12 rfl (k := 17) (by decide) wf_12_392 rfl (ly_40 hL) ?_
          show g_H E 0 0 72 [(3, vI q51), (0, vR 40), (1, vI x1), (2, vI x2)] [vI ((g_up q48.2.1 56 ((((10 : Int32) * x1) + x2).toNatClampNeg) (vp_nar .boolean 0)) 40 17), vR 40] (σ, (g_up q48.2.1 56 ((((10 : Int32) * x1) + x2).toNatClampNeg) (vp_nar .boolean 0)), q48.2.2) _ _
          refine r_run J 2 (pc' := 74) (lv' := [(3, vI q51), (0, vR 40), (1, vI x1), (2, vI x2)]) (st' := [vI (((g_up q48.2.1 56 ((((10 : Int32) * x1) + x2).toNatClampNeg) (vp_nar .boolean 0)) 40 17) + q51), vR 40]) rfl ?_
          refine r_putI J cls12 rfl (k := 17) (by decide) wf_12_392 rfl (Or.inl rfl) ⟨rfl, rfl⟩ (ly_40 hL) ?_
          show g_H E 0 0 77 [(3, vI q51), (0, vR 40), (1, vI x1), (2, vI x2)] [] (σ, (g_up (g_up q48.2.1 56 ((((10 : Int32) * x1) + x2).toNatClampNeg) (vp_nar .boolean 0)) 40 17 (((g_up q48.2.1 56 ((((10 : Int32) * x1) + x2).toNatClampNeg) (vp_nar .boolean 0)) 40 17) + q51)), q48.2.2) _ _
          refine r_run J 1 (pc' := 78) (lv' := [(3, vI q51), (0, vR 40), (1, vI x1), (2, vI x2)]) (st' := [vI q51]) rfl ?_
          exact r_iret J rfl rfl rfl rfl (by decide) (by decide)
        · refine r_run J 1 (pc' := 41) (lv' := [(0, vR 40), (1, vI x1), (2, vI x2)]) (st' := [vI (-1)]) rfl ?_
          exact r_iret J rfl rfl rfl rfl (by decide) (by decide)
theorem c_X12_give {l : Launch} (x1 : Int32) (x2 : Int32) (σ : gS) (M : gM) (N : gN) (hL : g_layM σ) (r : Int32 × gM × gN) (h : f_X12_give x1 x2 σ M N = some r) : g_Ct l yX12_give cX12_give 4 (some .int) 71 0 0 [vR 40, vI x1, vI x2] (σ, M, N) (eIMN σ r) :=
  g_Ct.of tb_X12_give (by decide +kernel) tk_X12_give (Nat.le_of_ble_eq_true rfl) (fun E J => p_X12_give_0 J x1 x2 σ M N hL r h)
def tb_X12_buy : gT := [(0, .aload_n 0, 1, 0), (1, .iload_n 1, 1, 0), (2, .invokevirtual 198, 3, 0), (5, .ifCond .eq 26, 3, 0), (8, .aload_n 0, 1, 0), (9, .iload_n 1, 1, 0), (10, .iload_n 2, 1, 0), (11, .invokevirtual 208, 3, 0), (14, .ifCond .eq 17, 3, 0), (17, .aload_n 0, 1, 0), (18, .getfield 63, 3, 0), (21, .bipush 10, 2, 10), (23, .iload_n 1, 1, 0), (24, .imul, 1, 0), (25, .iload_n 2, 1, 0), (26, .iadd, 1, 0), (27, .baload, 1, 0), (28, .ifCond .eq 5, 3, 0), (31, .iconst (-1), 1, (-1)), (32, .ireturn, 1, 0), (33, .aload_n 0, 1, 0), (34, .iload_n 1, 1, 0), (35, .iload_n 2, 1, 0), (36, .aload_n 0, 1, 0), (37, .iload_n 1, 1, 0), (38, .iconst 1, 1, 1), (39, .invokevirtual 387, 3, 0), (42, .invokevirtual 390, 3, 0), (45, .istore_n 3, 1, 0), (46, .aload_n 0, 1, 0), (47, .getfield 63, 3, 0), (50, .bipush 10, 2, 10), (52, .iload_n 1, 1, 0), (53, .imul, 1, 0), (54, .iload_n 2, 1, 0), (55, .iadd, 1, 0), (56, .iconst 1, 1, 1), (57, .bastore, 1, 0), (58, .aload_n 0, 1, 0), (59, .dup, 1, 0), (60, .getfield 392, 3, 0), (63, .iload_n 3, 1, 0), (64, .iadd, 1, 0), (65, .putfield 392, 3, 0), (68, .iload_n 3, 1, 0), (69, .ireturn, 1, 0)]
set_option maxRecDepth 100000 in
theorem tk_X12_buy : g_okT cX12_buy tb_X12_buy = true := by decide +kernel
abbrev J_X12_buy (E : gE) (l : Launch) : Prop := g_J E cX12_buy RX12 "buy" (some .int) 4 tb_X12_buy 71 0 0 l
set_option maxHeartbeats 4000000 in
set_option maxRecDepth 100000 in
theorem p_X12_buy_0 {l : Launch} {E : gE} (J : J_X12_buy E l) (x1 : Int32) (x2 : Int32) (σ : gS) (M : gM) (N : gN) (hL : g_layM σ) : g_H E 0 0 0 [(0, vR 40), (1, vI x1), (2, vI x2)] [] (σ, M, N) (b_X12_buy_0 x1 x2 σ M N) (eIMN σ) := by
  unfold b_X12_buy_0
  refine r_run J 2 (pc' := 2) (lv' := [(0, vR 40), (1, vI x1), (2, vI x2)]) (st' := [vI x1, vR 40]) rfl ?_
  refine r_callV J (As := [vI x1]) (st := []) (fun r hr => c_X12_isOpen x1 σ M N hL r hr) cls12 (ly_40 hL) wm_12_198 wy_X12_isOpen wd_X12_isOpen ⟨by decide, by decide, by decide, by decide, Nat.le_of_ble_eq_true rfl⟩ rfl rfl (fun q2 hq2 => ?_)
  show g_H E 0 0 5 [(0, vR 40), (1, vI x1), (2, vI x2)] [vI q2] (σ, M, N) _ _
  refine r_if_eq J (tgt := 31) rfl (by decide) (fun c5 => ?_) (fun c5 => ?_)
  · refine r_run J 1 (pc' := 32) (lv' := [(0, vR 40), (1, vI x1), (2, vI x2)]) (st' := [vI (-1)]) rfl ?_
    exact r_iret J rfl rfl rfl rfl (by decide) (by decide)
  · refine r_run J 3 (pc' := 11) (lv' := [(0, vR 40), (1, vI x1), (2, vI x2)]) (st' := [vI x2, vI x1, vR 40]) rfl ?_
    refine r_callV J (As := [vI x1, vI x2]) (st := []) (fun r hr => c_X12_isRoom x1 x2 σ M N hL r hr) cls12 (ly_40 hL) wm_12_208 wy_X12_isRoom wd_X12_isRoom ⟨by decide, by decide, by decide, by decide, Nat.le_of_ble_eq_true rfl⟩ rfl rfl (fun q11 hq11 => ?_)
    show g_H E 0 0 14 [(0, vR 40), (1, vI x1), (2, vI x2)] [vI q11] (σ, M, N) _ _
    refine r_if_eq J (tgt := 31) rfl (by decide) (fun c14 => ?_) (fun c14 => ?_)
    · refine r_run J 1 (pc' := 32) (lv' := [(0, vR 40), (1, vI x1), (2, vI x2)]) (st' := [vI (-1)]) rfl ?_
      exact r_iret J rfl rfl rfl rfl (by decide) (by decide)
    · refine r_run J 1 (pc' := 18) (lv' := [(0, vR 40), (1, vI x1), (2, vI x2)]) (st' := [vR 40]) rfl ?_
      refine r_getR J cls12 rfl (k := 24) (t := 15) (by decide) wf_12_63 rfl rfl (ly_40 hL) (lr_40_24 hL) (fun _ => ?_)
      show g_H E 0 0 21 [(0, vR 40), (1, vI x1), (2, vI x2)] [vR 56] (σ, M, N) _ _
      refine r_run J 5 (pc' := 27) (lv' := [(0, vR 40), (1, vI x1), (2, vI x2)]) (st' := [vI (((10 : Int32) * x1) + x2), vR 56]) rfl ?_
      refine r_zald J rfl (ly_56 hL) (fun i27 => ?_)
      show g_H E 0 0 28 [(0, vR 40), (1, vI x1), (2, vI x2)] [vI (M 56 (((10 : Int32) * x1) + x2).toNatClampNeg)] (σ, M, N) _ _
      refine r_if_eq J (tgt := 33) rfl (by decide) (fun c28 => ?_) (fun c28 => ?_)
      · refine r_run J 6 (pc' := 39) (lv' := [(0, vR 40), (1, vI x1), (2, vI x2)]) (st' := [vI 1, vI x1, vR 40, vI x2, vI x1, vR 40]) rfl ?_
        refine r_callV J (As := [vI x1, vI 1]) (st := [vI x2, vI x1, vR 40]) (fun r hr => c_X12_now x1 1 σ M N hL r hr) cls12 (ly_40 hL) wm_12_387 wy_X12_now wd_X12_now ⟨by decide, by decide, by decide, by decide, Nat.le_of_ble_eq_true rfl⟩ rfl rfl (fun q39 hq39 => ?_)
        show g_H E 0 0 42 [(0, vR 40), (1, vI x1), (2, vI x2)] [vI q39.1, vI x2, vI x1, vR 40] (σ, q39.2.1, q39.2.2) _ _
        refine r_callV J (As := [vI x1, vI x2, vI q39.1]) (st := []) (fun r hr => c_X12_part_ x1 x2 q39.1 σ q39.2.1 q39.2.2 hL r hr) cls12 (ly_40 hL) wm_12_390 wy_X12_part_ wd_X12_part_ ⟨by decide, by decide, by decide, by decide, Nat.le_of_ble_eq_true rfl⟩ rfl rfl (fun q42 hq42 => ?_)
        show g_H E 0 0 45 [(0, vR 40), (1, vI x1), (2, vI x2)] [vI q42] (σ, q39.2.1, q39.2.2) _ _
        refine r_run J 2 (pc' := 47) (lv' := [(3, vI q42), (0, vR 40), (1, vI x1), (2, vI x2)]) (st' := [vR 40]) rfl ?_
        refine r_getR J cls12 rfl (k := 24) (t := 15) (by decide) wf_12_63 rfl rfl (ly_40 hL) (lr_40_24 hL) (fun _ => ?_)
        show g_H E 0 0 50 [(3, vI q42), (0, vR 40), (1, vI x1), (2, vI x2)] [vR 56] (σ, q39.2.1, q39.2.2) _ _
        refine r_run J 6 (pc' := 57) (lv' := [(3, vI q42), (0, vR 40), (1, vI x1), (2, vI x2)]) (st' := [vI 1, vI (((10 : Int32) * x1) + x2), vR 56]) rfl ?_
        refine r_zast J rfl (ly_56 hL) (fun i57 => ?_)
        show g_H E 0 0 58 [(3, vI q42), (0, vR 40), (1, vI x1), (2, vI x2)] [] (σ, (g_up q39.2.1 56 ((((10 : Int32) * x1) + x2).toNatClampNeg) (vp_nar .boolean 1)), q39.2.2) _ _
        refine r_run J 2 (pc' := 60) (lv' := [(3, vI q42), (0, vR 40), (1, vI x1), (2, vI x2)]) (st' := [vR 40, vR 40]) rfl ?_
        refine r_getI J cls12 rfl (k := 17) (by decide) wf_12_392 rfl (ly_40 hL) ?_
        show g_H E 0 0 63 [(3, vI q42), (0, vR 40), (1, vI x1), (2, vI x2)] [vI ((g_up q39.2.1 56 ((((10 : Int32) * x1) + x2).toNatClampNeg) (vp_nar .boolean 1)) 40 17), vR 40] (σ, (g_up q39.2.1 56 ((((10 : Int32) * x1) + x2).toNatClampNeg) (vp_nar .boolean 1)), q39.2.2) _ _
        refine r_run J 2 (pc' := 65) (lv' := [(3, vI q42), (0, vR 40), (1, vI x1), (2, vI x2)]) (st' := [vI (((g_up q39.2.1 56 ((((10 : Int32) * x1) + x2).toNatClampNeg) (vp_nar .boolean 1)) 40 17) + q42), vR 40]) rfl ?_
        refine r_putI J cls12 rfl (k := 17) (by decide) wf_12_392 rfl (Or.inl rfl) ⟨rfl, rfl⟩ (ly_40 hL) ?_
        show g_H E 0 0 68 [(3, vI q42), (0, vR 40), (1, vI x1), (2, vI x2)] [] (σ, (g_up (g_up q39.2.1 56 ((((10 : Int32) * x1) + x2).toNatClampNeg) (vp_nar .boolean 1)) 40 17 (((g_up q39.2.1 56 ((((10 : Int32) * x1) + x2).toNatClampNeg) (vp_nar .boolean 1)) 40 17) + q42)), q39.2.2) _ _
        refine r_run J 1 (pc' := 69) (lv' := [(3, vI q42), (0, vR 40), (1, vI x1), (2, vI x2)]) (st' := [vI q42]) rfl ?_
        exact r_iret J rfl rfl rfl rfl (by decide) (by decide)
      · refine r_run J 1 (pc' := 32) (lv' := [(0, vR 40), (1, vI x1), (2, vI x2)]) (st' := [vI (-1)]) rfl ?_
        exact r_iret J rfl rfl rfl rfl (by decide) (by decide)
theorem c_X12_buy {l : Launch} (x1 : Int32) (x2 : Int32) (σ : gS) (M : gM) (N : gN) (hL : g_layM σ) (r : Int32 × gM × gN) (h : f_X12_buy x1 x2 σ M N = some r) : g_Ct l yX12_buy cX12_buy 4 (some .int) 71 0 0 [vR 40, vI x1, vI x2] (σ, M, N) (eIMN σ r) :=
  g_Ct.of tb_X12_buy (by decide +kernel) tk_X12_buy (Nat.le_of_ble_eq_true rfl) (fun E J => p_X12_buy_0 J x1 x2 σ M N hL r h)
def tb_X12_isLoss : gT := [(0, .aload_n 0, 1, 0), (1, .iload_n 1, 1, 0), (2, .invokevirtual 170, 3, 0), (5, .ifCond .eq 48, 3, 0), (8, .iload_n 2, 1, 0), (9, .iconst 0, 1, 0), (10, .bipush 30, 2, 30), (12, .invokestatic 160, 3, 0), (15, .ifCond .eq 38, 3, 0), (18, .iload_n 3, 1, 0), (19, .iconst 0, 1, 0), (20, .iconst 3, 1, 3), (21, .invokestatic 160, 3, 0), (24, .ifCond .eq 29, 3, 0), (27, .iload 4, 2, 0), (29, .iconst 0, 1, 0), (30, .iconst 3, 1, 3), (31, .invokestatic 160, 3, 0), (34, .ifCond .eq 19, 3, 0), (37, .iload 5, 2, 0), (39, .iconst 0, 1, 0), (40, .sipush 1000, 3, 1000), (43, .invokestatic 160, 3, 0), (46, .ifCond .eq 7, 3, 0), (49, .iconst 1, 1, 1), (50, .goto 4, 3, 0), (53, .iconst 0, 1, 0), (54, .ireturn, 1, 0)]
set_option maxRecDepth 100000 in
theorem tk_X12_isLoss : g_okT cX12_isLoss tb_X12_isLoss = true := by decide +kernel
abbrev J_X12_isLoss (E : gE) (l : Launch) : Prop := g_J E cX12_isLoss RX12 "isLoss" (some .boolean) 6 tb_X12_isLoss 3 0 0 l
set_option maxHeartbeats 4000000 in
set_option maxRecDepth 100000 in
theorem p_X12_isLoss_0 {l : Launch} {E : gE} (J : J_X12_isLoss E l) (x1 : Int32) (x2 : Int32) (x3 : Int32) (x4 : Int32) (x5 : Int32) (σ : gS) (M : gM) (N : gN) (hL : g_layM σ) : g_H E 0 0 0 [(0, vR 40), (1, vI x1), (2, vI x2), (3, vI x3), (4, vI x4), (5, vI x5)] [] (σ, M, N) (b_X12_isLoss_0 x1 x2 x3 x4 x5 σ M) (eI σ M N) := by
  unfold b_X12_isLoss_0
  refine r_run J 2 (pc' := 2) (lv' := [(0, vR 40), (1, vI x1), (2, vI x2), (3, vI x3), (4, vI x4), (5, vI x5)]) (st' := [vI x1, vR 40]) rfl ?_
  refine r_callV J (As := [vI x1]) (st := []) (fun r hr => c_X12_isTown x1 σ M N hL r hr) cls12 (ly_40 hL) wm_12_170 wy_X12_isTown wd_X12_isTown ⟨by decide, by decide, by decide, by decide, Nat.le_of_ble_eq_true rfl⟩ rfl rfl (fun q2 hq2 => ?_)
  show g_H E 0 0 5 [(0, vR 40), (1, vI x1), (2, vI x2), (3, vI x3), (4, vI x4), (5, vI x5)] [vI q2] (σ, M, N) _ _
  refine r_if_eq J (tgt := 53) rfl (by decide) (fun c5 => ?_) (fun c5 => ?_)
  · refine r_run J 1 (pc' := 54) (lv' := [(0, vR 40), (1, vI x1), (2, vI x2), (3, vI x3), (4, vI x4), (5, vI x5)]) (st' := [vI 0]) rfl ?_
    exact r_iret J rfl rfl rfl rfl (by decide) (by decide)
  · refine r_run J 3 (pc' := 12) (lv' := [(0, vR 40), (1, vI x1), (2, vI x2), (3, vI x3), (4, vI x4), (5, vI x5)]) (st' := [vI 30, vI 0, vI x2]) rfl ?_
    refine r_callS J (As := [vI x2, vI 0, vI 30]) (st := []) (fun r hr => c_X12_in x2 0 30 σ M N hL r hr) wm_12_160 wy_X12_in wd_X12_in ⟨by decide, by decide, by decide, by decide, Nat.le_of_ble_eq_true rfl⟩ rfl rfl (fun q12 hq12 => ?_)
    show g_H E 0 0 15 [(0, vR 40), (1, vI x1), (2, vI x2), (3, vI x3), (4, vI x4), (5, vI x5)] [vI q12] (σ, M, N) _ _
    refine r_if_eq J (tgt := 53) rfl (by decide) (fun c15 => ?_) (fun c15 => ?_)
    · refine r_run J 1 (pc' := 54) (lv' := [(0, vR 40), (1, vI x1), (2, vI x2), (3, vI x3), (4, vI x4), (5, vI x5)]) (st' := [vI 0]) rfl ?_
      exact r_iret J rfl rfl rfl rfl (by decide) (by decide)
    · refine r_run J 3 (pc' := 21) (lv' := [(0, vR 40), (1, vI x1), (2, vI x2), (3, vI x3), (4, vI x4), (5, vI x5)]) (st' := [vI 3, vI 0, vI x3]) rfl ?_
      refine r_callS J (As := [vI x3, vI 0, vI 3]) (st := []) (fun r hr => c_X12_in x3 0 3 σ M N hL r hr) wm_12_160 wy_X12_in wd_X12_in ⟨by decide, by decide, by decide, by decide, Nat.le_of_ble_eq_true rfl⟩ rfl rfl (fun q21 hq21 => ?_)
      show g_H E 0 0 24 [(0, vR 40), (1, vI x1), (2, vI x2), (3, vI x3), (4, vI x4), (5, vI x5)] [vI q21] (σ, M, N) _ _
      refine r_if_eq J (tgt := 53) rfl (by decide) (fun c24 => ?_) (fun c24 => ?_)
      · refine r_run J 1 (pc' := 54) (lv' := [(0, vR 40), (1, vI x1), (2, vI x2), (3, vI x3), (4, vI x4), (5, vI x5)]) (st' := [vI 0]) rfl ?_
        exact r_iret J rfl rfl rfl rfl (by decide) (by decide)
      · refine r_run J 3 (pc' := 31) (lv' := [(0, vR 40), (1, vI x1), (2, vI x2), (3, vI x3), (4, vI x4), (5, vI x5)]) (st' := [vI 3, vI 0, vI x4]) rfl ?_
        refine r_callS J (As := [vI x4, vI 0, vI 3]) (st := []) (fun r hr => c_X12_in x4 0 3 σ M N hL r hr) wm_12_160 wy_X12_in wd_X12_in ⟨by decide, by decide, by decide, by decide, Nat.le_of_ble_eq_true rfl⟩ rfl rfl (fun q31 hq31 => ?_)
        show g_H E 0 0 34 [(0, vR 40), (1, vI x1), (2, vI x2), (3, vI x3), (4, vI x4), (5, vI x5)] [vI q31] (σ, M, N) _ _
        refine r_if_eq J (tgt := 53) rfl (by decide) (fun c34 => ?_) (fun c34 => ?_)
        · refine r_run J 1 (pc' := 54) (lv' := [(0, vR 40), (1, vI x1), (2, vI x2), (3, vI x3), (4, vI x4), (5, vI x5)]) (st' := [vI 0]) rfl ?_
          exact r_iret J rfl rfl rfl rfl (by decide) (by decide)
        · refine r_run J 3 (pc' := 43) (lv' := [(0, vR 40), (1, vI x1), (2, vI x2), (3, vI x3), (4, vI x4), (5, vI x5)]) (st' := [vI 1000, vI 0, vI x5]) rfl ?_
          refine r_callS J (As := [vI x5, vI 0, vI 1000]) (st := []) (fun r hr => c_X12_in x5 0 1000 σ M N hL r hr) wm_12_160 wy_X12_in wd_X12_in ⟨by decide, by decide, by decide, by decide, Nat.le_of_ble_eq_true rfl⟩ rfl rfl (fun q43 hq43 => ?_)
          show g_H E 0 0 46 [(0, vR 40), (1, vI x1), (2, vI x2), (3, vI x3), (4, vI x4), (5, vI x5)] [vI q43] (σ, M, N) _ _
          refine r_if_eq J (tgt := 53) rfl (by decide) (fun c46 => ?_) (fun c46 => ?_)
          · refine r_run J 1 (pc' := 54) (lv' := [(0, vR 40), (1, vI x1), (2, vI x2), (3, vI x3), (4, vI x4), (5, vI x5)]) (st' := [vI 0]) rfl ?_
            exact r_iret J rfl rfl rfl rfl (by decide) (by decide)
          · refine r_run J 2 (pc' := 54) (lv' := [(0, vR 40), (1, vI x1), (2, vI x2), (3, vI x3), (4, vI x4), (5, vI x5)]) (st' := [vI 1]) rfl ?_
            exact r_iret J rfl rfl rfl rfl (by decide) (by decide)
theorem c_X12_isLoss {l : Launch} (x1 : Int32) (x2 : Int32) (x3 : Int32) (x4 : Int32) (x5 : Int32) (σ : gS) (M : gM) (N : gN) (hL : g_layM σ) (r : Int32) (h : f_X12_isLoss x1 x2 x3 x4 x5 σ M = some r) : g_Ct l yX12_isLoss cX12_isLoss 6 (some .boolean) 3 0 0 [vR 40, vI x1, vI x2, vI x3, vI x4, vI x5] (σ, M, N) (eI σ M N r) :=
  g_Ct.of tb_X12_isLoss (by decide +kernel) tk_X12_isLoss (Nat.le_of_ble_eq_true rfl) (fun E J => p_X12_isLoss_0 J x1 x2 x3 x4 x5 σ M N hL r h)
def tb_X12_losses : gT := [(0, .aload_n 0, 1, 0), (1, .aload_n 0, 1, 0), (2, .iload_n 1, 1, 0), (3, .invokevirtual 381, 3, 0), (6, .putfield 337, 3, 0), (9, .iconst 0, 1, 0), (10, .istore 6, 2, 0), (12, .iload 6, 2, 0), (14, .bipush 121, 2, 121), (16, .if_icmp .ge 60, 3, 0), (19, .aload_n 0, 1, 0), (20, .getfield 124, 3, 0), (23, .iload 6, 2, 0), (25, .iload 6, 2, 0), (27, .bipush 11, 2, 11), (29, .idiv, 1, 0), (30, .iload 6, 2, 0), (32, .bipush 11, 2, 11), (34, .irem, 1, 0), (35, .if_icmp .le 20, 3, 0), (38, .bipush 100, 2, 100), (40, .iload 6, 2, 0), (42, .bipush 11, 2, 11), (44, .idiv, 1, 0), (45, .iload 6, 2, 0), (47, .bipush 11, 2, 11), (49, .irem, 1, 0), (50, .isub, 1, 0), (51, .imul, 1, 0), (52, .goto 17, 3, 0), (55, .iload 5, 2, 0), (57, .iload 6, 2, 0), (59, .bipush 11, 2, 11), (61, .irem, 1, 0), (62, .iload 6, 2, 0), (64, .bipush 11, 2, 11), (66, .idiv, 1, 0), (67, .isub, 1, 0), (68, .imul, 1, 0), (69, .iastore, 1, 0), (70, .iinc 6 1, 3, 1), (73, .goto (-61), 3, 0), (76, .aload_n 0, 1, 0), (77, .iconst 0, 1, 0), (78, .putfield 395, 3, 0), (81, .aload_n 0, 1, 0), (82, .iload_n 1, 1, 0), (83, .invokevirtual 375, 3, 0), (86, .istore 6, 2, 0), (88, .aload_n 0, 1, 0), (89, .iload_n 1, 1, 0), (90, .invokevirtual 378, 3, 0), (93, .istore 7, 2, 0), (95, .iconst 1, 1, 1), (96, .istore 8, 2, 0), (98, .iload 8, 2, 0), (100, .iload_n 2, 1, 0), (101, .if_icmp .gt 265, 3, 0), (104, .iconst 0, 1, 0), (105, .istore 9, 2, 0), (107, .iload 9, 2, 0), (109, .bipush 121, 2, 121), (111, .if_icmp .ge 23, 3, 0), (114, .aload_n 0, 1, 0), (115, .getfield 127, 3, 0), (118, .iload 9, 2, 0), (120, .aload_n 0, 1, 0), (121, .getfield 124, 3, 0), (124, .iload 9, 2, 0), (126, .iaload, 1, 0), (127, .iastore, 1, 0), (128, .iinc 9 1, 3, 1), (131, .goto (-24), 3, 0), (134, .iconst 0, 1, 0), (135, .istore 9, 2, 0), (137, .iload 9, 2, 0), (139, .bipush 10, 2, 10), (141, .if_icmp .gt 219, 3, 0), (144, .iconst 0, 1, 0), (145, .istore 10, 2, 0), (147, .iload 10, 2, 0), (149, .bipush 10, 2, 10), (151, .if_icmp .gt 203, 3, 0), (154, .aload_n 0, 1, 0), (155, .iload 8, 2, 0), (157, .putfield 322, 3, 0), (160, .aload_n 0, 1, 0), (161, .iload 9, 2, 0), (163, .putfield 327, 3, 0), (166, .aload_n 0, 1, 0), (167, .iload 10, 2, 0), (169, .putfield 332, 3, 0), (172, .aload_n 0, 1, 0), (173, .iload_n 1, 1, 0), (174, .iconst 0, 1, 0), (175, .invokevirtual 384, 3, 0), (178, .istore 11, 2, 0), (180, .ldc 231, 2, 0), (182, .istore 12, 2, 0), (184, .iconst 0, 1, 0), (185, .istore 13, 2, 0), (187, .iload 13, 2, 0), (189, .iload 9, 2, 0), (191, .if_icmp .gt 142, 3, 0), (194, .iconst 0, 1, 0), (195, .istore 14, 2, 0), (197, .iload 10, 2, 0), (199, .iload 4, 2, 0), (201, .isub, 1, 0), (202, .istore 15, 2, 0), (204, .iload 15, 2, 0), (206, .iload 10, 2, 0), (208, .iload_n 3, 1, 0), (209, .iadd, 1, 0), (210, .if_icmp .gt 64, 3, 0), (213, .iload 15, 2, 0), (215, .iconst 0, 1, 0), (216, .bipush 10, 2, 10), (218, .invokestatic 160, 3, 0), (221, .ifCond .eq 43, 3, 0), (224, .aload_n 0, 1, 0), (225, .getfield 127, 3, 0), (228, .bipush 11, 2, 11), (230, .iload 9, 2, 0), (232, .iload 13, 2, 0), (234, .isub, 1, 0), (235, .imul, 1, 0), (236, .iload 15, 2, 0), (238, .iadd, 1, 0), (239, .iaload, 1, 0), (240, .iload 14, 2, 0), (242, .if_icmp .le 22, 3, 0), (245, .aload_n 0, 1, 0), (246, .getfield 127, 3, 0), (249, .bipush 11, 2, 11), (251, .iload 9, 2, 0), (253, .iload 13, 2, 0), (255, .isub, 1, 0), (256, .imul, 1, 0), (257, .iload 15, 2, 0), (259, .iadd, 1, 0), (260, .iaload, 1, 0), (261, .goto 5, 3, 0), (264, .iload 14, 2, 0), (266, .istore 14, 2, 0), (268, .iinc 15 1, 3, 1), (271, .goto (-67), 3, 0), (274, .iload 13, 2, 0), (276, .iload 11, 2, 0), (278, .imul, 1, 0), (279, .iload 14, 2, 0), (281, .iadd, 1, 0), (282, .iload 12, 2, 0), (284, .if_icmp .lt 6, 3, 0), (287, .goto 40, 3, 0), (290, .iload 13, 2, 0), (292, .iload 11, 2, 0), (294, .imul, 1, 0), (295, .iload 14, 2, 0), (297, .iadd, 1, 0), (298, .istore 12, 2, 0), (300, .aload_n 0, 1, 0), (301, .iload 9, 2, 0), (303, .iload 6, 2, 0), (305, .if_icmp .ne 15, 3, 0), (308, .iload 10, 2, 0), (310, .iload 7, 2, 0), (312, .if_icmp .ne 8, 3, 0), (315, .iload 13, 2, 0), (317, .goto 7, 3, 0), (320, .aload_n 0, 1, 0), (321, .getfield 395, 3, 0), (324, .putfield 395, 3, 0), (327, .iinc 13 1, 3, 1), (330, .goto (-143), 3, 0), (333, .aload_n 0, 1, 0), (334, .getfield 124, 3, 0), (337, .bipush 11, 2, 11), (339, .iload 9, 2, 0), (341, .imul, 1, 0), (342, .iload 10, 2, 0), (344, .iadd, 1, 0), (345, .iload 12, 2, 0), (347, .iastore, 1, 0), (348, .iinc 10 1, 3, 1), (351, .goto (-204), 3, 0), (354, .iinc 9 1, 3, 1), (357, .goto (-220), 3, 0), (360, .iinc 8 1, 3, 1), (363, .goto (-265), 3, 0), (366, .return_, 1, 0)]
set_option maxRecDepth 100000 in
theorem tk_X12_losses : g_okT cX12_losses tb_X12_losses = true := by decide +kernel
abbrev J_X12_losses (E : gE) (l : Launch) : Prop := g_J E cX12_losses RX12 "losses" none 16 tb_X12_losses 70 0 0 l
set_option maxHeartbeats 4000000 in
set_option maxRecDepth 100000 in
theorem p_X12_losses_327 {l : Launch} {E : gE} (J : J_X12_losses E l) {k98 : Int32 → Int32 → Int32 → Int32 → Int32 → Int32 → Int32 → gS → gM → gN → Option (gM × gN)} (H98 : ∀ (x1 : Int32) (x2 : Int32) (x3 : Int32) (x4 : Int32) (x6 : Int32) (x7 : Int32) (x8 : Int32) (σ : gS) (M : gM) (N : gN) (_ : g_layM σ), g_H E 0 0 98 [(0, vR 40), (1, vI x1), (2, vI x2), (3, vI x3), (4, vI x4), (6, vI x6), (7, vI x7), (8, vI x8)] [] (σ, M, N) (k98 x1 x2 x3 x4 x6 x7 x8 σ M N) (eVMN σ)) {k137 : Int32 → Int32 → Int32 → Int32 → Int32 → Int32 → Int32 → Int32 → gS → gM → gN → Option (gM × gN)} (H137 : ∀ (x1 : Int32) (x2 : Int32) (x3 : Int32) (x4 : Int32) (x6 : Int32) (x7 : Int32) (x8 : Int32) (x9 : Int32) (σ : gS) (M : gM) (N : gN) (_ : g_layM σ), g_H E 0 0 137 [(0, vR 40), (1, vI x1), (2, vI x2), (3, vI x3), (4, vI x4), (6, vI x6), (7, vI x7), (8, vI x8), (9, vI x9)] [] (σ, M, N) (k137 x1 x2 x3 x4 x6 x7 x8 x9 σ M N) (eVMN σ)) {k147 : Int32 → Int32 → Int32 → Int32 → Int32 → Int32 → Int32 → Int32 → Int32 → gS → gM → gN → Option (gM × gN)} (H147 : ∀ (x1 : Int32) (x2 : Int32) (x3 : Int32) (x4 : Int32) (x6 : Int32) (x7 : Int32) (x8 : Int32) (x9 : Int32) (x10 : Int32) (σ : gS) (M : gM) (N : gN) (_ : g_layM σ), g_H E 0 0 147 [(0, vR 40), (1, vI x1), (2, vI x2), (3, vI x3), (4, vI x4), (6, vI x6), (7, vI x7), (8, vI x8), (9, vI x9), (10, vI x10)] [] (σ, M, N) (k147 x1 x2 x3 x4 x6 x7 x8 x9 x10 σ M N) (eVMN σ)) {k187 : Int32 → Int32 → Int32 → Int32 → Int32 → Int32 → Int32 → Int32 → Int32 → Int32 → Int32 → Int32 → gS → gM → gN → Option (gM × gN)} (H187 : ∀ (x1 : Int32) (x2 : Int32) (x3 : Int32) (x4 : Int32) (x6 : Int32) (x7 : Int32) (x8 : Int32) (x9 : Int32) (x10 : Int32) (x11 : Int32) (x12 : Int32) (x13 : Int32) (σ : gS) (M : gM) (N : gN) (_ : g_layM σ), g_H E 0 0 187 [(0, vR 40), (1, vI x1), (2, vI x2), (3, vI x3), (4, vI x4), (6, vI x6), (7, vI x7), (8, vI x8), (9, vI x9), (10, vI x10), (11, vI x11), (12, vI x12), (13, vI x13)] [] (σ, M, N) (k187 x1 x2 x3 x4 x6 x7 x8 x9 x10 x11 x12 x13 σ M N) (eVMN σ)) (x1 : Int32) (x2 : Int32) (x3 : Int32) (x4 : Int32) (x6 : Int32) (x7 : Int32) (x8 : Int32) (x9 : Int32) (x10 : Int32) (x11 : Int32) (x12 : Int32) (x13 : Int32) (σ : gS) (M : gM) (N : gN) (hL : g_layM σ) : g_H E 0 0 327 [(0, vR 40), (1, vI x1), (2, vI x2), (3, vI x3), (4, vI x4), (6, vI x6), (7, vI x7), (8, vI x8), (9, vI x9), (10, vI x10), (11, vI x11), (12, vI x12), (13, vI x13)] [] (σ, M, N) (b_X12_losses_327 k98 k137 k147 k187 x1 x2 x3 x4 x6 x7 x8 x9 x10 x11 x12 x13 σ M N) (eVMN σ) := by
  unfold b_X12_losses_327
  refine r_run J 2 (pc' := 187) (lv' := [(13, vI (x13 + 1)), (0, vR 40), (1, vI x1), (2, vI x2), (3, vI x3), (4, vI x4), (6, vI x6), (7, vI x7), (8, vI x8), (9, vI x9), (10, vI x10), (11, vI x11), (12, vI x12)]) (st' := []) rfl ?_
  refine r_sub [1, 2, 3, 4, 5, 6, 7, 8, 9, 10, 11, 12, 0] (lv' := [(0, vR 40), (1, vI x1), (2, vI x2), (3, vI x3), (4, vI x4), (6, vI x6), (7, vI x7), (8, vI x8), (9, vI x9), (10, vI x10), (11, vI x11), (12, vI x12), (13, vI (x13 + 1))]) rfl ?_
  exact H187 x1 x2 x3 x4 x6 x7 x8 x9 x10 x11 x12 (x13 + 1) σ M N hL
set_option maxHeartbeats 4000000 in
set_option maxRecDepth 100000 in
theorem p_X12_losses_324 {l : Launch} {E : gE} (J : J_X12_losses E l) {k98 : Int32 → Int32 → Int32 → Int32 → Int32 → Int32 → Int32 → gS → gM → gN → Option (gM × gN)} (H98 : ∀ (x1 : Int32) (x2 : Int32) (x3 : Int32) (x4 : Int32) (x6 : Int32) (x7 : Int32) (x8 : Int32) (σ : gS) (M : gM) (N : gN) (_ : g_layM σ), g_H E 0 0 98 [(0, vR 40), (1, vI x1), (2, vI x2), (3, vI x3), (4, vI x4), (6, vI x6), (7, vI x7), (8, vI x8)] [] (σ, M, N) (k98 x1 x2 x3 x4 x6 x7 x8 σ M N) (eVMN σ)) {k137 : Int32 → Int32 → Int32 → Int32 → Int32 → Int32 → Int32 → Int32 → gS → gM → gN → Option (gM × gN)} (H137 : ∀ (x1 : Int32) (x2 : Int32) (x3 : Int32) (x4 : Int32) (x6 : Int32) (x7 : Int32) (x8 : Int32) (x9 : Int32) (σ : gS) (M : gM) (N : gN) (_ : g_layM σ), g_H E 0 0 137 [(0, vR 40), (1, vI x1), (2, vI x2), (3, vI x3), (4, vI x4), (6, vI x6), (7, vI x7), (8, vI x8), (9, vI x9)] [] (σ, M, N) (k137 x1 x2 x3 x4 x6 x7 x8 x9 σ M N) (eVMN σ)) {k147 : Int32 → Int32 → Int32 → Int32 → Int32 → Int32 → Int32 → Int32 → Int32 → gS → gM → gN → Option (gM × gN)} (H147 : ∀ (x1 : Int32) (x2 : Int32) (x3 : Int32) (x4 : Int32) (x6 : Int32) (x7 : Int32) (x8 : Int32) (x9 : Int32) (x10 : Int32) (σ : gS) (M : gM) (N : gN) (_ : g_layM σ), g_H E 0 0 147 [(0, vR 40), (1, vI x1), (2, vI x2), (3, vI x3), (4, vI x4), (6, vI x6), (7, vI x7), (8, vI x8), (9, vI x9), (10, vI x10)] [] (σ, M, N) (k147 x1 x2 x3 x4 x6 x7 x8 x9 x10 σ M N) (eVMN σ)) {k187 : Int32 → Int32 → Int32 → Int32 → Int32 → Int32 → Int32 → Int32 → Int32 → Int32 → Int32 → Int32 → gS → gM → gN → Option (gM × gN)} (H187 : ∀ (x1 : Int32) (x2 : Int32) (x3 : Int32) (x4 : Int32) (x6 : Int32) (x7 : Int32) (x8 : Int32) (x9 : Int32) (x10 : Int32) (x11 : Int32) (x12 : Int32) (x13 : Int32) (σ : gS) (M : gM) (N : gN) (_ : g_layM σ), g_H E 0 0 187 [(0, vR 40), (1, vI x1), (2, vI x2), (3, vI x3), (4, vI x4), (6, vI x6), (7, vI x7), (8, vI x8), (9, vI x9), (10, vI x10), (11, vI x11), (12, vI x12), (13, vI x13)] [] (σ, M, N) (k187 x1 x2 x3 x4 x6 x7 x8 x9 x10 x11 x12 x13 σ M N) (eVMN σ)) (x1 : Int32) (x2 : Int32) (x3 : Int32) (x4 : Int32) (x6 : Int32) (x7 : Int32) (x8 : Int32) (x9 : Int32) (x10 : Int32) (x11 : Int32) (x12 : Int32) (x13 : Int32) (sx0 : Int32) (σ : gS) (M : gM) (N : gN) (hL : g_layM σ) : g_H E 0 0 324 [(0, vR 40), (1, vI x1), (2, vI x2), (3, vI x3), (4, vI x4), (6, vI x6), (7, vI x7), (8, vI x8), (9, vI x9), (10, vI x10), (11, vI x11), (12, vI x12), (13, vI x13)] [vI sx0, vR 40] (σ, M, N) (b_X12_losses_324 k98 k137 k147 k187 x1 x2 x3 x4 x6 x7 x8 x9 x10 x11 x12 x13 sx0 σ M N) (eVMN σ) := by
  unfold b_X12_losses_324
  refine r_putI J cls12 rfl (k := 62) (by decide) wf_12_395 rfl (Or.inl rfl) ⟨rfl, rfl⟩ (ly_40 hL) ?_
  show g_H E 0 0 327 [(0, vR 40), (1, vI x1), (2, vI x2), (3, vI x3), (4, vI x4), (6, vI x6), (7, vI x7), (8, vI x8), (9, vI x9), (10, vI x10), (11, vI x11), (12, vI x12), (13, vI x13)] [] (σ, (g_up M 40 62 sx0), N) _ _
  exact p_X12_losses_327 J H98 H137 H147 H187 x1 x2 x3 x4 x6 x7 x8 x9 x10 x11 x12 x13 σ (g_up M 40 62 sx0) N hL
set_option maxHeartbeats 4000000 in
set_option maxRecDepth 100000 in
theorem p_X12_losses_320 {l : Launch} {E : gE} (J : J_X12_losses E l) {k98 : Int32 → Int32 → Int32 → Int32 → Int32 → Int32 → Int32 → gS → gM → gN → Option (gM × gN)} (H98 : ∀ (x1 : Int32) (x2 : Int32) (x3 : Int32) (x4 : Int32) (x6 : Int32) (x7 : Int32) (x8 : Int32) (σ : gS) (M : gM) (N : gN) (_ : g_layM σ), g_H E 0 0 98 [(0, vR 40), (1, vI x1), (2, vI x2), (3, vI x3), (4, vI x4), (6, vI x6), (7, vI x7), (8, vI x8)] [] (σ, M, N) (k98 x1 x2 x3 x4 x6 x7 x8 σ M N) (eVMN σ)) {k137 : Int32 → Int32 → Int32 → Int32 → Int32 → Int32 → Int32 → Int32 → gS → gM → gN → Option (gM × gN)} (H137 : ∀ (x1 : Int32) (x2 : Int32) (x3 : Int32) (x4 : Int32) (x6 : Int32) (x7 : Int32) (x8 : Int32) (x9 : Int32) (σ : gS) (M : gM) (N : gN) (_ : g_layM σ), g_H E 0 0 137 [(0, vR 40), (1, vI x1), (2, vI x2), (3, vI x3), (4, vI x4), (6, vI x6), (7, vI x7), (8, vI x8), (9, vI x9)] [] (σ, M, N) (k137 x1 x2 x3 x4 x6 x7 x8 x9 σ M N) (eVMN σ)) {k147 : Int32 → Int32 → Int32 → Int32 → Int32 → Int32 → Int32 → Int32 → Int32 → gS → gM → gN → Option (gM × gN)} (H147 : ∀ (x1 : Int32) (x2 : Int32) (x3 : Int32) (x4 : Int32) (x6 : Int32) (x7 : Int32) (x8 : Int32) (x9 : Int32) (x10 : Int32) (σ : gS) (M : gM) (N : gN) (_ : g_layM σ), g_H E 0 0 147 [(0, vR 40), (1, vI x1), (2, vI x2), (3, vI x3), (4, vI x4), (6, vI x6), (7, vI x7), (8, vI x8), (9, vI x9), (10, vI x10)] [] (σ, M, N) (k147 x1 x2 x3 x4 x6 x7 x8 x9 x10 σ M N) (eVMN σ)) {k187 : Int32 → Int32 → Int32 → Int32 → Int32 → Int32 → Int32 → Int32 → Int32 → Int32 → Int32 → Int32 → gS → gM → gN → Option (gM × gN)} (H187 : ∀ (x1 : Int32) (x2 : Int32) (x3 : Int32) (x4 : Int32) (x6 : Int32) (x7 : Int32) (x8 : Int32) (x9 : Int32) (x10 : Int32) (x11 : Int32) (x12 : Int32) (x13 : Int32) (σ : gS) (M : gM) (N : gN) (_ : g_layM σ), g_H E 0 0 187 [(0, vR 40), (1, vI x1), (2, vI x2), (3, vI x3), (4, vI x4), (6, vI x6), (7, vI x7), (8, vI x8), (9, vI x9), (10, vI x10), (11, vI x11), (12, vI x12), (13, vI x13)] [] (σ, M, N) (k187 x1 x2 x3 x4 x6 x7 x8 x9 x10 x11 x12 x13 σ M N) (eVMN σ)) (x1 : Int32) (x2 : Int32) (x3 : Int32) (x4 : Int32) (x6 : Int32) (x7 : Int32) (x8 : Int32) (x9 : Int32) (x10 : Int32) (x11 : Int32) (x12 : Int32) (x13 : Int32) (σ : gS) (M : gM) (N : gN) (hL : g_layM σ) : g_H E 0 0 320 [(0, vR 40), (1, vI x1), (2, vI x2), (3, vI x3), (4, vI x4), (6, vI x6), (7, vI x7), (8, vI x8), (9, vI x9), (10, vI x10), (11, vI x11), (12, vI x12), (13, vI x13)] [vR 40] (σ, M, N) (b_X12_losses_320 k98 k137 k147 k187 x1 x2 x3 x4 x6 x7 x8 x9 x10 x11 x12 x13 σ M N) (eVMN σ) := by
  unfold b_X12_losses_320
  refine r_run J 1 (pc' := 321) (lv' := [(0, vR 40), (1, vI x1), (2, vI x2), (3, vI x3), (4, vI x4), (6, vI x6), (7, vI x7), (8, vI x8), (9, vI x9), (10, vI x10), (11, vI x11), (12, vI x12), (13, vI x13)]) (st' := [vR 40, vR 40]) rfl ?_
  refine r_getI J cls12 rfl (k := 62) (by decide) wf_12_395 rfl (ly_40 hL) ?_
  show g_H E 0 0 324 [(0, vR 40), (1, vI x1), (2, vI x2), (3, vI x3), (4, vI x4), (6, vI x6), (7, vI x7), (8, vI x8), (9, vI x9), (10, vI x10), (11, vI x11), (12, vI x12), (13, vI x13)] [vI (M 40 62), vR 40] (σ, M, N) _ _
  exact p_X12_losses_324 J H98 H137 H147 H187 x1 x2 x3 x4 x6 x7 x8 x9 x10 x11 x12 x13 (M 40 62) σ M N hL
set_option maxHeartbeats 4000000 in
set_option maxRecDepth 100000 in
theorem p_X12_losses_266 {l : Launch} {E : gE} (J : J_X12_losses E l) {k98 : Int32 → Int32 → Int32 → Int32 → Int32 → Int32 → Int32 → gS → gM → gN → Option (gM × gN)} (H98 : ∀ (x1 : Int32) (x2 : Int32) (x3 : Int32) (x4 : Int32) (x6 : Int32) (x7 : Int32) (x8 : Int32) (σ : gS) (M : gM) (N : gN) (_ : g_layM σ), g_H E 0 0 98 [(0, vR 40), (1, vI x1), (2, vI x2), (3, vI x3), (4, vI x4), (6, vI x6), (7, vI x7), (8, vI x8)] [] (σ, M, N) (k98 x1 x2 x3 x4 x6 x7 x8 σ M N) (eVMN σ)) {k137 : Int32 → Int32 → Int32 → Int32 → Int32 → Int32 → Int32 → Int32 → gS → gM → gN → Option (gM × gN)} (H137 : ∀ (x1 : Int32) (x2 : Int32) (x3 : Int32) (x4 : Int32) (x6 : Int32) (x7 : Int32) (x8 : Int32) (x9 : Int32) (σ : gS) (M : gM) (N : gN) (_ : g_layM σ), g_H E 0 0 137 [(0, vR 40), (1, vI x1), (2, vI x2), (3, vI x3), (4, vI x4), (6, vI x6), (7, vI x7), (8, vI x8), (9, vI x9)] [] (σ, M, N) (k137 x1 x2 x3 x4 x6 x7 x8 x9 σ M N) (eVMN σ)) {k147 : Int32 → Int32 → Int32 → Int32 → Int32 → Int32 → Int32 → Int32 → Int32 → gS → gM → gN → Option (gM × gN)} (H147 : ∀ (x1 : Int32) (x2 : Int32) (x3 : Int32) (x4 : Int32) (x6 : Int32) (x7 : Int32) (x8 : Int32) (x9 : Int32) (x10 : Int32) (σ : gS) (M : gM) (N : gN) (_ : g_layM σ), g_H E 0 0 147 [(0, vR 40), (1, vI x1), (2, vI x2), (3, vI x3), (4, vI x4), (6, vI x6), (7, vI x7), (8, vI x8), (9, vI x9), (10, vI x10)] [] (σ, M, N) (k147 x1 x2 x3 x4 x6 x7 x8 x9 x10 σ M N) (eVMN σ)) {k187 : Int32 → Int32 → Int32 → Int32 → Int32 → Int32 → Int32 → Int32 → Int32 → Int32 → Int32 → Int32 → gS → gM → gN → Option (gM × gN)} (H187 : ∀ (x1 : Int32) (x2 : Int32) (x3 : Int32) (x4 : Int32) (x6 : Int32) (x7 : Int32) (x8 : Int32) (x9 : Int32) (x10 : Int32) (x11 : Int32) (x12 : Int32) (x13 : Int32) (σ : gS) (M : gM) (N : gN) (_ : g_layM σ), g_H E 0 0 187 [(0, vR 40), (1, vI x1), (2, vI x2), (3, vI x3), (4, vI x4), (6, vI x6), (7, vI x7), (8, vI x8), (9, vI x9), (10, vI x10), (11, vI x11), (12, vI x12), (13, vI x13)] [] (σ, M, N) (k187 x1 x2 x3 x4 x6 x7 x8 x9 x10 x11 x12 x13 σ M N) (eVMN σ)) {k204 : Int32 → Int32 → Int32 → Int32 → Int32 → Int32 → Int32 → Int32 → Int32 → Int32 → Int32 → Int32 → Int32 → Int32 → gS → gM → gN → Option (gM × gN)} (H204 : ∀ (x1 : Int32) (x2 : Int32) (x3 : Int32) (x4 : Int32) (x6 : Int32) (x7 : Int32) (x8 : Int32) (x9 : Int32) (x10 : Int32) (x11 : Int32) (x12 : Int32) (x13 : Int32) (x14 : Int32) (x15 : Int32) (σ : gS) (M : gM) (N : gN) (_ : g_layM σ), g_H E 0 0 204 [(0, vR 40), (1, vI x1), (2, vI x2), (3, vI x3), (4, vI x4), (6, vI x6), (7, vI x7), (8, vI x8), (9, vI x9), (10, vI x10), (11, vI x11), (12, vI x12), (13, vI x13), (14, vI x14), (15, vI x15)] [] (σ, M, N) (k204 x1 x2 x3 x4 x6 x7 x8 x9 x10 x11 x12 x13 x14 x15 σ M N) (eVMN σ)) (x1 : Int32) (x2 : Int32) (x3 : Int32) (x4 : Int32) (x6 : Int32) (x7 : Int32) (x8 : Int32) (x9 : Int32) (x10 : Int32) (x11 : Int32) (x12 : Int32) (x13 : Int32) (x15 : Int32) (sx0 : Int32) (σ : gS) (M : gM) (N : gN) (hL : g_layM σ) : g_H E 0 0 266 [(0, vR 40), (1, vI x1), (2, vI x2), (3, vI x3), (4, vI x4), (6, vI x6), (7, vI x7), (8, vI x8), (9, vI x9), (10, vI x10), (11, vI x11), (12, vI x12), (13, vI x13), (15, vI x15)] [vI sx0] (σ, M, N) (b_X12_losses_266 k98 k137 k147 k187 k204 x1 x2 x3 x4 x6 x7 x8 x9 x10 x11 x12 x13 x15 sx0 σ M N) (eVMN σ) := by
  unfold b_X12_losses_266
  refine r_run J 3 (pc' := 204) (lv' := [(15, vI (x15 + 1)), (14, vI sx0), (0, vR 40), (1, vI x1), (2, vI x2), (3, vI x3), (4, vI x4), (6, vI x6), (7, vI x7), (8, vI x8), (9, vI x9), (10, vI x10), (11, vI x11), (12, vI x12), (13, vI x13)]) (st' := []) rfl ?_
  refine r_sub [2, 3, 4, 5, 6, 7, 8, 9, 10, 11, 12, 13, 14, 1, 0] (lv' := [(0, vR 40), (1, vI x1), (2, vI x2), (3, vI x3), (4, vI x4), (6, vI x6), (7, vI x7), (8, vI x8), (9, vI x9), (10, vI x10), (11, vI x11), (12, vI x12), (13, vI x13), (14, vI sx0), (15, vI (x15 + 1))]) rfl ?_
  exact H204 x1 x2 x3 x4 x6 x7 x8 x9 x10 x11 x12 x13 sx0 (x15 + 1) σ M N hL
set_option maxHeartbeats 4000000 in
set_option maxRecDepth 100000 in
theorem p_X12_losses_264 {l : Launch} {E : gE} (J : J_X12_losses E l) {k98 : Int32 → Int32 → Int32 → Int32 → Int32 → Int32 → Int32 → gS → gM → gN → Option (gM × gN)} (H98 : ∀ (x1 : Int32) (x2 : Int32) (x3 : Int32) (x4 : Int32) (x6 : Int32) (x7 : Int32) (x8 : Int32) (σ : gS) (M : gM) (N : gN) (_ : g_layM σ), g_H E 0 0 98 [(0, vR 40), (1, vI x1), (2, vI x2), (3, vI x3), (4, vI x4), (6, vI x6), (7, vI x7), (8, vI x8)] [] (σ, M, N) (k98 x1 x2 x3 x4 x6 x7 x8 σ M N) (eVMN σ)) {k137 : Int32 → Int32 → Int32 → Int32 → Int32 → Int32 → Int32 → Int32 → gS → gM → gN → Option (gM × gN)} (H137 : ∀ (x1 : Int32) (x2 : Int32) (x3 : Int32) (x4 : Int32) (x6 : Int32) (x7 : Int32) (x8 : Int32) (x9 : Int32) (σ : gS) (M : gM) (N : gN) (_ : g_layM σ), g_H E 0 0 137 [(0, vR 40), (1, vI x1), (2, vI x2), (3, vI x3), (4, vI x4), (6, vI x6), (7, vI x7), (8, vI x8), (9, vI x9)] [] (σ, M, N) (k137 x1 x2 x3 x4 x6 x7 x8 x9 σ M N) (eVMN σ)) {k147 : Int32 → Int32 → Int32 → Int32 → Int32 → Int32 → Int32 → Int32 → Int32 → gS → gM → gN → Option (gM × gN)} (H147 : ∀ (x1 : Int32) (x2 : Int32) (x3 : Int32) (x4 : Int32) (x6 : Int32) (x7 : Int32) (x8 : Int32) (x9 : Int32) (x10 : Int32) (σ : gS) (M : gM) (N : gN) (_ : g_layM σ), g_H E 0 0 147 [(0, vR 40), (1, vI x1), (2, vI x2), (3, vI x3), (4, vI x4), (6, vI x6), (7, vI x7), (8, vI x8), (9, vI x9), (10, vI x10)] [] (σ, M, N) (k147 x1 x2 x3 x4 x6 x7 x8 x9 x10 σ M N) (eVMN σ)) {k187 : Int32 → Int32 → Int32 → Int32 → Int32 → Int32 → Int32 → Int32 → Int32 → Int32 → Int32 → Int32 → gS → gM → gN → Option (gM × gN)} (H187 : ∀ (x1 : Int32) (x2 : Int32) (x3 : Int32) (x4 : Int32) (x6 : Int32) (x7 : Int32) (x8 : Int32) (x9 : Int32) (x10 : Int32) (x11 : Int32) (x12 : Int32) (x13 : Int32) (σ : gS) (M : gM) (N : gN) (_ : g_layM σ), g_H E 0 0 187 [(0, vR 40), (1, vI x1), (2, vI x2), (3, vI x3), (4, vI x4), (6, vI x6), (7, vI x7), (8, vI x8), (9, vI x9), (10, vI x10), (11, vI x11), (12, vI x12), (13, vI x13)] [] (σ, M, N) (k187 x1 x2 x3 x4 x6 x7 x8 x9 x10 x11 x12 x13 σ M N) (eVMN σ)) {k204 : Int32 → Int32 → Int32 → Int32 → Int32 → Int32 → Int32 → Int32 → Int32 → Int32 → Int32 → Int32 → Int32 → Int32 → gS → gM → gN → Option (gM × gN)} (H204 : ∀ (x1 : Int32) (x2 : Int32) (x3 : Int32) (x4 : Int32) (x6 : Int32) (x7 : Int32) (x8 : Int32) (x9 : Int32) (x10 : Int32) (x11 : Int32) (x12 : Int32) (x13 : Int32) (x14 : Int32) (x15 : Int32) (σ : gS) (M : gM) (N : gN) (_ : g_layM σ), g_H E 0 0 204 [(0, vR 40), (1, vI x1), (2, vI x2), (3, vI x3), (4, vI x4), (6, vI x6), (7, vI x7), (8, vI x8), (9, vI x9), (10, vI x10), (11, vI x11), (12, vI x12), (13, vI x13), (14, vI x14), (15, vI x15)] [] (σ, M, N) (k204 x1 x2 x3 x4 x6 x7 x8 x9 x10 x11 x12 x13 x14 x15 σ M N) (eVMN σ)) (x1 : Int32) (x2 : Int32) (x3 : Int32) (x4 : Int32) (x6 : Int32) (x7 : Int32) (x8 : Int32) (x9 : Int32) (x10 : Int32) (x11 : Int32) (x12 : Int32) (x13 : Int32) (x14 : Int32) (x15 : Int32) (σ : gS) (M : gM) (N : gN) (hL : g_layM σ) : g_H E 0 0 264 [(0, vR 40), (1, vI x1), (2, vI x2), (3, vI x3), (4, vI x4), (6, vI x6), (7, vI x7), (8, vI x8), (9, vI x9), (10, vI x10), (11, vI x11), (12, vI x12), (13, vI x13), (14, vI x14), (15, vI x15)] [] (σ, M, N) (b_X12_losses_264 k98 k137 k147 k187 k204 x1 x2 x3 x4 x6 x7 x8 x9 x10 x11 x12 x13 x14 x15 σ M N) (eVMN σ) := by
  unfold b_X12_losses_264
  refine r_run J 1 (pc' := 266) (lv' := [(0, vR 40), (1, vI x1), (2, vI x2), (3, vI x3), (4, vI x4), (6, vI x6), (7, vI x7), (8, vI x8), (9, vI x9), (10, vI x10), (11, vI x11), (12, vI x12), (13, vI x13), (14, vI x14), (15, vI x15)]) (st' := [vI x14]) rfl ?_
  refine r_sub [0, 1, 2, 3, 4, 5, 6, 7, 8, 9, 10, 11, 12, 14] (lv' := [(0, vR 40), (1, vI x1), (2, vI x2), (3, vI x3), (4, vI x4), (6, vI x6), (7, vI x7), (8, vI x8), (9, vI x9), (10, vI x10), (11, vI x11), (12, vI x12), (13, vI x13), (15, vI x15)]) rfl ?_
  exact p_X12_losses_266 J H98 H137 H147 H187 H204 x1 x2 x3 x4 x6 x7 x8 x9 x10 x11 x12 x13 x15 x14 σ M N hL
set_option maxHeartbeats 4000000 in
set_option maxRecDepth 100000 in
theorem p_X12_losses_204 {l : Launch} {E : gE} (J : J_X12_losses E l) {k98 : Int32 → Int32 → Int32 → Int32 → Int32 → Int32 → Int32 → gS → gM → gN → Option (gM × gN)} (H98 : ∀ (x1 : Int32) (x2 : Int32) (x3 : Int32) (x4 : Int32) (x6 : Int32) (x7 : Int32) (x8 : Int32) (σ : gS) (M : gM) (N : gN) (_ : g_layM σ), g_H E 0 0 98 [(0, vR 40), (1, vI x1), (2, vI x2), (3, vI x3), (4, vI x4), (6, vI x6), (7, vI x7), (8, vI x8)] [] (σ, M, N) (k98 x1 x2 x3 x4 x6 x7 x8 σ M N) (eVMN σ)) {k137 : Int32 → Int32 → Int32 → Int32 → Int32 → Int32 → Int32 → Int32 → gS → gM → gN → Option (gM × gN)} (H137 : ∀ (x1 : Int32) (x2 : Int32) (x3 : Int32) (x4 : Int32) (x6 : Int32) (x7 : Int32) (x8 : Int32) (x9 : Int32) (σ : gS) (M : gM) (N : gN) (_ : g_layM σ), g_H E 0 0 137 [(0, vR 40), (1, vI x1), (2, vI x2), (3, vI x3), (4, vI x4), (6, vI x6), (7, vI x7), (8, vI x8), (9, vI x9)] [] (σ, M, N) (k137 x1 x2 x3 x4 x6 x7 x8 x9 σ M N) (eVMN σ)) {k147 : Int32 → Int32 → Int32 → Int32 → Int32 → Int32 → Int32 → Int32 → Int32 → gS → gM → gN → Option (gM × gN)} (H147 : ∀ (x1 : Int32) (x2 : Int32) (x3 : Int32) (x4 : Int32) (x6 : Int32) (x7 : Int32) (x8 : Int32) (x9 : Int32) (x10 : Int32) (σ : gS) (M : gM) (N : gN) (_ : g_layM σ), g_H E 0 0 147 [(0, vR 40), (1, vI x1), (2, vI x2), (3, vI x3), (4, vI x4), (6, vI x6), (7, vI x7), (8, vI x8), (9, vI x9), (10, vI x10)] [] (σ, M, N) (k147 x1 x2 x3 x4 x6 x7 x8 x9 x10 σ M N) (eVMN σ)) {k187 : Int32 → Int32 → Int32 → Int32 → Int32 → Int32 → Int32 → Int32 → Int32 → Int32 → Int32 → Int32 → gS → gM → gN → Option (gM × gN)} (H187 : ∀ (x1 : Int32) (x2 : Int32) (x3 : Int32) (x4 : Int32) (x6 : Int32) (x7 : Int32) (x8 : Int32) (x9 : Int32) (x10 : Int32) (x11 : Int32) (x12 : Int32) (x13 : Int32) (σ : gS) (M : gM) (N : gN) (_ : g_layM σ), g_H E 0 0 187 [(0, vR 40), (1, vI x1), (2, vI x2), (3, vI x3), (4, vI x4), (6, vI x6), (7, vI x7), (8, vI x8), (9, vI x9), (10, vI x10), (11, vI x11), (12, vI x12), (13, vI x13)] [] (σ, M, N) (k187 x1 x2 x3 x4 x6 x7 x8 x9 x10 x11 x12 x13 σ M N) (eVMN σ)) : ∀ (n : Nat) (x1 : Int32) (x2 : Int32) (x3 : Int32) (x4 : Int32) (x6 : Int32) (x7 : Int32) (x8 : Int32) (x9 : Int32) (x10 : Int32) (x11 : Int32) (x12 : Int32) (x13 : Int32) (x14 : Int32) (x15 : Int32) (σ : gS) (M : gM) (N : gN) (hL : g_layM σ), g_H E 0 0 204 [(0, vR 40), (1, vI x1), (2, vI x2), (3, vI x3), (4, vI x4), (6, vI x6), (7, vI x7), (8, vI x8), (9, vI x9), (10, vI x10), (11, vI x11), (12, vI x12), (13, vI x13), (14, vI x14), (15, vI x15)] [] (σ, M, N) (l_X12_losses_204 k98 k137 k147 k187 n x1 x2 x3 x4 x6 x7 x8 x9 x10 x11 x12 x13 x14 x15 σ M N) (eVMN σ) := by
  intro n
  induction n with
  | zero => intros; exact h_none
  | succ n ih =>
    intro x1 x2 x3 x4 x6 x7 x8 x9 x10 x11 x12 x13 x14 x15 σ M N hL
    rw [l_X12_losses_204]
    refine r_run J 4 (pc' := 210) (lv' := [(0, vR 40), (1, vI x1), (2, vI x2), (3, vI x3), (4, vI x4), (6, vI x6), (7, vI x7), (8, vI x8), (9, vI x9), (10, vI x10), (11, vI x11), (12, vI x12), (13, vI x13), (14, vI x14), (15, vI x15)]) (st' := [vI (x10 + x3), vI x15]) rfl ?_
    refine r_icmp_gt J (tgt := 274) rfl (by decide) (fun c210 => ?_) (fun c210 => ?_)
    · refine r_run J 6 (pc' := 284) (lv' := [(0, vR 40), (1, vI x1), (2, vI x2), (3, vI x3), (4, vI x4), (6, vI x6), (7, vI x7), (8, vI x8), (9, vI x9), (10, vI x10), (11, vI x11), (12, vI x12), (13, vI x13), (14, vI x14), (15, vI x15)]) (st' := [vI x12, vI ((x13 * x11) + x14)]) rfl ?_
      refine r_icmp_lt J (tgt := 290) rfl (by decide) (fun c284 => ?_) (fun c284 => ?_)
      · refine r_run J 9 (pc' := 305) (lv' := [(12, vI ((x13 * x11) + x14)), (0, vR 40), (1, vI x1), (2, vI x2), (3, vI x3), (4, vI x4), (6, vI x6), (7, vI x7), (8, vI x8), (9, vI x9), (10, vI x10), (11, vI x11), (13, vI x13), (14, vI x14), (15, vI x15)]) (st' := [vI x6, vI x9, vR 40]) rfl ?_
        refine r_icmp_ne J (tgt := 320) rfl (by decide) (fun c305 => ?_) (fun c305 => ?_)
        · refine r_run J 2 (pc' := 312) (lv' := [(12, vI ((x13 * x11) + x14)), (0, vR 40), (1, vI x1), (2, vI x2), (3, vI x3), (4, vI x4), (6, vI x6), (7, vI x7), (8, vI x8), (9, vI x9), (10, vI x10), (11, vI x11), (13, vI x13), (14, vI x14), (15, vI x15)]) (st' := [vI x7, vI x10, vR 40]) rfl ?_
          refine r_icmp_ne J (tgt := 320) rfl (by decide) (fun c312 => ?_) (fun c312 => ?_)
          · refine r_run J 2 (pc' := 324) (lv' := [(12, vI ((x13 * x11) + x14)), (0, vR 40), (1, vI x1), (2, vI x2), (3, vI x3), (4, vI x4), (6, vI x6), (7, vI x7), (8, vI x8), (9, vI x9), (10, vI x10), (11, vI x11), (13, vI x13), (14, vI x14), (15, vI x15)]) (st' := [vI x13, vR 40]) rfl ?_
            refine r_sub [1, 2, 3, 4, 5, 6, 7, 8, 9, 10, 11, 0, 12] (lv' := [(0, vR 40), (1, vI x1), (2, vI x2), (3, vI x3), (4, vI x4), (6, vI x6), (7, vI x7), (8, vI x8), (9, vI x9), (10, vI x10), (11, vI x11), (12, vI ((x13 * x11) + x14)), (13, vI x13)]) rfl ?_
            exact p_X12_losses_324 J H98 H137 H147 H187 x1 x2 x3 x4 x6 x7 x8 x9 x10 x11 ((x13 * x11) + x14) x13 x13 σ M N hL
          · refine r_sub [1, 2, 3, 4, 5, 6, 7, 8, 9, 10, 11, 0, 12] (lv' := [(0, vR 40), (1, vI x1), (2, vI x2), (3, vI x3), (4, vI x4), (6, vI x6), (7, vI x7), (8, vI x8), (9, vI x9), (10, vI x10), (11, vI x11), (12, vI ((x13 * x11) + x14)), (13, vI x13)]) rfl ?_
            exact p_X12_losses_320 J H98 H137 H147 H187 x1 x2 x3 x4 x6 x7 x8 x9 x10 x11 ((x13 * x11) + x14) x13 σ M N hL
        · refine r_sub [1, 2, 3, 4, 5, 6, 7, 8, 9, 10, 11, 0, 12] (lv' := [(0, vR 40), (1, vI x1), (2, vI x2), (3, vI x3), (4, vI x4), (6, vI x6), (7, vI x7), (8, vI x8), (9, vI x9), (10, vI x10), (11, vI x11), (12, vI ((x13 * x11) + x14)), (13, vI x13)]) rfl ?_
          exact p_X12_losses_320 J H98 H137 H147 H187 x1 x2 x3 x4 x6 x7 x8 x9 x10 x11 ((x13 * x11) + x14) x13 σ M N hL
      · refine r_run J 1 (pc' := 327) (lv' := [(0, vR 40), (1, vI x1), (2, vI x2), (3, vI x3), (4, vI x4), (6, vI x6), (7, vI x7), (8, vI x8), (9, vI x9), (10, vI x10), (11, vI x11), (12, vI x12), (13, vI x13), (14, vI x14), (15, vI x15)]) (st' := []) rfl ?_
        refine r_sub [0, 1, 2, 3, 4, 5, 6, 7, 8, 9, 10, 11, 12] (lv' := [(0, vR 40), (1, vI x1), (2, vI x2), (3, vI x3), (4, vI x4), (6, vI x6), (7, vI x7), (8, vI x8), (9, vI x9), (10, vI x10), (11, vI x11), (12, vI x12), (13, vI x13)]) rfl ?_
        exact p_X12_losses_327 J H98 H137 H147 H187 x1 x2 x3 x4 x6 x7 x8 x9 x10 x11 x12 x13 σ M N hL
    · refine r_run J 3 (pc' := 218) (lv' := [(0, vR 40), (1, vI x1), (2, vI x2), (3, vI x3), (4, vI x4), (6, vI x6), (7, vI x7), (8, vI x8), (9, vI x9), (10, vI x10), (11, vI x11), (12, vI x12), (13, vI x13), (14, vI x14), (15, vI x15)]) (st' := [vI 10, vI 0, vI x15]) rfl ?_
      refine r_callS J (As := [vI x15, vI 0, vI 10]) (st := []) (fun r hr => c_X12_in x15 0 10 σ M N hL r hr) wm_12_160 wy_X12_in wd_X12_in ⟨by decide, by decide, by decide, by decide, Nat.le_of_ble_eq_true rfl⟩ rfl rfl (fun q218 hq218 => ?_)
      show g_H E 0 0 221 [(0, vR 40), (1, vI x1), (2, vI x2), (3, vI x3), (4, vI x4), (6, vI x6), (7, vI x7), (8, vI x8), (9, vI x9), (10, vI x10), (11, vI x11), (12, vI x12), (13, vI x13), (14, vI x14), (15, vI x15)] [vI q218] (σ, M, N) _ _
      refine r_if_eq J (tgt := 264) rfl (by decide) (fun c221 => ?_) (fun c221 => ?_)
      · exact p_X12_losses_264 J H98 H137 H147 H187 ih x1 x2 x3 x4 x6 x7 x8 x9 x10 x11 x12 x13 x14 x15 σ M N hL
      · refine r_run J 1 (pc' := 225) (lv' := [(0, vR 40), (1, vI x1), (2, vI x2), (3, vI x3), (4, vI x4), (6, vI x6), (7, vI x7), (8, vI x8), (9, vI x9), (10, vI x10), (11, vI x11), (12, vI x12), (13, vI x13), (14, vI x14), (15, vI x15)]) (st' := [vR 40]) rfl ?_
        refine r_getR J cls12 rfl (k := 61) (t := 14) (by decide) wf_12_127 rfl rfl (ly_40 hL) (lr_40_61 hL) (fun _ => ?_)
        show g_H E 0 0 228 [(0, vR 40), (1, vI x1), (2, vI x2), (3, vI x3), (4, vI x4), (6, vI x6), (7, vI x7), (8, vI x8), (9, vI x9), (10, vI x10), (11, vI x11), (12, vI x12), (13, vI x13), (14, vI x14), (15, vI x15)] [vR 76] (σ, M, N) _ _
        refine r_run J 7 (pc' := 239) (lv' := [(0, vR 40), (1, vI x1), (2, vI x2), (3, vI x3), (4, vI x4), (6, vI x6), (7, vI x7), (8, vI x8), (9, vI x9), (10, vI x10), (11, vI x11), (12, vI x12), (13, vI x13), (14, vI x14), (15, vI x15)]) (st' := [vI (((11 : Int32) * (x9 - x13)) + x15), vR 76]) rfl ?_
        refine r_iald J rfl (ly_76 hL) (fun i239 => ?_)
        show g_H E 0 0 240 [(0, vR 40), (1, vI x1), (2, vI x2), (3, vI x3), (4, vI x4), (6, vI x6), (7, vI x7), (8, vI x8), (9, vI x9), (10, vI x10), (11, vI x11), (12, vI x12), (13, vI x13), (14, vI x14), (15, vI x15)] [vI (M 76 (((11 : Int32) * (x9 - x13)) + x15).toNatClampNeg)] (σ, M, N) _ _
        refine r_run J 1 (pc' := 242) (lv' := [(0, vR 40), (1, vI x1), (2, vI x2), (3, vI x3), (4, vI x4), (6, vI x6), (7, vI x7), (8, vI x8), (9, vI x9), (10, vI x10), (11, vI x11), (12, vI x12), (13, vI x13), (14, vI x14), (15, vI x15)]) (st' := [vI x14, vI (M 76 (((11 : Int32) * (x9 - x13)) + x15).toNatClampNeg)]) rfl ?_
        refine r_icmp_le J (tgt := 264) rfl (by decide) (fun c242 => ?_) (fun c242 => ?_)
        · refine r_run J 1 (pc' := 246) (lv' := [(0, vR 40), (1, vI x1), (2, vI x2), (3, vI x3), (4, vI x4), (6, vI x6), (7, vI x7), (8, vI x8), (9, vI x9), (10, vI x10), (11, vI x11), (12, vI x12), (13, vI x13), (14, vI x14), (15, vI x15)]) (st' := [vR 40]) rfl ?_
          refine r_getR J cls12 rfl (k := 61) (t := 14) (by decide) wf_12_127 rfl rfl (ly_40 hL) (lr_40_61 hL) (fun _ => ?_)
          show g_H E 0 0 249 [(0, vR 40), (1, vI x1), (2, vI x2), (3, vI x3), (4, vI x4), (6, vI x6), (7, vI x7), (8, vI x8), (9, vI x9), (10, vI x10), (11, vI x11), (12, vI x12), (13, vI x13), (14, vI x14), (15, vI x15)] [vR 76] (σ, M, N) _ _
          refine r_run J 7 (pc' := 260) (lv' := [(0, vR 40), (1, vI x1), (2, vI x2), (3, vI x3), (4, vI x4), (6, vI x6), (7, vI x7), (8, vI x8), (9, vI x9), (10, vI x10), (11, vI x11), (12, vI x12), (13, vI x13), (14, vI x14), (15, vI x15)]) (st' := [vI (((11 : Int32) * (x9 - x13)) + x15), vR 76]) rfl ?_
          refine r_iald J rfl (ly_76 hL) (fun i260 => ?_)
          show g_H E 0 0 261 [(0, vR 40), (1, vI x1), (2, vI x2), (3, vI x3), (4, vI x4), (6, vI x6), (7, vI x7), (8, vI x8), (9, vI x9), (10, vI x10), (11, vI x11), (12, vI x12), (13, vI x13), (14, vI x14), (15, vI x15)] [vI (M 76 (((11 : Int32) * (x9 - x13)) + x15).toNatClampNeg)] (σ, M, N) _ _
          refine r_run J 1 (pc' := 266) (lv' := [(0, vR 40), (1, vI x1), (2, vI x2), (3, vI x3), (4, vI x4), (6, vI x6), (7, vI x7), (8, vI x8), (9, vI x9), (10, vI x10), (11, vI x11), (12, vI x12), (13, vI x13), (14, vI x14), (15, vI x15)]) (st' := [vI (M 76 (((11 : Int32) * (x9 - x13)) + x15).toNatClampNeg)]) rfl ?_
          refine r_sub [0, 1, 2, 3, 4, 5, 6, 7, 8, 9, 10, 11, 12, 14] (lv' := [(0, vR 40), (1, vI x1), (2, vI x2), (3, vI x3), (4, vI x4), (6, vI x6), (7, vI x7), (8, vI x8), (9, vI x9), (10, vI x10), (11, vI x11), (12, vI x12), (13, vI x13), (15, vI x15)]) rfl ?_
          exact p_X12_losses_266 J H98 H137 H147 H187 ih x1 x2 x3 x4 x6 x7 x8 x9 x10 x11 x12 x13 x15 (M 76 (((11 : Int32) * (x9 - x13)) + x15).toNatClampNeg) σ M N hL
        · exact p_X12_losses_264 J H98 H137 H147 H187 ih x1 x2 x3 x4 x6 x7 x8 x9 x10 x11 x12 x13 x14 x15 σ M N hL
set_option maxHeartbeats 4000000 in
set_option maxRecDepth 100000 in
theorem p_X12_losses_187 {l : Launch} {E : gE} (J : J_X12_losses E l) {k98 : Int32 → Int32 → Int32 → Int32 → Int32 → Int32 → Int32 → gS → gM → gN → Option (gM × gN)} (H98 : ∀ (x1 : Int32) (x2 : Int32) (x3 : Int32) (x4 : Int32) (x6 : Int32) (x7 : Int32) (x8 : Int32) (σ : gS) (M : gM) (N : gN) (_ : g_layM σ), g_H E 0 0 98 [(0, vR 40), (1, vI x1), (2, vI x2), (3, vI x3), (4, vI x4), (6, vI x6), (7, vI x7), (8, vI x8)] [] (σ, M, N) (k98 x1 x2 x3 x4 x6 x7 x8 σ M N) (eVMN σ)) {k137 : Int32 → Int32 → Int32 → Int32 → Int32 → Int32 → Int32 → Int32 → gS → gM → gN → Option (gM × gN)} (H137 : ∀ (x1 : Int32) (x2 : Int32) (x3 : Int32) (x4 : Int32) (x6 : Int32) (x7 : Int32) (x8 : Int32) (x9 : Int32) (σ : gS) (M : gM) (N : gN) (_ : g_layM σ), g_H E 0 0 137 [(0, vR 40), (1, vI x1), (2, vI x2), (3, vI x3), (4, vI x4), (6, vI x6), (7, vI x7), (8, vI x8), (9, vI x9)] [] (σ, M, N) (k137 x1 x2 x3 x4 x6 x7 x8 x9 σ M N) (eVMN σ)) {k147 : Int32 → Int32 → Int32 → Int32 → Int32 → Int32 → Int32 → Int32 → Int32 → gS → gM → gN → Option (gM × gN)} (H147 : ∀ (x1 : Int32) (x2 : Int32) (x3 : Int32) (x4 : Int32) (x6 : Int32) (x7 : Int32) (x8 : Int32) (x9 : Int32) (x10 : Int32) (σ : gS) (M : gM) (N : gN) (_ : g_layM σ), g_H E 0 0 147 [(0, vR 40), (1, vI x1), (2, vI x2), (3, vI x3), (4, vI x4), (6, vI x6), (7, vI x7), (8, vI x8), (9, vI x9), (10, vI x10)] [] (σ, M, N) (k147 x1 x2 x3 x4 x6 x7 x8 x9 x10 σ M N) (eVMN σ)) : ∀ (n : Nat) (x1 : Int32) (x2 : Int32) (x3 : Int32) (x4 : Int32) (x6 : Int32) (x7 : Int32) (x8 : Int32) (x9 : Int32) (x10 : Int32) (x11 : Int32) (x12 : Int32) (x13 : Int32) (σ : gS) (M : gM) (N : gN) (hL : g_layM σ), g_H E 0 0 187 [(0, vR 40), (1, vI x1), (2, vI x2), (3, vI x3), (4, vI x4), (6, vI x6), (7, vI x7), (8, vI x8), (9, vI x9), (10, vI x10), (11, vI x11), (12, vI x12), (13, vI x13)] [] (σ, M, N) (l_X12_losses_187 k98 k137 k147 n x1 x2 x3 x4 x6 x7 x8 x9 x10 x11 x12 x13 σ M N) (eVMN σ) := by
  intro n
  induction n with
  | zero => intros; exact h_none
  | succ n ih =>
    intro x1 x2 x3 x4 x6 x7 x8 x9 x10 x11 x12 x13 σ M N hL
    rw [l_X12_losses_187]
    refine r_run J 2 (pc' := 191) (lv' := [(0, vR 40), (1, vI x1), (2, vI x2), (3, vI x3), (4, vI x4), (6, vI x6), (7, vI x7), (8, vI x8), (9, vI x9), (10, vI x10), (11, vI x11), (12, vI x12), (13, vI x13)]) (st' := [vI x9, vI x13]) rfl ?_
    refine r_icmp_gt J (tgt := 333) rfl (by decide) (fun c191 => ?_) (fun c191 => ?_)
    · refine r_run J 1 (pc' := 334) (lv' := [(0, vR 40), (1, vI x1), (2, vI x2), (3, vI x3), (4, vI x4), (6, vI x6), (7, vI x7), (8, vI x8), (9, vI x9), (10, vI x10), (11, vI x11), (12, vI x12), (13, vI x13)]) (st' := [vR 40]) rfl ?_
      refine r_getR J cls12 rfl (k := 60) (t := 14) (by decide) wf_12_124 rfl rfl (ly_40 hL) (lr_40_60 hL) (fun _ => ?_)
      show g_H E 0 0 337 [(0, vR 40), (1, vI x1), (2, vI x2), (3, vI x3), (4, vI x4), (6, vI x6), (7, vI x7), (8, vI x8), (9, vI x9), (10, vI x10), (11, vI x11), (12, vI x12), (13, vI x13)] [vR 75] (σ, M, N) _ _
      refine r_run J 6 (pc' := 347) (lv' := [(0, vR 40), (1, vI x1), (2, vI x2), (3, vI x3), (4, vI x4), (6, vI x6), (7, vI x7), (8, vI x8), (9, vI x9), (10, vI x10), (11, vI x11), (12, vI x12), (13, vI x13)]) (st' := [vI x12, vI (((11 : Int32) * x9) + x10), vR 75]) rfl ?_
      refine r_iast J rfl (ly_75 hL) (fun i347 => ?_)
      show g_H E 0 0 348 [(0, vR 40), (1, vI x1), (2, vI x2), (3, vI x3), (4, vI x4), (6, vI x6), (7, vI x7), (8, vI x8), (9, vI x9), (10, vI x10), (11, vI x11), (12, vI x12), (13, vI x13)] [] (σ, (g_up M 75 ((((11 : Int32) * x9) + x10).toNatClampNeg) x12), N) _ _
      refine r_run J 2 (pc' := 147) (lv' := [(10, vI (x10 + 1)), (0, vR 40), (1, vI x1), (2, vI x2), (3, vI x3), (4, vI x4), (6, vI x6), (7, vI x7), (8, vI x8), (9, vI x9), (11, vI x11), (12, vI x12), (13, vI x13)]) (st' := []) rfl ?_
      refine r_sub [1, 2, 3, 4, 5, 6, 7, 8, 9, 0] (lv' := [(0, vR 40), (1, vI x1), (2, vI x2), (3, vI x3), (4, vI x4), (6, vI x6), (7, vI x7), (8, vI x8), (9, vI x9), (10, vI (x10 + 1))]) rfl ?_
      exact H147 x1 x2 x3 x4 x6 x7 x8 x9 (x10 + 1) σ (g_up M 75 ((((11 : Int32) * x9) + x10).toNatClampNeg) x12) N hL
    · refine r_run J 6 (pc' := 204) (lv' := [(15, vI (x10 - x4)), (14, vI 0), (0, vR 40), (1, vI x1), (2, vI x2), (3, vI x3), (4, vI x4), (6, vI x6), (7, vI x7), (8, vI x8), (9, vI x9), (10, vI x10), (11, vI x11), (12, vI x12), (13, vI x13)]) (st' := []) rfl ?_
      refine r_sub [2, 3, 4, 5, 6, 7, 8, 9, 10, 11, 12, 13, 14, 1, 0] (lv' := [(0, vR 40), (1, vI x1), (2, vI x2), (3, vI x3), (4, vI x4), (6, vI x6), (7, vI x7), (8, vI x8), (9, vI x9), (10, vI x10), (11, vI x11), (12, vI x12), (13, vI x13), (14, vI 0), (15, vI (x10 - x4))]) rfl ?_
      exact p_X12_losses_204 J H98 H137 H147 ih g_FU x1 x2 x3 x4 x6 x7 x8 x9 x10 x11 x12 x13 0 (x10 - x4) σ M N hL
set_option maxHeartbeats 4000000 in
set_option maxRecDepth 100000 in
theorem p_X12_losses_172 {l : Launch} {E : gE} (J : J_X12_losses E l) {k98 : Int32 → Int32 → Int32 → Int32 → Int32 → Int32 → Int32 → gS → gM → gN → Option (gM × gN)} (H98 : ∀ (x1 : Int32) (x2 : Int32) (x3 : Int32) (x4 : Int32) (x6 : Int32) (x7 : Int32) (x8 : Int32) (σ : gS) (M : gM) (N : gN) (_ : g_layM σ), g_H E 0 0 98 [(0, vR 40), (1, vI x1), (2, vI x2), (3, vI x3), (4, vI x4), (6, vI x6), (7, vI x7), (8, vI x8)] [] (σ, M, N) (k98 x1 x2 x3 x4 x6 x7 x8 σ M N) (eVMN σ)) {k137 : Int32 → Int32 → Int32 → Int32 → Int32 → Int32 → Int32 → Int32 → gS → gM → gN → Option (gM × gN)} (H137 : ∀ (x1 : Int32) (x2 : Int32) (x3 : Int32) (x4 : Int32) (x6 : Int32) (x7 : Int32) (x8 : Int32) (x9 : Int32) (σ : gS) (M : gM) (N : gN) (_ : g_layM σ), g_H E 0 0 137 [(0, vR 40), (1, vI x1), (2, vI x2), (3, vI x3), (4, vI x4), (6, vI x6), (7, vI x7), (8, vI x8), (9, vI x9)] [] (σ, M, N) (k137 x1 x2 x3 x4 x6 x7 x8 x9 σ M N) (eVMN σ)) {k147 : Int32 → Int32 → Int32 → Int32 → Int32 → Int32 → Int32 → Int32 → Int32 → gS → gM → gN → Option (gM × gN)} (H147 : ∀ (x1 : Int32) (x2 : Int32) (x3 : Int32) (x4 : Int32) (x6 : Int32) (x7 : Int32) (x8 : Int32) (x9 : Int32) (x10 : Int32) (σ : gS) (M : gM) (N : gN) (_ : g_layM σ), g_H E 0 0 147 [(0, vR 40), (1, vI x1), (2, vI x2), (3, vI x3), (4, vI x4), (6, vI x6), (7, vI x7), (8, vI x8), (9, vI x9), (10, vI x10)] [] (σ, M, N) (k147 x1 x2 x3 x4 x6 x7 x8 x9 x10 σ M N) (eVMN σ)) (x1 : Int32) (x2 : Int32) (x3 : Int32) (x4 : Int32) (x6 : Int32) (x7 : Int32) (x8 : Int32) (x9 : Int32) (x10 : Int32) (σ : gS) (M : gM) (N : gN) (hL : g_layM σ) : g_H E 0 0 172 [(0, vR 40), (1, vI x1), (2, vI x2), (3, vI x3), (4, vI x4), (6, vI x6), (7, vI x7), (8, vI x8), (9, vI x9), (10, vI x10)] [] (σ, M, N) (b_X12_losses_172 k98 k137 k147 x1 x2 x3 x4 x6 x7 x8 x9 x10 σ M N) (eVMN σ) := by
  unfold b_X12_losses_172
  refine r_run J 3 (pc' := 175) (lv' := [(0, vR 40), (1, vI x1), (2, vI x2), (3, vI x3), (4, vI x4), (6, vI x6), (7, vI x7), (8, vI x8), (9, vI x9), (10, vI x10)]) (st' := [vI 0, vI x1, vR 40]) rfl ?_
  refine r_callV J (As := [vI x1, vI 0]) (st := []) (fun r hr => c_X12_told x1 0 σ M N hL r hr) cls12 (ly_40 hL) wm_12_384 wy_X12_told wd_X12_told ⟨by decide, by decide, by decide, by decide, Nat.le_of_ble_eq_true rfl⟩ rfl rfl (fun q175 hq175 => ?_)
  show g_H E 0 0 178 [(0, vR 40), (1, vI x1), (2, vI x2), (3, vI x3), (4, vI x4), (6, vI x6), (7, vI x7), (8, vI x8), (9, vI x9), (10, vI x10)] [vI q175.1] (σ, q175.2.1, q175.2.2) _ _
  refine r_run J 1 (pc' := 180) (lv' := [(11, vI q175.1), (0, vR 40), (1, vI x1), (2, vI x2), (3, vI x3), (4, vI x4), (6, vI x6), (7, vI x7), (8, vI x8), (9, vI x9), (10, vI x10)]) (st' := []) rfl ?_
  refine r_ldc J rfl wc_12_231 ?_
  refine r_run J 3 (pc' := 187) (lv' := [(13, vI 0), (12, vI 1073741824), (11, vI q175.1), (0, vR 40), (1, vI x1), (2, vI x2), (3, vI x3), (4, vI x4), (6, vI x6), (7, vI x7), (8, vI x8), (9, vI x9), (10, vI x10)]) (st' := []) rfl ?_
  refine r_sub [3, 4, 5, 6, 7, 8, 9, 10, 11, 12, 2, 1, 0] (lv' := [(0, vR 40), (1, vI x1), (2, vI x2), (3, vI x3), (4, vI x4), (6, vI x6), (7, vI x7), (8, vI x8), (9, vI x9), (10, vI x10), (11, vI q175.1), (12, vI 1073741824), (13, vI 0)]) rfl ?_
  exact p_X12_losses_187 J H98 H137 H147 g_FU x1 x2 x3 x4 x6 x7 x8 x9 x10 q175.1 1073741824 0 σ q175.2.1 q175.2.2 hL
set_option maxHeartbeats 4000000 in
set_option maxRecDepth 100000 in
theorem p_X12_losses_147 {l : Launch} {E : gE} (J : J_X12_losses E l) {k98 : Int32 → Int32 → Int32 → Int32 → Int32 → Int32 → Int32 → gS → gM → gN → Option (gM × gN)} (H98 : ∀ (x1 : Int32) (x2 : Int32) (x3 : Int32) (x4 : Int32) (x6 : Int32) (x7 : Int32) (x8 : Int32) (σ : gS) (M : gM) (N : gN) (_ : g_layM σ), g_H E 0 0 98 [(0, vR 40), (1, vI x1), (2, vI x2), (3, vI x3), (4, vI x4), (6, vI x6), (7, vI x7), (8, vI x8)] [] (σ, M, N) (k98 x1 x2 x3 x4 x6 x7 x8 σ M N) (eVMN σ)) {k137 : Int32 → Int32 → Int32 → Int32 → Int32 → Int32 → Int32 → Int32 → gS → gM → gN → Option (gM × gN)} (H137 : ∀ (x1 : Int32) (x2 : Int32) (x3 : Int32) (x4 : Int32) (x6 : Int32) (x7 : Int32) (x8 : Int32) (x9 : Int32) (σ : gS) (M : gM) (N : gN) (_ : g_layM σ), g_H E 0 0 137 [(0, vR 40), (1, vI x1), (2, vI x2), (3, vI x3), (4, vI x4), (6, vI x6), (7, vI x7), (8, vI x8), (9, vI x9)] [] (σ, M, N) (k137 x1 x2 x3 x4 x6 x7 x8 x9 σ M N) (eVMN σ)) : ∀ (n : Nat) (x1 : Int32) (x2 : Int32) (x3 : Int32) (x4 : Int32) (x6 : Int32) (x7 : Int32) (x8 : Int32) (x9 : Int32) (x10 : Int32) (σ : gS) (M : gM) (N : gN) (hL : g_layM σ), g_H E 0 0 147 [(0, vR 40), (1, vI x1), (2, vI x2), (3, vI x3), (4, vI x4), (6, vI x6), (7, vI x7), (8, vI x8), (9, vI x9), (10, vI x10)] [] (σ, M, N) (l_X12_losses_147 k98 k137 n x1 x2 x3 x4 x6 x7 x8 x9 x10 σ M N) (eVMN σ) := by
  intro n
  induction n with
  | zero => intros; exact h_none
  | succ n ih =>
    intro x1 x2 x3 x4 x6 x7 x8 x9 x10 σ M N hL
    rw [l_X12_losses_147]
    refine r_run J 2 (pc' := 151) (lv' := [(0, vR 40), (1, vI x1), (2, vI x2), (3, vI x3), (4, vI x4), (6, vI x6), (7, vI x7), (8, vI x8), (9, vI x9), (10, vI x10)]) (st' := [vI 10, vI x10]) rfl ?_
    refine r_icmp_gt J (tgt := 354) rfl (by decide) (fun c151 => ?_) (fun c151 => ?_)
    · refine r_run J 2 (pc' := 137) (lv' := [(9, vI (x9 + 1)), (0, vR 40), (1, vI x1), (2, vI x2), (3, vI x3), (4, vI x4), (6, vI x6), (7, vI x7), (8, vI x8), (10, vI x10)]) (st' := []) rfl ?_
      refine r_sub [1, 2, 3, 4, 5, 6, 7, 8, 0] (lv' := [(0, vR 40), (1, vI x1), (2, vI x2), (3, vI x3), (4, vI x4), (6, vI x6), (7, vI x7), (8, vI x8), (9, vI (x9 + 1))]) rfl ?_
      exact H137 x1 x2 x3 x4 x6 x7 x8 (x9 + 1) σ M N hL
    · refine r_run J 2 (pc' := 157) (lv' := [(0, vR 40), (1, vI x1), (2, vI x2), (3, vI x3), (4, vI x4), (6, vI x6), (7, vI x7), (8, vI x8), (9, vI x9), (10, vI x10)]) (st' := [vI x8, vR 40]) rfl ?_
      refine r_putI J cls12 rfl (k := 54) (by decide) wf_12_322 rfl (Or.inl rfl) ⟨rfl, rfl⟩ (ly_40 hL) ?_
      show g_H E 0 0 160 [(0, vR 40), (1, vI x1), (2, vI x2), (3, vI x3), (4, vI x4), (6, vI x6), (7, vI x7), (8, vI x8), (9, vI x9), (10, vI x10)] [] (σ, (g_up M 40 54 x8), N) _ _
      refine r_run J 2 (pc' := 163) (lv' := [(0, vR 40), (1, vI x1), (2, vI x2), (3, vI x3), (4, vI x4), (6, vI x6), (7, vI x7), (8, vI x8), (9, vI x9), (10, vI x10)]) (st' := [vI x9, vR 40]) rfl ?_
      refine r_putI J cls12 rfl (k := 55) (by decide) wf_12_327 rfl (Or.inl rfl) ⟨rfl, rfl⟩ (ly_40 hL) ?_
      show g_H E 0 0 166 [(0, vR 40), (1, vI x1), (2, vI x2), (3, vI x3), (4, vI x4), (6, vI x6), (7, vI x7), (8, vI x8), (9, vI x9), (10, vI x10)] [] (σ, (g_up (g_up M 40 54 x8) 40 55 x9), N) _ _
      refine r_run J 2 (pc' := 169) (lv' := [(0, vR 40), (1, vI x1), (2, vI x2), (3, vI x3), (4, vI x4), (6, vI x6), (7, vI x7), (8, vI x8), (9, vI x9), (10, vI x10)]) (st' := [vI x10, vR 40]) rfl ?_
      refine r_putI J cls12 rfl (k := 56) (by decide) wf_12_332 rfl (Or.inl rfl) ⟨rfl, rfl⟩ (ly_40 hL) ?_
      show g_H E 0 0 172 [(0, vR 40), (1, vI x1), (2, vI x2), (3, vI x3), (4, vI x4), (6, vI x6), (7, vI x7), (8, vI x8), (9, vI x9), (10, vI x10)] [] (σ, (g_up (g_up (g_up M 40 54 x8) 40 55 x9) 40 56 x10), N) _ _
      exact p_X12_losses_172 J H98 H137 ih x1 x2 x3 x4 x6 x7 x8 x9 x10 σ (g_up (g_up (g_up M 40 54 x8) 40 55 x9) 40 56 x10) N hL
set_option maxHeartbeats 4000000 in
set_option maxRecDepth 100000 in
theorem p_X12_losses_137 {l : Launch} {E : gE} (J : J_X12_losses E l) {k98 : Int32 → Int32 → Int32 → Int32 → Int32 → Int32 → Int32 → gS → gM → gN → Option (gM × gN)} (H98 : ∀ (x1 : Int32) (x2 : Int32) (x3 : Int32) (x4 : Int32) (x6 : Int32) (x7 : Int32) (x8 : Int32) (σ : gS) (M : gM) (N : gN) (_ : g_layM σ), g_H E 0 0 98 [(0, vR 40), (1, vI x1), (2, vI x2), (3, vI x3), (4, vI x4), (6, vI x6), (7, vI x7), (8, vI x8)] [] (σ, M, N) (k98 x1 x2 x3 x4 x6 x7 x8 σ M N) (eVMN σ)) : ∀ (n : Nat) (x1 : Int32) (x2 : Int32) (x3 : Int32) (x4 : Int32) (x6 : Int32) (x7 : Int32) (x8 : Int32) (x9 : Int32) (σ : gS) (M : gM) (N : gN) (hL : g_layM σ), g_H E 0 0 137 [(0, vR 40), (1, vI x1), (2, vI x2), (3, vI x3), (4, vI x4), (6, vI x6), (7, vI x7), (8, vI x8), (9, vI x9)] [] (σ, M, N) (l_X12_losses_137 k98 n x1 x2 x3 x4 x6 x7 x8 x9 σ M N) (eVMN σ) := by
  intro n
  induction n with
  | zero => intros; exact h_none
  | succ n ih =>
    intro x1 x2 x3 x4 x6 x7 x8 x9 σ M N hL
    rw [l_X12_losses_137]
    refine r_run J 2 (pc' := 141) (lv' := [(0, vR 40), (1, vI x1), (2, vI x2), (3, vI x3), (4, vI x4), (6, vI x6), (7, vI x7), (8, vI x8), (9, vI x9)]) (st' := [vI 10, vI x9]) rfl ?_
    refine r_icmp_gt J (tgt := 360) rfl (by decide) (fun c141 => ?_) (fun c141 => ?_)
    · refine r_run J 2 (pc' := 98) (lv' := [(8, vI (x8 + 1)), (0, vR 40), (1, vI x1), (2, vI x2), (3, vI x3), (4, vI x4), (6, vI x6), (7, vI x7), (9, vI x9)]) (st' := []) rfl ?_
      refine r_sub [1, 2, 3, 4, 5, 6, 7, 0] (lv' := [(0, vR 40), (1, vI x1), (2, vI x2), (3, vI x3), (4, vI x4), (6, vI x6), (7, vI x7), (8, vI (x8 + 1))]) rfl ?_
      exact H98 x1 x2 x3 x4 x6 x7 (x8 + 1) σ M N hL
    · refine r_run J 2 (pc' := 147) (lv' := [(10, vI 0), (0, vR 40), (1, vI x1), (2, vI x2), (3, vI x3), (4, vI x4), (6, vI x6), (7, vI x7), (8, vI x8), (9, vI x9)]) (st' := []) rfl ?_
      refine r_sub [1, 2, 3, 4, 5, 6, 7, 8, 9, 0] (lv' := [(0, vR 40), (1, vI x1), (2, vI x2), (3, vI x3), (4, vI x4), (6, vI x6), (7, vI x7), (8, vI x8), (9, vI x9), (10, vI 0)]) rfl ?_
      exact p_X12_losses_147 J H98 ih g_FU x1 x2 x3 x4 x6 x7 x8 x9 0 σ M N hL
set_option maxHeartbeats 4000000 in
set_option maxRecDepth 100000 in
theorem p_X12_losses_107 {l : Launch} {E : gE} (J : J_X12_losses E l) {k98 : Int32 → Int32 → Int32 → Int32 → Int32 → Int32 → Int32 → gS → gM → gN → Option (gM × gN)} (H98 : ∀ (x1 : Int32) (x2 : Int32) (x3 : Int32) (x4 : Int32) (x6 : Int32) (x7 : Int32) (x8 : Int32) (σ : gS) (M : gM) (N : gN) (_ : g_layM σ), g_H E 0 0 98 [(0, vR 40), (1, vI x1), (2, vI x2), (3, vI x3), (4, vI x4), (6, vI x6), (7, vI x7), (8, vI x8)] [] (σ, M, N) (k98 x1 x2 x3 x4 x6 x7 x8 σ M N) (eVMN σ)) : ∀ (n : Nat) (x1 : Int32) (x2 : Int32) (x3 : Int32) (x4 : Int32) (x6 : Int32) (x7 : Int32) (x8 : Int32) (x9 : Int32) (σ : gS) (M : gM) (N : gN) (hL : g_layM σ), g_H E 0 0 107 [(0, vR 40), (1, vI x1), (2, vI x2), (3, vI x3), (4, vI x4), (6, vI x6), (7, vI x7), (8, vI x8), (9, vI x9)] [] (σ, M, N) (l_X12_losses_107 k98 n x1 x2 x3 x4 x6 x7 x8 x9 σ M N) (eVMN σ) := by
  intro n
  induction n with
  | zero => intros; exact h_none
  | succ n ih =>
    intro x1 x2 x3 x4 x6 x7 x8 x9 σ M N hL
    rw [l_X12_losses_107]
    refine r_run J 2 (pc' := 111) (lv' := [(0, vR 40), (1, vI x1), (2, vI x2), (3, vI x3), (4, vI x4), (6, vI x6), (7, vI x7), (8, vI x8), (9, vI x9)]) (st' := [vI 121, vI x9]) rfl ?_
    refine r_icmp_ge J (tgt := 134) rfl (by decide) (fun c111 => ?_) (fun c111 => ?_)
    · refine r_run J 1 (pc' := 115) (lv' := [(0, vR 40), (1, vI x1), (2, vI x2), (3, vI x3), (4, vI x4), (6, vI x6), (7, vI x7), (8, vI x8), (9, vI x9)]) (st' := [vR 40]) rfl ?_
      refine r_getR J cls12 rfl (k := 61) (t := 14) (by decide) wf_12_127 rfl rfl (ly_40 hL) (lr_40_61 hL) (fun _ => ?_)
      show g_H E 0 0 118 [(0, vR 40), (1, vI x1), (2, vI x2), (3, vI x3), (4, vI x4), (6, vI x6), (7, vI x7), (8, vI x8), (9, vI x9)] [vR 76] (σ, M, N) _ _
      refine r_run J 2 (pc' := 121) (lv' := [(0, vR 40), (1, vI x1), (2, vI x2), (3, vI x3), (4, vI x4), (6, vI x6), (7, vI x7), (8, vI x8), (9, vI x9)]) (st' := [vR 40, vI x9, vR 76]) rfl ?_
      refine r_getR J cls12 rfl (k := 60) (t := 14) (by decide) wf_12_124 rfl rfl (ly_40 hL) (lr_40_60 hL) (fun _ => ?_)
      show g_H E 0 0 124 [(0, vR 40), (1, vI x1), (2, vI x2), (3, vI x3), (4, vI x4), (6, vI x6), (7, vI x7), (8, vI x8), (9, vI x9)] [vR 75, vI x9, vR 76] (σ, M, N) _ _
      refine r_run J 1 (pc' := 126) (lv' := [(0, vR 40), (1, vI x1), (2, vI x2), (3, vI x3), (4, vI x4), (6, vI x6), (7, vI x7), (8, vI x8), (9, vI x9)]) (st' := [vI x9, vR 75, vI x9, vR 76]) rfl ?_
      refine r_iald J rfl (ly_75 hL) (fun i126 => ?_)
      show g_H E 0 0 127 [(0, vR 40), (1, vI x1), (2, vI x2), (3, vI x3), (4, vI x4), (6, vI x6), (7, vI x7), (8, vI x8), (9, vI x9)] [vI (M 75 x9.toNatClampNeg), vI x9, vR 76] (σ, M, N) _ _
      refine r_iast J rfl (ly_76 hL) (fun i127 => ?_)
      show g_H E 0 0 128 [(0, vR 40), (1, vI x1), (2, vI x2), (3, vI x3), (4, vI x4), (6, vI x6), (7, vI x7), (8, vI x8), (9, vI x9)] [] (σ, (g_up M 76 (x9.toNatClampNeg) (M 75 x9.toNatClampNeg)), N) _ _
      refine r_run J 2 (pc' := 107) (lv' := [(9, vI (x9 + 1)), (0, vR 40), (1, vI x1), (2, vI x2), (3, vI x3), (4, vI x4), (6, vI x6), (7, vI x7), (8, vI x8)]) (st' := []) rfl ?_
      refine r_sub [1, 2, 3, 4, 5, 6, 7, 8, 0] (lv' := [(0, vR 40), (1, vI x1), (2, vI x2), (3, vI x3), (4, vI x4), (6, vI x6), (7, vI x7), (8, vI x8), (9, vI (x9 + 1))]) rfl ?_
      exact ih x1 x2 x3 x4 x6 x7 x8 (x9 + 1) σ (g_up M 76 (x9.toNatClampNeg) (M 75 x9.toNatClampNeg)) N hL
    · refine r_run J 2 (pc' := 137) (lv' := [(9, vI 0), (0, vR 40), (1, vI x1), (2, vI x2), (3, vI x3), (4, vI x4), (6, vI x6), (7, vI x7), (8, vI x8)]) (st' := []) rfl ?_
      refine r_sub [1, 2, 3, 4, 5, 6, 7, 8, 0] (lv' := [(0, vR 40), (1, vI x1), (2, vI x2), (3, vI x3), (4, vI x4), (6, vI x6), (7, vI x7), (8, vI x8), (9, vI 0)]) rfl ?_
      exact p_X12_losses_137 J H98 g_FU x1 x2 x3 x4 x6 x7 x8 0 σ M N hL
set_option maxHeartbeats 4000000 in
set_option maxRecDepth 100000 in
theorem p_X12_losses_98 {l : Launch} {E : gE} (J : J_X12_losses E l) : ∀ (n : Nat) (x1 : Int32) (x2 : Int32) (x3 : Int32) (x4 : Int32) (x6 : Int32) (x7 : Int32) (x8 : Int32) (σ : gS) (M : gM) (N : gN) (hL : g_layM σ), g_H E 0 0 98 [(0, vR 40), (1, vI x1), (2, vI x2), (3, vI x3), (4, vI x4), (6, vI x6), (7, vI x7), (8, vI x8)] [] (σ, M, N) (l_X12_losses_98 n x1 x2 x3 x4 x6 x7 x8 σ M N) (eVMN σ) := by
  intro n
  induction n with
  | zero => intros; exact h_none
  | succ n ih =>
    intro x1 x2 x3 x4 x6 x7 x8 σ M N hL
    rw [l_X12_losses_98]
    refine r_run J 2 (pc' := 101) (lv' := [(0, vR 40), (1, vI x1), (2, vI x2), (3, vI x3), (4, vI x4), (6, vI x6), (7, vI x7), (8, vI x8)]) (st' := [vI x2, vI x8]) rfl ?_
    refine r_icmp_gt J (tgt := 366) rfl (by decide) (fun c101 => ?_) (fun c101 => ?_)
    · exact r_vret J rfl rfl rfl (by decide) (by decide)
    · refine r_run J 2 (pc' := 107) (lv' := [(9, vI 0), (0, vR 40), (1, vI x1), (2, vI x2), (3, vI x3), (4, vI x4), (6, vI x6), (7, vI x7), (8, vI x8)]) (st' := []) rfl ?_
      refine r_sub [1, 2, 3, 4, 5, 6, 7, 8, 0] (lv' := [(0, vR 40), (1, vI x1), (2, vI x2), (3, vI x3), (4, vI x4), (6, vI x6), (7, vI x7), (8, vI x8), (9, vI 0)]) rfl ?_
      exact p_X12_losses_107 J ih g_FU x1 x2 x3 x4 x6 x7 x8 0 σ M N hL
set_option maxHeartbeats 4000000 in
set_option maxRecDepth 100000 in
theorem p_X12_losses_69 {l : Launch} {E : gE} (J : J_X12_losses E l) {k12 : Int32 → Int32 → Int32 → Int32 → Int32 → Int32 → gS → gM → gN → Option (gM × gN)} (H12 : ∀ (x1 : Int32) (x2 : Int32) (x3 : Int32) (x4 : Int32) (x5 : Int32) (x6 : Int32) (σ : gS) (M : gM) (N : gN) (_ : g_layM σ), g_H E 0 0 12 [(0, vR 40), (1, vI x1), (2, vI x2), (3, vI x3), (4, vI x4), (5, vI x5), (6, vI x6)] [] (σ, M, N) (k12 x1 x2 x3 x4 x5 x6 σ M N) (eVMN σ)) (x1 : Int32) (x2 : Int32) (x3 : Int32) (x4 : Int32) (x5 : Int32) (x6 : Int32) (sx0 : Int32) (sx1 : Int32) (σ : gS) (M : gM) (N : gN) (hL : g_layM σ) : g_H E 0 0 69 [(0, vR 40), (1, vI x1), (2, vI x2), (3, vI x3), (4, vI x4), (5, vI x5), (6, vI x6)] [vI sx0, vI sx1, vR 75] (σ, M, N) (b_X12_losses_69 k12 x1 x2 x3 x4 x5 x6 sx0 sx1 σ M N) (eVMN σ) := by
  unfold b_X12_losses_69
  refine r_iast J rfl (ly_75 hL) (fun i69 => ?_)
  show g_H E 0 0 70 [(0, vR 40), (1, vI x1), (2, vI x2), (3, vI x3), (4, vI x4), (5, vI x5), (6, vI x6)] [] (σ, (g_up M 75 (sx1.toNatClampNeg) sx0), N) _ _
  refine r_run J 2 (pc' := 12) (lv' := [(6, vI (x6 + 1)), (0, vR 40), (1, vI x1), (2, vI x2), (3, vI x3), (4, vI x4), (5, vI x5)]) (st' := []) rfl ?_
  refine r_sub [1, 2, 3, 4, 5, 6, 0] (lv' := [(0, vR 40), (1, vI x1), (2, vI x2), (3, vI x3), (4, vI x4), (5, vI x5), (6, vI (x6 + 1))]) rfl ?_
  exact H12 x1 x2 x3 x4 x5 (x6 + 1) σ (g_up M 75 (sx1.toNatClampNeg) sx0) N hL
set_option maxHeartbeats 4000000 in
set_option maxRecDepth 100000 in
theorem p_X12_losses_12 {l : Launch} {E : gE} (J : J_X12_losses E l) : ∀ (n : Nat) (x1 : Int32) (x2 : Int32) (x3 : Int32) (x4 : Int32) (x5 : Int32) (x6 : Int32) (σ : gS) (M : gM) (N : gN) (hL : g_layM σ), g_H E 0 0 12 [(0, vR 40), (1, vI x1), (2, vI x2), (3, vI x3), (4, vI x4), (5, vI x5), (6, vI x6)] [] (σ, M, N) (l_X12_losses_12 n x1 x2 x3 x4 x5 x6 σ M N) (eVMN σ) := by
  intro n
  induction n with
  | zero => intros; exact h_none
  | succ n ih =>
    intro x1 x2 x3 x4 x5 x6 σ M N hL
    rw [l_X12_losses_12]
    refine r_run J 2 (pc' := 16) (lv' := [(0, vR 40), (1, vI x1), (2, vI x2), (3, vI x3), (4, vI x4), (5, vI x5), (6, vI x6)]) (st' := [vI 121, vI x6]) rfl ?_
    refine r_icmp_ge J (tgt := 76) rfl (by decide) (fun c16 => ?_) (fun c16 => ?_)
    · refine r_run J 1 (pc' := 20) (lv' := [(0, vR 40), (1, vI x1), (2, vI x2), (3, vI x3), (4, vI x4), (5, vI x5), (6, vI x6)]) (st' := [vR 40]) rfl ?_
      refine r_getR J cls12 rfl (k := 60) (t := 14) (by decide) wf_12_124 rfl rfl (ly_40 hL) (lr_40_60 hL) (fun _ => ?_)
      show g_H E 0 0 23 [(0, vR 40), (1, vI x1), (2, vI x2), (3, vI x3), (4, vI x4), (5, vI x5), (6, vI x6)] [vR 75] (σ, M, N) _ _
      refine r_run J 3 (pc' := 29) (lv' := [(0, vR 40), (1, vI x1), (2, vI x2), (3, vI x3), (4, vI x4), (5, vI x5), (6, vI x6)]) (st' := [vI 11, vI x6, vI x6, vR 75]) rfl ?_
      refine r_idiv J rfl (fun c29 => ?_)
      refine r_run J 2 (pc' := 34) (lv' := [(0, vR 40), (1, vI x1), (2, vI x2), (3, vI x3), (4, vI x4), (5, vI x5), (6, vI x6)]) (st' := [vI 11, vI x6, vI (x6 / (11 : Int32)), vI x6, vR 75]) rfl ?_
      refine r_irem J rfl (fun c34 => ?_)
      refine r_icmp_le J (tgt := 55) rfl (by decide) (fun c35 => ?_) (fun c35 => ?_)
      · refine r_run J 3 (pc' := 44) (lv' := [(0, vR 40), (1, vI x1), (2, vI x2), (3, vI x3), (4, vI x4), (5, vI x5), (6, vI x6)]) (st' := [vI 11, vI x6, vI 100, vI x6, vR 75]) rfl ?_
        refine r_idiv J rfl (fun c44 => ?_)
        refine r_run J 2 (pc' := 49) (lv' := [(0, vR 40), (1, vI x1), (2, vI x2), (3, vI x3), (4, vI x4), (5, vI x5), (6, vI x6)]) (st' := [vI 11, vI x6, vI (x6 / (11 : Int32)), vI 100, vI x6, vR 75]) rfl ?_
        refine r_irem J rfl (fun c49 => ?_)
        refine r_run J 3 (pc' := 69) (lv' := [(0, vR 40), (1, vI x1), (2, vI x2), (3, vI x3), (4, vI x4), (5, vI x5), (6, vI x6)]) (st' := [vI ((100 : Int32) * ((x6 / (11 : Int32)) - (x6 - x6 / (11 : Int32) * (11 : Int32)))), vI x6, vR 75]) rfl ?_
        exact p_X12_losses_69 J ih x1 x2 x3 x4 x5 x6 ((100 : Int32) * ((x6 / (11 : Int32)) - (x6 - x6 / (11 : Int32) * (11 : Int32)))) x6 σ M N hL
      · refine r_run J 3 (pc' := 61) (lv' := [(0, vR 40), (1, vI x1), (2, vI x2), (3, vI x3), (4, vI x4), (5, vI x5), (6, vI x6)]) (st' := [vI 11, vI x6, vI x5, vI x6, vR 75]) rfl ?_
        refine r_irem J rfl (fun c61 => ?_)
        refine r_run J 2 (pc' := 66) (lv' := [(0, vR 40), (1, vI x1), (2, vI x2), (3, vI x3), (4, vI x4), (5, vI x5), (6, vI x6)]) (st' := [vI 11, vI x6, vI (x6 - x6 / (11 : Int32) * (11 : Int32)), vI x5, vI x6, vR 75]) rfl ?_
        refine r_idiv J rfl (fun c66 => ?_)
        refine r_run J 2 (pc' := 69) (lv' := [(0, vR 40), (1, vI x1), (2, vI x2), (3, vI x3), (4, vI x4), (5, vI x5), (6, vI x6)]) (st' := [vI (x5 * ((x6 - x6 / (11 : Int32) * (11 : Int32)) - (x6 / (11 : Int32)))), vI x6, vR 75]) rfl ?_
        exact p_X12_losses_69 J ih x1 x2 x3 x4 x5 x6 (x5 * ((x6 - x6 / (11 : Int32) * (11 : Int32)) - (x6 / (11 : Int32)))) x6 σ M N hL
    · refine r_run J 2 (pc' := 78) (lv' := [(0, vR 40), (1, vI x1), (2, vI x2), (3, vI x3), (4, vI x4), (5, vI x5), (6, vI x6)]) (st' := [vI 0, vR 40]) rfl ?_
      refine r_putI J cls12 rfl (k := 62) (by decide) wf_12_395 rfl (Or.inl rfl) ⟨rfl, rfl⟩ (ly_40 hL) ?_
      show g_H E 0 0 81 [(0, vR 40), (1, vI x1), (2, vI x2), (3, vI x3), (4, vI x4), (5, vI x5), (6, vI x6)] [] (σ, (g_up M 40 62 0), N) _ _
      refine r_run J 2 (pc' := 83) (lv' := [(0, vR 40), (1, vI x1), (2, vI x2), (3, vI x3), (4, vI x4), (5, vI x5), (6, vI x6)]) (st' := [vI x1, vR 40]) rfl ?_
      refine r_callV J (As := [vI x1]) (st := []) (fun r hr => c_X12_heldIn x1 σ (g_up M 40 62 0) N hL r hr) cls12 (ly_40 hL) wm_12_375 wy_X12_heldIn wd_X12_heldIn ⟨by decide, by decide, by decide, by decide, Nat.le_of_ble_eq_true rfl⟩ rfl rfl (fun q83 hq83 => ?_)
      show g_H E 0 0 86 [(0, vR 40), (1, vI x1), (2, vI x2), (3, vI x3), (4, vI x4), (5, vI x5), (6, vI x6)] [vI q83] (σ, (g_up M 40 62 0), N) _ _
      refine r_run J 3 (pc' := 90) (lv' := [(6, vI q83), (0, vR 40), (1, vI x1), (2, vI x2), (3, vI x3), (4, vI x4), (5, vI x5)]) (st' := [vI x1, vR 40]) rfl ?_
      refine r_callV J (As := [vI x1]) (st := []) (fun r hr => c_X12_usedIn x1 σ (g_up M 40 62 0) N hL r hr) cls12 (ly_40 hL) wm_12_378 wy_X12_usedIn wd_X12_usedIn ⟨by decide, by decide, by decide, by decide, Nat.le_of_ble_eq_true rfl⟩ rfl rfl (fun q90 hq90 => ?_)
      show g_H E 0 0 93 [(6, vI q83), (0, vR 40), (1, vI x1), (2, vI x2), (3, vI x3), (4, vI x4), (5, vI x5)] [vI q90] (σ, (g_up M 40 62 0), N) _ _
      refine r_run J 3 (pc' := 98) (lv' := [(8, vI 1), (7, vI q90), (6, vI q83), (0, vR 40), (1, vI x1), (2, vI x2), (3, vI x3), (4, vI x4), (5, vI x5)]) (st' := []) rfl ?_
      refine r_sub [3, 4, 5, 6, 7, 2, 1, 0] (lv' := [(0, vR 40), (1, vI x1), (2, vI x2), (3, vI x3), (4, vI x4), (6, vI q83), (7, vI q90), (8, vI 1)]) rfl ?_
      exact p_X12_losses_98 J g_FU x1 x2 x3 x4 q83 q90 1 σ (g_up M 40 62 0) N hL
set_option maxHeartbeats 4000000 in
set_option maxRecDepth 100000 in
theorem p_X12_losses_0 {l : Launch} {E : gE} (J : J_X12_losses E l) (x1 : Int32) (x2 : Int32) (x3 : Int32) (x4 : Int32) (x5 : Int32) (σ : gS) (M : gM) (N : gN) (hL : g_layM σ) : g_H E 0 0 0 [(0, vR 40), (1, vI x1), (2, vI x2), (3, vI x3), (4, vI x4), (5, vI x5)] [] (σ, M, N) (b_X12_losses_0 x1 x2 x3 x4 x5 σ M N) (eVMN σ) := by
  unfold b_X12_losses_0
  refine r_run J 3 (pc' := 3) (lv' := [(0, vR 40), (1, vI x1), (2, vI x2), (3, vI x3), (4, vI x4), (5, vI x5)]) (st' := [vI x1, vR 40, vR 40]) rfl ?_
  refine r_callV J (As := [vI x1]) (st := [vR 40]) (fun r hr => c_X12_peopleIn x1 σ M N hL r hr) cls12 (ly_40 hL) wm_12_381 wy_X12_peopleIn wd_X12_peopleIn ⟨by decide, by decide, by decide, by decide, Nat.le_of_ble_eq_true rfl⟩ rfl rfl (fun q3 hq3 => ?_)
  show g_H E 0 0 6 [(0, vR 40), (1, vI x1), (2, vI x2), (3, vI x3), (4, vI x4), (5, vI x5)] [vI q3, vR 40] (σ, M, N) _ _
  refine r_putI J cls12 rfl (k := 57) (by decide) wf_12_337 rfl (Or.inl rfl) ⟨rfl, rfl⟩ (ly_40 hL) ?_
  show g_H E 0 0 9 [(0, vR 40), (1, vI x1), (2, vI x2), (3, vI x3), (4, vI x4), (5, vI x5)] [] (σ, (g_up M 40 57 q3), N) _ _
  refine r_run J 2 (pc' := 12) (lv' := [(6, vI 0), (0, vR 40), (1, vI x1), (2, vI x2), (3, vI x3), (4, vI x4), (5, vI x5)]) (st' := []) rfl ?_
  refine r_sub [1, 2, 3, 4, 5, 6, 0] (lv' := [(0, vR 40), (1, vI x1), (2, vI x2), (3, vI x3), (4, vI x4), (5, vI x5), (6, vI 0)]) rfl ?_
  exact p_X12_losses_12 J g_FU x1 x2 x3 x4 x5 0 σ (g_up M 40 57 q3) N hL
theorem c_X12_losses {l : Launch} (x1 : Int32) (x2 : Int32) (x3 : Int32) (x4 : Int32) (x5 : Int32) (σ : gS) (M : gM) (N : gN) (hL : g_layM σ) (r : gM × gN) (h : f_X12_losses x1 x2 x3 x4 x5 σ M N = some r) : g_Ct l yX12_losses cX12_losses 16 none 70 0 0 [vR 40, vI x1, vI x2, vI x3, vI x4, vI x5] (σ, M, N) (eVMN σ r) :=
  g_Ct.of tb_X12_losses (by decide +kernel) tk_X12_losses (Nat.le_of_ble_eq_true rfl) (fun E J => p_X12_losses_0 J x1 x2 x3 x4 x5 σ M N hL r h)
def tb_X12_loss : gT := [(0, .aload_n 0, 1, 0), (1, .iload_n 1, 1, 0), (2, .iload_n 2, 1, 0), (3, .iload_n 3, 1, 0), (4, .iload 4, 2, 0), (6, .iload 5, 2, 0), (8, .invokevirtual 398, 3, 0), (11, .ifCond .ne 5, 3, 0), (14, .iconst (-1), 1, (-1)), (15, .ireturn, 1, 0), (16, .aload_n 0, 1, 0), (17, .iload_n 1, 1, 0), (18, .iload_n 2, 1, 0), (19, .iload_n 3, 1, 0), (20, .iload 4, 2, 0), (22, .iload 5, 2, 0), (24, .invokevirtual 401, 3, 0), (27, .aload_n 0, 1, 0), (28, .getfield 124, 3, 0), (31, .bipush 11, 2, 11), (33, .aload_n 0, 1, 0), (34, .iload_n 1, 1, 0), (35, .invokevirtual 375, 3, 0), (38, .imul, 1, 0), (39, .aload_n 0, 1, 0), (40, .iload_n 1, 1, 0), (41, .invokevirtual 378, 3, 0), (44, .iadd, 1, 0), (45, .iaload, 1, 0), (46, .ireturn, 1, 0)]
set_option maxRecDepth 100000 in
theorem tk_X12_loss : g_okT cX12_loss tb_X12_loss = true := by decide +kernel
abbrev J_X12_loss (E : gE) (l : Launch) : Prop := g_J E cX12_loss RX12 "loss" (some .int) 6 tb_X12_loss 71 0 0 l
set_option maxHeartbeats 4000000 in
set_option maxRecDepth 100000 in
theorem p_X12_loss_0 {l : Launch} {E : gE} (J : J_X12_loss E l) (x1 : Int32) (x2 : Int32) (x3 : Int32) (x4 : Int32) (x5 : Int32) (σ : gS) (M : gM) (N : gN) (hL : g_layM σ) : g_H E 0 0 0 [(0, vR 40), (1, vI x1), (2, vI x2), (3, vI x3), (4, vI x4), (5, vI x5)] [] (σ, M, N) (b_X12_loss_0 x1 x2 x3 x4 x5 σ M N) (eIMN σ) := by
  unfold b_X12_loss_0
  refine r_run J 6 (pc' := 8) (lv' := [(0, vR 40), (1, vI x1), (2, vI x2), (3, vI x3), (4, vI x4), (5, vI x5)]) (st' := [vI x5, vI x4, vI x3, vI x2, vI x1, vR 40]) rfl ?_
  refine r_callV J (As := [vI x1, vI x2, vI x3, vI x4, vI x5]) (st := []) (fun r hr => c_X12_isLoss x1 x2 x3 x4 x5 σ M N hL r hr) cls12 (ly_40 hL) wm_12_398 wy_X12_isLoss wd_X12_isLoss ⟨by decide, by decide, by decide, by decide, Nat.le_of_ble_eq_true rfl⟩ rfl rfl (fun q8 hq8 => ?_)
  show g_H E 0 0 11 [(0, vR 40), (1, vI x1), (2, vI x2), (3, vI x3), (4, vI x4), (5, vI x5)] [vI q8] (σ, M, N) _ _
  refine r_if_ne J (tgt := 16) rfl (by decide) (fun c11 => ?_) (fun c11 => ?_)
  · refine r_run J 1 (pc' := 15) (lv' := [(0, vR 40), (1, vI x1), (2, vI x2), (3, vI x3), (4, vI x4), (5, vI x5)]) (st' := [vI (-1)]) rfl ?_
    exact r_iret J rfl rfl rfl rfl (by decide) (by decide)
  · refine r_run J 6 (pc' := 24) (lv' := [(0, vR 40), (1, vI x1), (2, vI x2), (3, vI x3), (4, vI x4), (5, vI x5)]) (st' := [vI x5, vI x4, vI x3, vI x2, vI x1, vR 40]) rfl ?_
    refine r_callV J (As := [vI x1, vI x2, vI x3, vI x4, vI x5]) (st := []) (fun r hr => c_X12_losses x1 x2 x3 x4 x5 σ M N hL r hr) cls12 (ly_40 hL) wm_12_401 wy_X12_losses wd_X12_losses ⟨by decide, by decide, by decide, by decide, Nat.le_of_ble_eq_true rfl⟩ rfl rfl (fun q24 hq24 => ?_)
    show g_H E 0 0 27 [(0, vR 40), (1, vI x1), (2, vI x2), (3, vI x3), (4, vI x4), (5, vI x5)] [] (σ, q24.1, q24.2) _ _
    refine r_run J 1 (pc' := 28) (lv' := [(0, vR 40), (1, vI x1), (2, vI x2), (3, vI x3), (4, vI x4), (5, vI x5)]) (st' := [vR 40]) rfl ?_
    refine r_getR J cls12 rfl (k := 60) (t := 14) (by decide) wf_12_124 rfl rfl (ly_40 hL) (lr_40_60 hL) (fun _ => ?_)
    show g_H E 0 0 31 [(0, vR 40), (1, vI x1), (2, vI x2), (3, vI x3), (4, vI x4), (5, vI x5)] [vR 75] (σ, q24.1, q24.2) _ _
    refine r_run J 3 (pc' := 35) (lv' := [(0, vR 40), (1, vI x1), (2, vI x2), (3, vI x3), (4, vI x4), (5, vI x5)]) (st' := [vI x1, vR 40, vI 11, vR 75]) rfl ?_
    refine r_callV J (As := [vI x1]) (st := [vI 11, vR 75]) (fun r hr => c_X12_heldIn x1 σ q24.1 q24.2 hL r hr) cls12 (ly_40 hL) wm_12_375 wy_X12_heldIn wd_X12_heldIn ⟨by decide, by decide, by decide, by decide, Nat.le_of_ble_eq_true rfl⟩ rfl rfl (fun q35 hq35 => ?_)
    show g_H E 0 0 38 [(0, vR 40), (1, vI x1), (2, vI x2), (3, vI x3), (4, vI x4), (5, vI x5)] [vI q35, vI 11, vR 75] (σ, q24.1, q24.2) _ _
    refine r_run J 3 (pc' := 41) (lv' := [(0, vR 40), (1, vI x1), (2, vI x2), (3, vI x3), (4, vI x4), (5, vI x5)]) (st' := [vI x1, vR 40, vI ((11 : Int32) * q35), vR 75]) rfl ?_
    refine r_callV J (As := [vI x1]) (st := [vI ((11 : Int32) * q35), vR 75]) (fun r hr => c_X12_usedIn x1 σ q24.1 q24.2 hL r hr) cls12 (ly_40 hL) wm_12_378 wy_X12_usedIn wd_X12_usedIn ⟨by decide, by decide, by decide, by decide, Nat.le_of_ble_eq_true rfl⟩ rfl rfl (fun q41 hq41 => ?_)
    show g_H E 0 0 44 [(0, vR 40), (1, vI x1), (2, vI x2), (3, vI x3), (4, vI x4), (5, vI x5)] [vI q41, vI ((11 : Int32) * q35), vR 75] (σ, q24.1, q24.2) _ _
    refine r_run J 1 (pc' := 45) (lv' := [(0, vR 40), (1, vI x1), (2, vI x2), (3, vI x3), (4, vI x4), (5, vI x5)]) (st' := [vI (((11 : Int32) * q35) + q41), vR 75]) rfl ?_
    refine r_iald J rfl (ly_75 hL) (fun i45 => ?_)
    show g_H E 0 0 46 [(0, vR 40), (1, vI x1), (2, vI x2), (3, vI x3), (4, vI x4), (5, vI x5)] [vI (q24.1 75 (((11 : Int32) * q35) + q41).toNatClampNeg)] (σ, q24.1, q24.2) _ _
    exact r_iret J rfl rfl rfl rfl (by decide) (by decide)
theorem c_X12_loss {l : Launch} (x1 : Int32) (x2 : Int32) (x3 : Int32) (x4 : Int32) (x5 : Int32) (σ : gS) (M : gM) (N : gN) (hL : g_layM σ) (r : Int32 × gM × gN) (h : f_X12_loss x1 x2 x3 x4 x5 σ M N = some r) : g_Ct l yX12_loss cX12_loss 6 (some .int) 71 0 0 [vR 40, vI x1, vI x2, vI x3, vI x4, vI x5] (σ, M, N) (eIMN σ r) :=
  g_Ct.of tb_X12_loss (by decide +kernel) tk_X12_loss (Nat.le_of_ble_eq_true rfl) (fun E J => p_X12_loss_0 J x1 x2 x3 x4 x5 σ M N hL r h)
def tb_X12_gives : gT := [(0, .aload_n 0, 1, 0), (1, .iload_n 1, 1, 0), (2, .iload_n 2, 1, 0), (3, .iload_n 3, 1, 0), (4, .iload 4, 2, 0), (6, .iload 5, 2, 0), (8, .invokevirtual 398, 3, 0), (11, .ifCond .ne 5, 3, 0), (14, .iconst (-1), 1, (-1)), (15, .ireturn, 1, 0), (16, .aload_n 0, 1, 0), (17, .iload_n 1, 1, 0), (18, .iload_n 2, 1, 0), (19, .iload_n 3, 1, 0), (20, .iload 4, 2, 0), (22, .iload 5, 2, 0), (24, .invokevirtual 401, 3, 0), (27, .aload_n 0, 1, 0), (28, .getfield 395, 3, 0), (31, .ireturn, 1, 0)]
set_option maxRecDepth 100000 in
theorem tk_X12_gives : g_okT cX12_gives tb_X12_gives = true := by decide +kernel
abbrev J_X12_gives (E : gE) (l : Launch) : Prop := g_J E cX12_gives RX12 "gives" (some .int) 6 tb_X12_gives 71 0 0 l
set_option maxHeartbeats 4000000 in
set_option maxRecDepth 100000 in
theorem p_X12_gives_0 {l : Launch} {E : gE} (J : J_X12_gives E l) (x1 : Int32) (x2 : Int32) (x3 : Int32) (x4 : Int32) (x5 : Int32) (σ : gS) (M : gM) (N : gN) (hL : g_layM σ) : g_H E 0 0 0 [(0, vR 40), (1, vI x1), (2, vI x2), (3, vI x3), (4, vI x4), (5, vI x5)] [] (σ, M, N) (b_X12_gives_0 x1 x2 x3 x4 x5 σ M N) (eIMN σ) := by
  unfold b_X12_gives_0
  refine r_run J 6 (pc' := 8) (lv' := [(0, vR 40), (1, vI x1), (2, vI x2), (3, vI x3), (4, vI x4), (5, vI x5)]) (st' := [vI x5, vI x4, vI x3, vI x2, vI x1, vR 40]) rfl ?_
  refine r_callV J (As := [vI x1, vI x2, vI x3, vI x4, vI x5]) (st := []) (fun r hr => c_X12_isLoss x1 x2 x3 x4 x5 σ M N hL r hr) cls12 (ly_40 hL) wm_12_398 wy_X12_isLoss wd_X12_isLoss ⟨by decide, by decide, by decide, by decide, Nat.le_of_ble_eq_true rfl⟩ rfl rfl (fun q8 hq8 => ?_)
  show g_H E 0 0 11 [(0, vR 40), (1, vI x1), (2, vI x2), (3, vI x3), (4, vI x4), (5, vI x5)] [vI q8] (σ, M, N) _ _
  refine r_if_ne J (tgt := 16) rfl (by decide) (fun c11 => ?_) (fun c11 => ?_)
  · refine r_run J 1 (pc' := 15) (lv' := [(0, vR 40), (1, vI x1), (2, vI x2), (3, vI x3), (4, vI x4), (5, vI x5)]) (st' := [vI (-1)]) rfl ?_
    exact r_iret J rfl rfl rfl rfl (by decide) (by decide)
  · refine r_run J 6 (pc' := 24) (lv' := [(0, vR 40), (1, vI x1), (2, vI x2), (3, vI x3), (4, vI x4), (5, vI x5)]) (st' := [vI x5, vI x4, vI x3, vI x2, vI x1, vR 40]) rfl ?_
    refine r_callV J (As := [vI x1, vI x2, vI x3, vI x4, vI x5]) (st := []) (fun r hr => c_X12_losses x1 x2 x3 x4 x5 σ M N hL r hr) cls12 (ly_40 hL) wm_12_401 wy_X12_losses wd_X12_losses ⟨by decide, by decide, by decide, by decide, Nat.le_of_ble_eq_true rfl⟩ rfl rfl (fun q24 hq24 => ?_)
    show g_H E 0 0 27 [(0, vR 40), (1, vI x1), (2, vI x2), (3, vI x3), (4, vI x4), (5, vI x5)] [] (σ, q24.1, q24.2) _ _
    refine r_run J 1 (pc' := 28) (lv' := [(0, vR 40), (1, vI x1), (2, vI x2), (3, vI x3), (4, vI x4), (5, vI x5)]) (st' := [vR 40]) rfl ?_
    refine r_getI J cls12 rfl (k := 62) (by decide) wf_12_395 rfl (ly_40 hL) ?_
    show g_H E 0 0 31 [(0, vR 40), (1, vI x1), (2, vI x2), (3, vI x3), (4, vI x4), (5, vI x5)] [vI (q24.1 40 62)] (σ, q24.1, q24.2) _ _
    exact r_iret J rfl rfl rfl rfl (by decide) (by decide)
theorem c_X12_gives {l : Launch} (x1 : Int32) (x2 : Int32) (x3 : Int32) (x4 : Int32) (x5 : Int32) (σ : gS) (M : gM) (N : gN) (hL : g_layM σ) (r : Int32 × gM × gN) (h : f_X12_gives x1 x2 x3 x4 x5 σ M N = some r) : g_Ct l yX12_gives cX12_gives 6 (some .int) 71 0 0 [vR 40, vI x1, vI x2, vI x3, vI x4, vI x5] (σ, M, N) (eIMN σ r) :=
  g_Ct.of tb_X12_gives (by decide +kernel) tk_X12_gives (Nat.le_of_ble_eq_true rfl) (fun E J => p_X12_gives_0 J x1 x2 x3 x4 x5 σ M N hL r h)
def tb_X12_sight : gT := [(0, .iload_n 1, 1, 0), (1, .iconst 0, 1, 0), (2, .sipush 1440, 3, 1440), (5, .invokestatic 160, 3, 0), (8, .ifCond .eq 41, 3, 0), (11, .iload_n 2, 1, 0), (12, .iconst 0, 1, 0), (13, .sipush 1440, 3, 1440), (16, .invokestatic 160, 3, 0), (19, .ifCond .eq 30, 3, 0), (22, .iload_n 3, 1, 0), (23, .iconst 1, 1, 1), (24, .sipush 300, 3, 300), (27, .invokestatic 160, 3, 0), (30, .ifCond .eq 19, 3, 0), (33, .iload_n 1, 1, 0), (34, .iload_n 3, 1, 0), (35, .iadd, 1, 0), (36, .iload_n 2, 1, 0), (37, .if_icmp .gt 12, 3, 0), (40, .aload_n 0, 1, 0), (41, .getfield 405, 3, 0), (44, .bipush 6, 2, 6), (46, .if_icmp .ne 5, 3, 0), (49, .iconst (-1), 1, (-1)), (50, .ireturn, 1, 0), (51, .aload_n 0, 1, 0), (52, .dup, 1, 0), (53, .getfield 405, 3, 0), (56, .iconst 1, 1, 1), (57, .iadd, 1, 0), (58, .putfield 405, 3, 0), (61, .aload_n 0, 1, 0), (62, .getfield 130, 3, 0), (65, .aload_n 0, 1, 0), (66, .getfield 405, 3, 0), (69, .iload_n 1, 1, 0), (70, .iastore, 1, 0), (71, .aload_n 0, 1, 0), (72, .getfield 133, 3, 0), (75, .aload_n 0, 1, 0), (76, .getfield 405, 3, 0), (79, .iload_n 2, 1, 0), (80, .iastore, 1, 0), (81, .aload_n 0, 1, 0), (82, .getfield 136, 3, 0), (85, .aload_n 0, 1, 0), (86, .getfield 405, 3, 0), (89, .iload_n 3, 1, 0), (90, .iastore, 1, 0), (91, .aload_n 0, 1, 0), (92, .getfield 405, 3, 0), (95, .ireturn, 1, 0)]
set_option maxRecDepth 100000 in
theorem tk_X12_sight : g_okT cX12_sight tb_X12_sight = true := by decide +kernel
abbrev J_X12_sight (E : gE) (l : Launch) : Prop := g_J E cX12_sight RX12 "sight" (some .int) 4 tb_X12_sight 2 0 0 l
set_option maxHeartbeats 4000000 in
set_option maxRecDepth 100000 in
theorem p_X12_sight_81 {l : Launch} {E : gE} (J : J_X12_sight E l) (x3 : Int32) (σ : gS) (M : gM) (N : gN) (hL : g_layM σ) : g_H E 0 0 81 [(0, vR 40), (3, vI x3)] [] (σ, M, N) (b_X12_sight_81 x3 σ M) (eIM σ N) := by
  unfold b_X12_sight_81
  refine r_run J 1 (pc' := 82) (lv' := [(0, vR 40), (3, vI x3)]) (st' := [vR 40]) rfl ?_
  refine r_getR J cls12 rfl (k := 66) (t := 14) (by decide) wf_12_136 rfl rfl (ly_40 hL) (lr_40_66 hL) (fun _ => ?_)
  show g_H E 0 0 85 [(0, vR 40), (3, vI x3)] [vR 79] (σ, M, N) _ _
  refine r_run J 1 (pc' := 86) (lv' := [(0, vR 40), (3, vI x3)]) (st' := [vR 40, vR 79]) rfl ?_
  refine r_getI J cls12 rfl (k := 63) (by decide) wf_12_405 rfl (ly_40 hL) ?_
  show g_H E 0 0 89 [(0, vR 40), (3, vI x3)] [vI (M 40 63), vR 79] (σ, M, N) _ _
  refine r_run J 1 (pc' := 90) (lv' := [(0, vR 40), (3, vI x3)]) (st' := [vI x3, vI (M 40 63), vR 79]) rfl ?_
  refine r_iast J rfl (ly_79 hL) (fun i90 => ?_)
  show g_H E 0 0 91 [(0, vR 40), (3, vI x3)] [] (σ, (g_up M 79 ((M 40 63).toNatClampNeg) x3), N) _ _
  refine r_run J 1 (pc' := 92) (lv' := [(0, vR 40), (3, vI x3)]) (st' := [vR 40]) rfl ?_
  refine r_getI J cls12 rfl (k := 63) (by decide) wf_12_405 rfl (ly_40 hL) ?_
  show g_H E 0 0 95 [(0, vR 40), (3, vI x3)] [vI ((g_up M 79 ((M 40 63).toNatClampNeg) x3) 40 63)] (σ, (g_up M 79 ((M 40 63).toNatClampNeg) x3), N) _ _
  exact r_iret J rfl rfl rfl rfl (by decide) (by decide)
set_option maxHeartbeats 4000000 in
set_option maxRecDepth 100000 in
theorem p_X12_sight_0 {l : Launch} {E : gE} (J : J_X12_sight E l) (x1 : Int32) (x2 : Int32) (x3 : Int32) (σ : gS) (M : gM) (N : gN) (hL : g_layM σ) : g_H E 0 0 0 [(0, vR 40), (1, vI x1), (2, vI x2), (3, vI x3)] [] (σ, M, N) (b_X12_sight_0 x1 x2 x3 σ M) (eIM σ N) := by
  unfold b_X12_sight_0
  refine r_run J 3 (pc' := 5) (lv' := [(0, vR 40), (1, vI x1), (2, vI x2), (3, vI x3)]) (st' := [vI 1440, vI 0, vI x1]) rfl ?_
  refine r_callS J (As := [vI x1, vI 0, vI 1440]) (st := []) (fun r hr => c_X12_in x1 0 1440 σ M N hL r hr) wm_12_160 wy_X12_in wd_X12_in ⟨by decide, by decide, by decide, by decide, Nat.le_of_ble_eq_true rfl⟩ rfl rfl (fun q5 hq5 => ?_)
  show g_H E 0 0 8 [(0, vR 40), (1, vI x1), (2, vI x2), (3, vI x3)] [vI q5] (σ, M, N) _ _
  refine r_if_eq J (tgt := 49) rfl (by decide) (fun c8 => ?_) (fun c8 => ?_)
  · refine r_run J 1 (pc' := 50) (lv' := [(0, vR 40), (1, vI x1), (2, vI x2), (3, vI x3)]) (st' := [vI (-1)]) rfl ?_
    exact r_iret J rfl rfl rfl rfl (by decide) (by decide)
  · refine r_run J 3 (pc' := 16) (lv' := [(0, vR 40), (1, vI x1), (2, vI x2), (3, vI x3)]) (st' := [vI 1440, vI 0, vI x2]) rfl ?_
    refine r_callS J (As := [vI x2, vI 0, vI 1440]) (st := []) (fun r hr => c_X12_in x2 0 1440 σ M N hL r hr) wm_12_160 wy_X12_in wd_X12_in ⟨by decide, by decide, by decide, by decide, Nat.le_of_ble_eq_true rfl⟩ rfl rfl (fun q16 hq16 => ?_)
    show g_H E 0 0 19 [(0, vR 40), (1, vI x1), (2, vI x2), (3, vI x3)] [vI q16] (σ, M, N) _ _
    refine r_if_eq J (tgt := 49) rfl (by decide) (fun c19 => ?_) (fun c19 => ?_)
    · refine r_run J 1 (pc' := 50) (lv' := [(0, vR 40), (1, vI x1), (2, vI x2), (3, vI x3)]) (st' := [vI (-1)]) rfl ?_
      exact r_iret J rfl rfl rfl rfl (by decide) (by decide)
    · refine r_run J 3 (pc' := 27) (lv' := [(0, vR 40), (1, vI x1), (2, vI x2), (3, vI x3)]) (st' := [vI 300, vI 1, vI x3]) rfl ?_
      refine r_callS J (As := [vI x3, vI 1, vI 300]) (st := []) (fun r hr => c_X12_in x3 1 300 σ M N hL r hr) wm_12_160 wy_X12_in wd_X12_in ⟨by decide, by decide, by decide, by decide, Nat.le_of_ble_eq_true rfl⟩ rfl rfl (fun q27 hq27 => ?_)
      show g_H E 0 0 30 [(0, vR 40), (1, vI x1), (2, vI x2), (3, vI x3)] [vI q27] (σ, M, N) _ _
      refine r_if_eq J (tgt := 49) rfl (by decide) (fun c30 => ?_) (fun c30 => ?_)
      · refine r_run J 1 (pc' := 50) (lv' := [(0, vR 40), (1, vI x1), (2, vI x2), (3, vI x3)]) (st' := [vI (-1)]) rfl ?_
        exact r_iret J rfl rfl rfl rfl (by decide) (by decide)
      · refine r_run J 4 (pc' := 37) (lv' := [(0, vR 40), (1, vI x1), (2, vI x2), (3, vI x3)]) (st' := [vI x2, vI (x1 + x3)]) rfl ?_
        refine r_icmp_gt J (tgt := 49) rfl (by decide) (fun c37 => ?_) (fun c37 => ?_)
        · refine r_run J 1 (pc' := 50) (lv' := [(0, vR 40), (1, vI x1), (2, vI x2), (3, vI x3)]) (st' := [vI (-1)]) rfl ?_
          exact r_iret J rfl rfl rfl rfl (by decide) (by decide)
        · refine r_run J 1 (pc' := 41) (lv' := [(0, vR 40), (1, vI x1), (2, vI x2), (3, vI x3)]) (st' := [vR 40]) rfl ?_
          refine r_getI J cls12 rfl (k := 63) (by decide) wf_12_405 rfl (ly_40 hL) ?_
          show g_H E 0 0 44 [(0, vR 40), (1, vI x1), (2, vI x2), (3, vI x3)] [vI (M 40 63)] (σ, M, N) _ _
          refine r_run J 1 (pc' := 46) (lv' := [(0, vR 40), (1, vI x1), (2, vI x2), (3, vI x3)]) (st' := [vI 6, vI (M 40 63)]) rfl ?_
          refine r_icmp_ne J (tgt := 51) rfl (by decide) (fun c46 => ?_) (fun c46 => ?_)
          · refine r_run J 1 (pc' := 50) (lv' := [(0, vR 40), (1, vI x1), (2, vI x2), (3, vI x3)]) (st' := [vI (-1)]) rfl ?_
            exact r_iret J rfl rfl rfl rfl (by decide) (by decide)
          · refine r_run J 2 (pc' := 53) (lv' := [(0, vR 40), (1, vI x1), (2, vI x2), (3, vI x3)]) (st' := [vR 40, vR 40]) rfl ?_
            refine r_getI J cls12 rfl (k := 63) (by decide) wf_12_405 rfl (ly_40 hL) ?_
            show g_H E 0 0 56 [(0, vR 40), (1, vI x1), (2, vI x2), (3, vI x3)] [vI (M 40 63), vR 40] (σ, M, N) _ _
            refine r_run J 2 (pc' := 58) (lv' := [(0, vR 40), (1, vI x1), (2, vI x2), (3, vI x3)]) (st' := [vI ((M 40 63) + (1 : Int32)), vR 40]) rfl ?_
            refine r_putI J cls12 rfl (k := 63) (by decide) wf_12_405 rfl (Or.inl rfl) ⟨rfl, rfl⟩ (ly_40 hL) ?_
            show g_H E 0 0 61 [(0, vR 40), (1, vI x1), (2, vI x2), (3, vI x3)] [] (σ, (g_up M 40 63 ((M 40 63) + (1 : Int32))), N) _ _
            refine r_run J 1 (pc' := 62) (lv' := [(0, vR 40), (1, vI x1), (2, vI x2), (3, vI x3)]) (st' := [vR 40]) rfl ?_
            refine r_getR J cls12 rfl (k := 64) (t := 14) (by decide) wf_12_130 rfl rfl (ly_40 hL) (lr_40_64 hL) (fun _ => ?_)
            show g_H E 0 0 65 [(0, vR 40), (1, vI x1), (2, vI x2), (3, vI x3)] [vR 77] (σ, (g_up M 40 63 ((M 40 63) + (1 : Int32))), N) _ _
            refine r_run J 1 (pc' := 66) (lv' := [(0, vR 40), (1, vI x1), (2, vI x2), (3, vI x3)]) (st' := [vR 40, vR 77]) rfl ?_
            refine r_getI J cls12 rfl (k := 63) (by decide) wf_12_405 rfl (ly_40 hL) ?_
            show g_H E 0 0 69 [(0, vR 40), (1, vI x1), (2, vI x2), (3, vI x3)] [vI ((g_up M 40 63 ((M 40 63) + (1 : Int32))) 40 63), vR 77] (σ, (g_up M 40 63 ((M 40 63) + (1 : Int32))), N) _ _
            refine r_run J 1 (pc' := 70) (lv' := [(0, vR 40), (1, vI x1), (2, vI x2), (3, vI x3)]) (st' := [vI x1, vI ((g_up M 40 63 ((M 40 63) + (1 : Int32))) 40 63), vR 77]) rfl ?_
            refine r_iast J rfl (ly_77 hL) (fun i70 => ?_)
            show g_H E 0 0 71 [(0, vR 40), (1, vI x1), (2, vI x2), (3, vI x3)] [] (σ, (g_up (g_up M 40 63 ((M 40 63) + (1 : Int32))) 77 (((g_up M 40 63 ((M 40 63) + (1 : Int32))) 40 63).toNatClampNeg) x1), N) _ _
            refine r_run J 1 (pc' := 72) (lv' := [(0, vR 40), (1, vI x1), (2, vI x2), (3, vI x3)]) (st' := [vR 40]) rfl ?_
            refine r_getR J cls12 rfl (k := 65) (t := 14) (by decide) wf_12_133 rfl rfl (ly_40 hL) (lr_40_65 hL) (fun _ => ?_)
            show g_H E 0 0 75 [(0, vR 40), (1, vI x1), (2, vI x2), (3, vI x3)] [vR 78] (σ, (g_up (g_up M 40 63 ((M 40 63) + (1 : Int32))) 77 (((g_up M 40 63 ((M 40 63) + (1 : Int32))) 40 63).toNatClampNeg) x1), N) _ _
            refine r_run J 1 (pc' := 76) (lv' := [(0, vR 40), (1, vI x1), (2, vI x2), (3, vI x3)]) (st' := [vR 40, vR 78]) rfl ?_
            refine r_getI J cls12 rfl (k := 63) (by decide) wf_12_405 rfl (ly_40 hL) ?_
            show g_H E 0 0 79 [(0, vR 40), (1, vI x1), (2, vI x2), (3, vI x3)] [vI ((g_up (g_up M 40 63 ((M 40 63) + (1 : Int32))) 77 (((g_up M 40 63 ((M 40 63) + (1 : Int32))) 40 63).toNatClampNeg) x1) 40 63), vR 78] (σ, (g_up (g_up M 40 63 ((M 40 63) + (1 : Int32))) 77 (((g_up M 40 63 ((M 40 63) + (1 : Int32))) 40 63).toNatClampNeg) x1), N) _ _
            refine r_run J 1 (pc' := 80) (lv' := [(0, vR 40), (1, vI x1), (2, vI x2), (3, vI x3)]) (st' := [vI x2, vI ((g_up (g_up M 40 63 ((M 40 63) + (1 : Int32))) 77 (((g_up M 40 63 ((M 40 63) + (1 : Int32))) 40 63).toNatClampNeg) x1) 40 63), vR 78]) rfl ?_
            refine r_iast J rfl (ly_78 hL) (fun i80 => ?_)
            show g_H E 0 0 81 [(0, vR 40), (1, vI x1), (2, vI x2), (3, vI x3)] [] (σ, (g_up (g_up (g_up M 40 63 ((M 40 63) + (1 : Int32))) 77 (((g_up M 40 63 ((M 40 63) + (1 : Int32))) 40 63).toNatClampNeg) x1) 78 (((g_up (g_up M 40 63 ((M 40 63) + (1 : Int32))) 77 (((g_up M 40 63 ((M 40 63) + (1 : Int32))) 40 63).toNatClampNeg) x1) 40 63).toNatClampNeg) x2), N) _ _
            refine r_sub [0, 3] (lv' := [(0, vR 40), (3, vI x3)]) rfl ?_
            exact p_X12_sight_81 J x3 σ (g_up (g_up (g_up M 40 63 ((M 40 63) + (1 : Int32))) 77 (((g_up M 40 63 ((M 40 63) + (1 : Int32))) 40 63).toNatClampNeg) x1) 78 (((g_up (g_up M 40 63 ((M 40 63) + (1 : Int32))) 77 (((g_up M 40 63 ((M 40 63) + (1 : Int32))) 40 63).toNatClampNeg) x1) 40 63).toNatClampNeg) x2) N hL
theorem c_X12_sight {l : Launch} (x1 : Int32) (x2 : Int32) (x3 : Int32) (σ : gS) (M : gM) (N : gN) (hL : g_layM σ) (r : Int32 × gM) (h : f_X12_sight x1 x2 x3 σ M = some r) : g_Ct l yX12_sight cX12_sight 4 (some .int) 2 0 0 [vR 40, vI x1, vI x2, vI x3] (σ, M, N) (eIM σ N r) :=
  g_Ct.of tb_X12_sight (by decide +kernel) tk_X12_sight (Nat.le_of_ble_eq_true rfl) (fun E J => p_X12_sight_0 J x1 x2 x3 σ M N hL r h)
def tb_X12_way : gT := [(0, .iload_n 1, 1, 0), (1, .iconst 0, 1, 0), (2, .aload_n 0, 1, 0), (3, .getfield 405, 3, 0), (6, .invokestatic 160, 3, 0), (9, .ifCond .eq 31, 3, 0), (12, .iload_n 2, 1, 0), (13, .iconst 0, 1, 0), (14, .aload_n 0, 1, 0), (15, .getfield 405, 3, 0), (18, .invokestatic 160, 3, 0), (21, .ifCond .eq 19, 3, 0), (24, .iload_n 1, 1, 0), (25, .iload_n 2, 1, 0), (26, .if_icmp .eq 14, 3, 0), (29, .iload_n 3, 1, 0), (30, .iconst 0, 1, 0), (31, .sipush 270, 3, 270), (34, .invokestatic 160, 3, 0), (37, .ifCond .ne 5, 3, 0), (40, .iconst 0, 1, 0), (41, .ireturn, 1, 0), (42, .aload_n 0, 1, 0), (43, .getfield 139, 3, 0), (46, .bipush 7, 2, 7), (48, .iload_n 1, 1, 0), (49, .imul, 1, 0), (50, .iload_n 2, 1, 0), (51, .iadd, 1, 0), (52, .iload_n 3, 1, 0), (53, .iastore, 1, 0), (54, .iconst 1, 1, 1), (55, .ireturn, 1, 0)]
set_option maxRecDepth 100000 in
theorem tk_X12_way : g_okT cX12_way tb_X12_way = true := by decide +kernel
abbrev J_X12_way (E : gE) (l : Launch) : Prop := g_J E cX12_way RX12 "way" (some .boolean) 4 tb_X12_way 2 0 0 l
set_option maxHeartbeats 4000000 in
set_option maxRecDepth 100000 in
theorem p_X12_way_0 {l : Launch} {E : gE} (J : J_X12_way E l) (x1 : Int32) (x2 : Int32) (x3 : Int32) (σ : gS) (M : gM) (N : gN) (hL : g_layM σ) : g_H E 0 0 0 [(0, vR 40), (1, vI x1), (2, vI x2), (3, vI x3)] [] (σ, M, N) (b_X12_way_0 x1 x2 x3 σ M) (eIM σ N) := by
  unfold b_X12_way_0
  refine r_run J 3 (pc' := 3) (lv' := [(0, vR 40), (1, vI x1), (2, vI x2), (3, vI x3)]) (st' := [vR 40, vI 0, vI x1]) rfl ?_
  refine r_getI J cls12 rfl (k := 63) (by decide) wf_12_405 rfl (ly_40 hL) ?_
  show g_H E 0 0 6 [(0, vR 40), (1, vI x1), (2, vI x2), (3, vI x3)] [vI (M 40 63), vI 0, vI x1] (σ, M, N) _ _
  refine r_callS J (As := [vI x1, vI 0, vI (M 40 63)]) (st := []) (fun r hr => c_X12_in x1 0 (M 40 63) σ M N hL r hr) wm_12_160 wy_X12_in wd_X12_in ⟨by decide, by decide, by decide, by decide, Nat.le_of_ble_eq_true rfl⟩ rfl rfl (fun q6 hq6 => ?_)
  show g_H E 0 0 9 [(0, vR 40), (1, vI x1), (2, vI x2), (3, vI x3)] [vI q6] (σ, M, N) _ _
  refine r_if_eq J (tgt := 40) rfl (by decide) (fun c9 => ?_) (fun c9 => ?_)
  · refine r_run J 1 (pc' := 41) (lv' := [(0, vR 40), (1, vI x1), (2, vI x2), (3, vI x3)]) (st' := [vI 0]) rfl ?_
    exact r_iret J rfl rfl rfl rfl (by decide) (by decide)
  · refine r_run J 3 (pc' := 15) (lv' := [(0, vR 40), (1, vI x1), (2, vI x2), (3, vI x3)]) (st' := [vR 40, vI 0, vI x2]) rfl ?_
    refine r_getI J cls12 rfl (k := 63) (by decide) wf_12_405 rfl (ly_40 hL) ?_
    show g_H E 0 0 18 [(0, vR 40), (1, vI x1), (2, vI x2), (3, vI x3)] [vI (M 40 63), vI 0, vI x2] (σ, M, N) _ _
    refine r_callS J (As := [vI x2, vI 0, vI (M 40 63)]) (st := []) (fun r hr => c_X12_in x2 0 (M 40 63) σ M N hL r hr) wm_12_160 wy_X12_in wd_X12_in ⟨by decide, by decide, by decide, by decide, Nat.le_of_ble_eq_true rfl⟩ rfl rfl (fun q18 hq18 => ?_)
    show g_H E 0 0 21 [(0, vR 40), (1, vI x1), (2, vI x2), (3, vI x3)] [vI q18] (σ, M, N) _ _
    refine r_if_eq J (tgt := 40) rfl (by decide) (fun c21 => ?_) (fun c21 => ?_)
    · refine r_run J 1 (pc' := 41) (lv' := [(0, vR 40), (1, vI x1), (2, vI x2), (3, vI x3)]) (st' := [vI 0]) rfl ?_
      exact r_iret J rfl rfl rfl rfl (by decide) (by decide)
    · refine r_run J 2 (pc' := 26) (lv' := [(0, vR 40), (1, vI x1), (2, vI x2), (3, vI x3)]) (st' := [vI x2, vI x1]) rfl ?_
      refine r_icmp_eq J (tgt := 40) rfl (by decide) (fun c26 => ?_) (fun c26 => ?_)
      · refine r_run J 1 (pc' := 41) (lv' := [(0, vR 40), (1, vI x1), (2, vI x2), (3, vI x3)]) (st' := [vI 0]) rfl ?_
        exact r_iret J rfl rfl rfl rfl (by decide) (by decide)
      · refine r_run J 3 (pc' := 34) (lv' := [(0, vR 40), (1, vI x1), (2, vI x2), (3, vI x3)]) (st' := [vI 270, vI 0, vI x3]) rfl ?_
        refine r_callS J (As := [vI x3, vI 0, vI 270]) (st := []) (fun r hr => c_X12_in x3 0 270 σ M N hL r hr) wm_12_160 wy_X12_in wd_X12_in ⟨by decide, by decide, by decide, by decide, Nat.le_of_ble_eq_true rfl⟩ rfl rfl (fun q34 hq34 => ?_)
        show g_H E 0 0 37 [(0, vR 40), (1, vI x1), (2, vI x2), (3, vI x3)] [vI q34] (σ, M, N) _ _
        refine r_if_ne J (tgt := 42) rfl (by decide) (fun c37 => ?_) (fun c37 => ?_)
        · refine r_run J 1 (pc' := 41) (lv' := [(0, vR 40), (1, vI x1), (2, vI x2), (3, vI x3)]) (st' := [vI 0]) rfl ?_
          exact r_iret J rfl rfl rfl rfl (by decide) (by decide)
        · refine r_run J 1 (pc' := 43) (lv' := [(0, vR 40), (1, vI x1), (2, vI x2), (3, vI x3)]) (st' := [vR 40]) rfl ?_
          refine r_getR J cls12 rfl (k := 67) (t := 14) (by decide) wf_12_139 rfl rfl (ly_40 hL) (lr_40_67 hL) (fun _ => ?_)
          show g_H E 0 0 46 [(0, vR 40), (1, vI x1), (2, vI x2), (3, vI x3)] [vR 80] (σ, M, N) _ _
          refine r_run J 6 (pc' := 53) (lv' := [(0, vR 40), (1, vI x1), (2, vI x2), (3, vI x3)]) (st' := [vI x3, vI (((7 : Int32) * x1) + x2), vR 80]) rfl ?_
          refine r_iast J rfl (ly_80 hL) (fun i53 => ?_)
          show g_H E 0 0 54 [(0, vR 40), (1, vI x1), (2, vI x2), (3, vI x3)] [] (σ, (g_up M 80 ((((7 : Int32) * x1) + x2).toNatClampNeg) x3), N) _ _
          refine r_run J 1 (pc' := 55) (lv' := [(0, vR 40), (1, vI x1), (2, vI x2), (3, vI x3)]) (st' := [vI 1]) rfl ?_
          exact r_iret J rfl rfl rfl rfl (by decide) (by decide)
theorem c_X12_way {l : Launch} (x1 : Int32) (x2 : Int32) (x3 : Int32) (σ : gS) (M : gM) (N : gN) (hL : g_layM σ) (r : Int32 × gM) (h : f_X12_way x1 x2 x3 σ M = some r) : g_Ct l yX12_way cX12_way 4 (some .boolean) 2 0 0 [vR 40, vI x1, vI x2, vI x3] (σ, M, N) (eIM σ N r) :=
  g_Ct.of tb_X12_way (by decide +kernel) tk_X12_way (Nat.le_of_ble_eq_true rfl) (fun E J => p_X12_way_0 J x1 x2 x3 σ M N hL r h)
def tb_X12_clear : gT := [(0, .aload_n 0, 1, 0), (1, .getfield 405, 3, 0), (4, .istore_n 1, 1, 0), (5, .aload_n 0, 1, 0), (6, .iconst 0, 1, 0), (7, .putfield 405, 3, 0), (10, .iconst 0, 1, 0), (11, .istore_n 2, 1, 0), (12, .iload_n 2, 1, 0), (13, .bipush 49, 2, 49), (15, .if_icmp .ge 16, 3, 0), (18, .aload_n 0, 1, 0), (19, .getfield 139, 3, 0), (22, .iload_n 2, 1, 0), (23, .iconst 0, 1, 0), (24, .iastore, 1, 0), (25, .iinc 2 1, 3, 1), (28, .goto (-16), 3, 0), (31, .iload_n 1, 1, 0), (32, .ireturn, 1, 0)]
set_option maxRecDepth 100000 in
theorem tk_X12_clear : g_okT cX12_clear tb_X12_clear = true := by decide +kernel
abbrev J_X12_clear (E : gE) (l : Launch) : Prop := g_J E cX12_clear RX12 "clear" (some .int) 3 tb_X12_clear 1 0 0 l
set_option maxHeartbeats 4000000 in
set_option maxRecDepth 100000 in
theorem p_X12_clear_12 {l : Launch} {E : gE} (J : J_X12_clear E l) : ∀ (n : Nat) (x1 : Int32) (x2 : Int32) (σ : gS) (M : gM) (N : gN) (hL : g_layM σ), g_H E 0 0 12 [(0, vR 40), (1, vI x1), (2, vI x2)] [] (σ, M, N) (l_X12_clear_12 n x1 x2 σ M) (eIM σ N) := by
  intro n
  induction n with
  | zero => intros; exact h_none
  | succ n ih =>
    intro x1 x2 σ M N hL
    rw [l_X12_clear_12]
    refine r_run J 2 (pc' := 15) (lv' := [(0, vR 40), (1, vI x1), (2, vI x2)]) (st' := [vI 49, vI x2]) rfl ?_
    refine r_icmp_ge J (tgt := 31) rfl (by decide) (fun c15 => ?_) (fun c15 => ?_)
    · refine r_run J 1 (pc' := 19) (lv' := [(0, vR 40), (1, vI x1), (2, vI x2)]) (st' := [vR 40]) rfl ?_
      refine r_getR J cls12 rfl (k := 67) (t := 14) (by decide) wf_12_139 rfl rfl (ly_40 hL) (lr_40_67 hL) (fun _ => ?_)
      show g_H E 0 0 22 [(0, vR 40), (1, vI x1), (2, vI x2)] [vR 80] (σ, M, N) _ _
      refine r_run J 2 (pc' := 24) (lv' := [(0, vR 40), (1, vI x1), (2, vI x2)]) (st' := [vI 0, vI x2, vR 80]) rfl ?_
      refine r_iast J rfl (ly_80 hL) (fun i24 => ?_)
      show g_H E 0 0 25 [(0, vR 40), (1, vI x1), (2, vI x2)] [] (σ, (g_up M 80 (x2.toNatClampNeg) 0), N) _ _
      refine r_run J 2 (pc' := 12) (lv' := [(2, vI (x2 + 1)), (0, vR 40), (1, vI x1)]) (st' := []) rfl ?_
      refine r_sub [1, 2, 0] (lv' := [(0, vR 40), (1, vI x1), (2, vI (x2 + 1))]) rfl ?_
      exact ih x1 (x2 + 1) σ (g_up M 80 (x2.toNatClampNeg) 0) N hL
    · refine r_run J 1 (pc' := 32) (lv' := [(0, vR 40), (1, vI x1), (2, vI x2)]) (st' := [vI x1]) rfl ?_
      exact r_iret J rfl rfl rfl rfl (by decide) (by decide)
set_option maxHeartbeats 4000000 in
set_option maxRecDepth 100000 in
theorem p_X12_clear_0 {l : Launch} {E : gE} (J : J_X12_clear E l) (σ : gS) (M : gM) (N : gN) (hL : g_layM σ) : g_H E 0 0 0 [(0, vR 40)] [] (σ, M, N) (b_X12_clear_0 σ M) (eIM σ N) := by
  unfold b_X12_clear_0
  refine r_run J 1 (pc' := 1) (lv' := [(0, vR 40)]) (st' := [vR 40]) rfl ?_
  refine r_getI J cls12 rfl (k := 63) (by decide) wf_12_405 rfl (ly_40 hL) ?_
  show g_H E 0 0 4 [(0, vR 40)] [vI (M 40 63)] (σ, M, N) _ _
  refine r_run J 3 (pc' := 7) (lv' := [(1, vI (M 40 63)), (0, vR 40)]) (st' := [vI 0, vR 40]) rfl ?_
  refine r_putI J cls12 rfl (k := 63) (by decide) wf_12_405 rfl (Or.inl rfl) ⟨rfl, rfl⟩ (ly_40 hL) ?_
  show g_H E 0 0 10 [(1, vI (M 40 63)), (0, vR 40)] [] (σ, (g_up M 40 63 0), N) _ _
  refine r_run J 2 (pc' := 12) (lv' := [(2, vI 0), (1, vI (M 40 63)), (0, vR 40)]) (st' := []) rfl ?_
  refine r_sub [2, 1, 0] (lv' := [(0, vR 40), (1, vI (M 40 63)), (2, vI 0)]) rfl ?_
  exact p_X12_clear_12 J g_FU (M 40 63) 0 σ (g_up M 40 63 0) N hL
theorem c_X12_clear {l : Launch} (σ : gS) (M : gM) (N : gN) (hL : g_layM σ) (r : Int32 × gM) (h : f_X12_clear σ M = some r) : g_Ct l yX12_clear cX12_clear 3 (some .int) 1 0 0 [vR 40] (σ, M, N) (eIM σ N r) :=
  g_Ct.of tb_X12_clear (by decide +kernel) tk_X12_clear (Nat.le_of_ble_eq_true rfl) (fun E J => p_X12_clear_0 J σ M N hL r h)
def tb_X12_home : gT := [(0, .iload_n 1, 1, 0), (1, .ifCond .ne 7, 3, 0), (4, .iconst 0, 1, 0), (5, .goto 12, 3, 0), (8, .aload_n 0, 1, 0), (9, .getfield 139, 3, 0), (12, .bipush 7, 2, 7), (14, .iload_n 2, 1, 0), (15, .imul, 1, 0), (16, .iaload, 1, 0), (17, .istore 7, 2, 0), (19, .iload_n 1, 1, 0), (20, .ifCond .le 8, 3, 0), (23, .iload 7, 2, 0), (25, .ifCond .eq 14, 3, 0), (28, .iload 5, 2, 0), (30, .iload 7, 2, 0), (32, .iadd, 1, 0), (33, .sipush 540, 3, 540), (36, .if_icmp .le 4, 3, 0), (39, .return_, 1, 0), (40, .iload 4, 2, 0), (42, .iload 7, 2, 0), (44, .iadd, 1, 0), (45, .sipush 270, 3, 270), (48, .if_icmp .le 7, 3, 0), (51, .iconst 1, 1, 1), (52, .goto 4, 3, 0), (55, .iconst 0, 1, 0), (56, .istore 8, 2, 0), (58, .iload_n 3, 1, 0), (59, .iload 7, 2, 0), (61, .iadd, 1, 0), (62, .iload 8, 2, 0), (64, .ifCond .eq 8, 3, 0), (67, .bipush 45, 2, 45), (69, .goto 4, 3, 0), (72, .iconst 0, 1, 0), (73, .iadd, 1, 0), (74, .istore 9, 2, 0), (76, .iload_n 1, 1, 0), (77, .ifCond .le 12, 3, 0), (80, .iload 9, 2, 0), (82, .sipush 1440, 3, 1440), (85, .if_icmp .le 4, 3, 0), (88, .return_, 1, 0), (89, .iload_n 1, 1, 0), (90, .aload_n 0, 1, 0), (91, .getfield 416, 3, 0), (94, .if_icmp .lt 41, 3, 0), (97, .iload_n 1, 1, 0), (98, .aload_n 0, 1, 0), (99, .getfield 416, 3, 0), (102, .if_icmp .ne 34, 3, 0), (105, .iload 9, 2, 0), (107, .aload_n 0, 1, 0), (108, .getfield 419, 3, 0), (111, .if_icmp .gt 24, 3, 0), (114, .iload 9, 2, 0), (116, .aload_n 0, 1, 0), (117, .getfield 419, 3, 0), (120, .if_icmp .ne 16, 3, 0), (123, .iload 5, 2, 0), (125, .iload 7, 2, 0), (127, .iadd, 1, 0), (128, .aload_n 0, 1, 0), (129, .getfield 422, 3, 0), (132, .if_icmp .lt 4, 3, 0), (135, .return_, 1, 0), (136, .aload_n 0, 1, 0), (137, .iload_n 1, 1, 0), (138, .putfield 416, 3, 0), (141, .aload_n 0, 1, 0), (142, .iload 9, 2, 0), (144, .putfield 419, 3, 0), (147, .aload_n 0, 1, 0), (148, .iload 5, 2, 0), (150, .iload 7, 2, 0), (152, .iadd, 1, 0), (153, .putfield 422, 3, 0), (156, .aload_n 0, 1, 0), (157, .iload 6, 2, 0), (159, .iload 8, 2, 0), (161, .ifCond .eq 7, 3, 0), (164, .iconst 1, 1, 1), (165, .goto 4, 3, 0), (168, .iconst 0, 1, 0), (169, .iadd, 1, 0), (170, .putfield 425, 3, 0), (173, .iconst 0, 1, 0), (174, .istore 10, 2, 0), (176, .iload 10, 2, 0), (178, .iload_n 1, 1, 0), (179, .if_icmp .ge 37, 3, 0), (182, .aload_n 0, 1, 0), (183, .getfield 148, 3, 0), (186, .iload 10, 2, 0), (188, .aload_n 0, 1, 0), (189, .getfield 142, 3, 0), (192, .iload 10, 2, 0), (194, .iaload, 1, 0), (195, .iastore, 1, 0), (196, .aload_n 0, 1, 0), (197, .getfield 151, 3, 0), (200, .iload 10, 2, 0), (202, .aload_n 0, 1, 0), (203, .getfield 145, 3, 0), (206, .iload 10, 2, 0), (208, .iaload, 1, 0), (209, .iastore, 1, 0), (210, .iinc 10 1, 3, 1), (213, .goto (-37), 3, 0), (216, .return_, 1, 0)]
set_option maxRecDepth 100000 in
theorem tk_X12_home : g_okT cX12_home tb_X12_home = true := by decide +kernel
abbrev J_X12_home (E : gE) (l : Launch) : Prop := g_J E cX12_home RX12 "home" none 11 tb_X12_home 1 0 0 l
set_option maxHeartbeats 4000000 in
set_option maxRecDepth 100000 in
theorem p_X12_home_176 {l : Launch} {E : gE} (J : J_X12_home E l) : ∀ (n : Nat) (x1 : Int32) (x10 : Int32) (σ : gS) (M : gM) (N : gN) (hL : g_layM σ), g_H E 0 0 176 [(0, vR 40), (1, vI x1), (10, vI x10)] [] (σ, M, N) (l_X12_home_176 n x1 x10 σ M) (eVM σ N) := by
  intro n
  induction n with
  | zero => intros; exact h_none
  | succ n ih =>
    intro x1 x10 σ M N hL
    rw [l_X12_home_176]
    refine r_run J 2 (pc' := 179) (lv' := [(0, vR 40), (1, vI x1), (10, vI x10)]) (st' := [vI x1, vI x10]) rfl ?_
    refine r_icmp_ge J (tgt := 216) rfl (by decide) (fun c179 => ?_) (fun c179 => ?_)
    · refine r_run J 1 (pc' := 183) (lv' := [(0, vR 40), (1, vI x1), (10, vI x10)]) (st' := [vR 40]) rfl ?_
      refine r_getR J cls12 rfl (k := 75) (t := 14) (by decide) wf_12_148 rfl rfl (ly_40 hL) (lr_40_75 hL) (fun _ => ?_)
      show g_H E 0 0 186 [(0, vR 40), (1, vI x1), (10, vI x10)] [vR 83] (σ, M, N) _ _
      refine r_run J 2 (pc' := 189) (lv' := [(0, vR 40), (1, vI x1), (10, vI x10)]) (st' := [vR 40, vI x10, vR 83]) rfl ?_
      refine r_getR J cls12 rfl (k := 68) (t := 14) (by decide) wf_12_142 rfl rfl (ly_40 hL) (lr_40_68 hL) (fun _ => ?_)
      show g_H E 0 0 192 [(0, vR 40), (1, vI x1), (10, vI x10)] [vR 81, vI x10, vR 83] (σ, M, N) _ _
      refine r_run J 1 (pc' := 194) (lv' := [(0, vR 40), (1, vI x1), (10, vI x10)]) (st' := [vI x10, vR 81, vI x10, vR 83]) rfl ?_
      refine r_iald J rfl (ly_81 hL) (fun i194 => ?_)
      show g_H E 0 0 195 [(0, vR 40), (1, vI x1), (10, vI x10)] [vI (M 81 x10.toNatClampNeg), vI x10, vR 83] (σ, M, N) _ _
      refine r_iast J rfl (ly_83 hL) (fun i195 => ?_)
      show g_H E 0 0 196 [(0, vR 40), (1, vI x1), (10, vI x10)] [] (σ, (g_up M 83 (x10.toNatClampNeg) (M 81 x10.toNatClampNeg)), N) _ _
      refine r_run J 1 (pc' := 197) (lv' := [(0, vR 40), (1, vI x1), (10, vI x10)]) (st' := [vR 40]) rfl ?_
      refine r_getR J cls12 rfl (k := 76) (t := 14) (by decide) wf_12_151 rfl rfl (ly_40 hL) (lr_40_76 hL) (fun _ => ?_)
      show g_H E 0 0 200 [(0, vR 40), (1, vI x1), (10, vI x10)] [vR 84] (σ, (g_up M 83 (x10.toNatClampNeg) (M 81 x10.toNatClampNeg)), N) _ _
      refine r_run J 2 (pc' := 203) (lv' := [(0, vR 40), (1, vI x1), (10, vI x10)]) (st' := [vR 40, vI x10, vR 84]) rfl ?_
      refine r_getR J cls12 rfl (k := 69) (t := 14) (by decide) wf_12_145 rfl rfl (ly_40 hL) (lr_40_69 hL) (fun _ => ?_)
      show g_H E 0 0 206 [(0, vR 40), (1, vI x1), (10, vI x10)] [vR 82, vI x10, vR 84] (σ, (g_up M 83 (x10.toNatClampNeg) (M 81 x10.toNatClampNeg)), N) _ _
      refine r_run J 1 (pc' := 208) (lv' := [(0, vR 40), (1, vI x1), (10, vI x10)]) (st' := [vI x10, vR 82, vI x10, vR 84]) rfl ?_
      refine r_iald J rfl (ly_82 hL) (fun i208 => ?_)
      show g_H E 0 0 209 [(0, vR 40), (1, vI x1), (10, vI x10)] [vI ((g_up M 83 (x10.toNatClampNeg) (M 81 x10.toNatClampNeg)) 82 x10.toNatClampNeg), vI x10, vR 84] (σ, (g_up M 83 (x10.toNatClampNeg) (M 81 x10.toNatClampNeg)), N) _ _
      refine r_iast J rfl (ly_84 hL) (fun i209 => ?_)
      show g_H E 0 0 210 [(0, vR 40), (1, vI x1), (10, vI x10)] [] (σ, (g_up (g_up M 83 (x10.toNatClampNeg) (M 81 x10.toNatClampNeg)) 84 (x10.toNatClampNeg) ((g_up M 83 (x10.toNatClampNeg) (M 81 x10.toNatClampNeg)) 82 x10.toNatClampNeg)), N) _ _
      refine r_run J 2 (pc' := 176) (lv' := [(10, vI (x10 + 1)), (0, vR 40), (1, vI x1)]) (st' := []) rfl ?_
      refine r_sub [1, 2, 0] (lv' := [(0, vR 40), (1, vI x1), (10, vI (x10 + 1))]) rfl ?_
      exact ih x1 (x10 + 1) σ (g_up (g_up M 83 (x10.toNatClampNeg) (M 81 x10.toNatClampNeg)) 84 (x10.toNatClampNeg) ((g_up M 83 (x10.toNatClampNeg) (M 81 x10.toNatClampNeg)) 82 x10.toNatClampNeg)) N hL
    · exact r_vret J rfl rfl rfl (by decide) (by decide)
set_option maxHeartbeats 4000000 in
set_option maxRecDepth 100000 in
theorem p_X12_home_169 {l : Launch} {E : gE} (J : J_X12_home E l) (x1 : Int32) (sx0 : Int32) (sx1 : Int32) (σ : gS) (M : gM) (N : gN) (hL : g_layM σ) : g_H E 0 0 169 [(0, vR 40), (1, vI x1)] [vI sx0, vI sx1, vR 40] (σ, M, N) (b_X12_home_169 x1 sx0 sx1 σ M) (eVM σ N) := by
  unfold b_X12_home_169
  refine r_run J 1 (pc' := 170) (lv' := [(0, vR 40), (1, vI x1)]) (st' := [vI (sx1 + sx0), vR 40]) rfl ?_
  refine r_putI J cls12 rfl (k := 74) (by decide) wf_12_425 rfl (Or.inl rfl) ⟨rfl, rfl⟩ (ly_40 hL) ?_
  show g_H E 0 0 173 [(0, vR 40), (1, vI x1)] [] (σ, (g_up M 40 74 (sx1 + sx0)), N) _ _
  refine r_run J 2 (pc' := 176) (lv' := [(10, vI 0), (0, vR 40), (1, vI x1)]) (st' := []) rfl ?_
  refine r_sub [1, 2, 0] (lv' := [(0, vR 40), (1, vI x1), (10, vI 0)]) rfl ?_
  exact p_X12_home_176 J g_FU x1 0 σ (g_up M 40 74 (sx1 + sx0)) N hL
set_option maxHeartbeats 4000000 in
set_option maxRecDepth 100000 in
theorem p_X12_home_156 {l : Launch} {E : gE} (J : J_X12_home E l) (x1 : Int32) (x6 : Int32) (x8 : Int32) (σ : gS) (M : gM) (N : gN) (hL : g_layM σ) : g_H E 0 0 156 [(0, vR 40), (1, vI x1), (6, vI x6), (8, vI x8)] [] (σ, M, N) (b_X12_home_156 x1 x6 x8 σ M) (eVM σ N) := by
  unfold b_X12_home_156
  refine r_run J 3 (pc' := 161) (lv' := [(0, vR 40), (1, vI x1), (6, vI x6), (8, vI x8)]) (st' := [vI x8, vI x6, vR 40]) rfl ?_
  refine r_if_eq J (tgt := 168) rfl (by decide) (fun c161 => ?_) (fun c161 => ?_)
  · refine r_run J 1 (pc' := 169) (lv' := [(0, vR 40), (1, vI x1), (6, vI x6), (8, vI x8)]) (st' := [vI 0, vI x6, vR 40]) rfl ?_
    refine r_sub [0, 1] (lv' := [(0, vR 40), (1, vI x1)]) rfl ?_
    exact p_X12_home_169 J x1 0 x6 σ M N hL
  · refine r_run J 2 (pc' := 169) (lv' := [(0, vR 40), (1, vI x1), (6, vI x6), (8, vI x8)]) (st' := [vI 1, vI x6, vR 40]) rfl ?_
    refine r_sub [0, 1] (lv' := [(0, vR 40), (1, vI x1)]) rfl ?_
    exact p_X12_home_169 J x1 1 x6 σ M N hL
set_option maxHeartbeats 4000000 in
set_option maxRecDepth 100000 in
theorem p_X12_home_136 {l : Launch} {E : gE} (J : J_X12_home E l) (x1 : Int32) (x5 : Int32) (x6 : Int32) (x7 : Int32) (x8 : Int32) (x9 : Int32) (σ : gS) (M : gM) (N : gN) (hL : g_layM σ) : g_H E 0 0 136 [(0, vR 40), (1, vI x1), (5, vI x5), (6, vI x6), (7, vI x7), (8, vI x8), (9, vI x9)] [] (σ, M, N) (b_X12_home_136 x1 x5 x6 x7 x8 x9 σ M) (eVM σ N) := by
  unfold b_X12_home_136
  refine r_run J 2 (pc' := 138) (lv' := [(0, vR 40), (1, vI x1), (5, vI x5), (6, vI x6), (7, vI x7), (8, vI x8), (9, vI x9)]) (st' := [vI x1, vR 40]) rfl ?_
  refine r_putI J cls12 rfl (k := 71) (by decide) wf_12_416 rfl (Or.inl rfl) ⟨rfl, rfl⟩ (ly_40 hL) ?_
  show g_H E 0 0 141 [(0, vR 40), (1, vI x1), (5, vI x5), (6, vI x6), (7, vI x7), (8, vI x8), (9, vI x9)] [] (σ, (g_up M 40 71 x1), N) _ _
  refine r_run J 2 (pc' := 144) (lv' := [(0, vR 40), (1, vI x1), (5, vI x5), (6, vI x6), (7, vI x7), (8, vI x8), (9, vI x9)]) (st' := [vI x9, vR 40]) rfl ?_
  refine r_putI J cls12 rfl (k := 72) (by decide) wf_12_419 rfl (Or.inl rfl) ⟨rfl, rfl⟩ (ly_40 hL) ?_
  show g_H E 0 0 147 [(0, vR 40), (1, vI x1), (5, vI x5), (6, vI x6), (7, vI x7), (8, vI x8), (9, vI x9)] [] (σ, (g_up (g_up M 40 71 x1) 40 72 x9), N) _ _
  refine r_run J 4 (pc' := 153) (lv' := [(0, vR 40), (1, vI x1), (5, vI x5), (6, vI x6), (7, vI x7), (8, vI x8), (9, vI x9)]) (st' := [vI (x5 + x7), vR 40]) rfl ?_
  refine r_putI J cls12 rfl (k := 73) (by decide) wf_12_422 rfl (Or.inl rfl) ⟨rfl, rfl⟩ (ly_40 hL) ?_
  show g_H E 0 0 156 [(0, vR 40), (1, vI x1), (5, vI x5), (6, vI x6), (7, vI x7), (8, vI x8), (9, vI x9)] [] (σ, (g_up (g_up (g_up M 40 71 x1) 40 72 x9) 40 73 (x5 + x7)), N) _ _
  refine r_sub [0, 1, 3, 5] (lv' := [(0, vR 40), (1, vI x1), (6, vI x6), (8, vI x8)]) rfl ?_
  exact p_X12_home_156 J x1 x6 x8 σ (g_up (g_up (g_up M 40 71 x1) 40 72 x9) 40 73 (x5 + x7)) N hL
set_option maxHeartbeats 4000000 in
set_option maxRecDepth 100000 in
theorem p_X12_home_89 {l : Launch} {E : gE} (J : J_X12_home E l) (x1 : Int32) (x5 : Int32) (x6 : Int32) (x7 : Int32) (x8 : Int32) (x9 : Int32) (σ : gS) (M : gM) (N : gN) (hL : g_layM σ) : g_H E 0 0 89 [(0, vR 40), (1, vI x1), (5, vI x5), (6, vI x6), (7, vI x7), (8, vI x8), (9, vI x9)] [] (σ, M, N) (b_X12_home_89 x1 x5 x6 x7 x8 x9 σ M) (eVM σ N) := by
  unfold b_X12_home_89
  refine r_run J 2 (pc' := 91) (lv' := [(0, vR 40), (1, vI x1), (5, vI x5), (6, vI x6), (7, vI x7), (8, vI x8), (9, vI x9)]) (st' := [vR 40, vI x1]) rfl ?_
  refine r_getI J cls12 rfl (k := 71) (by decide) wf_12_416 rfl (ly_40 hL) ?_
  show g_H E 0 0 94 [(0, vR 40), (1, vI x1), (5, vI x5), (6, vI x6), (7, vI x7), (8, vI x8), (9, vI x9)] [vI (M 40 71), vI x1] (σ, M, N) _ _
  refine r_icmp_lt J (tgt := 135) rfl (by decide) (fun c94 => ?_) (fun c94 => ?_)
  · exact r_vret J rfl rfl rfl (by decide) (by decide)
  · refine r_run J 2 (pc' := 99) (lv' := [(0, vR 40), (1, vI x1), (5, vI x5), (6, vI x6), (7, vI x7), (8, vI x8), (9, vI x9)]) (st' := [vR 40, vI x1]) rfl ?_
    refine r_getI J cls12 rfl (k := 71) (by decide) wf_12_416 rfl (ly_40 hL) ?_
    show g_H E 0 0 102 [(0, vR 40), (1, vI x1), (5, vI x5), (6, vI x6), (7, vI x7), (8, vI x8), (9, vI x9)] [vI (M 40 71), vI x1] (σ, M, N) _ _
    refine r_icmp_ne J (tgt := 136) rfl (by decide) (fun c102 => ?_) (fun c102 => ?_)
    · refine r_run J 2 (pc' := 108) (lv' := [(0, vR 40), (1, vI x1), (5, vI x5), (6, vI x6), (7, vI x7), (8, vI x8), (9, vI x9)]) (st' := [vR 40, vI x9]) rfl ?_
      refine r_getI J cls12 rfl (k := 72) (by decide) wf_12_419 rfl (ly_40 hL) ?_
      show g_H E 0 0 111 [(0, vR 40), (1, vI x1), (5, vI x5), (6, vI x6), (7, vI x7), (8, vI x8), (9, vI x9)] [vI (M 40 72), vI x9] (σ, M, N) _ _
      refine r_icmp_gt J (tgt := 135) rfl (by decide) (fun c111 => ?_) (fun c111 => ?_)
      · exact r_vret J rfl rfl rfl (by decide) (by decide)
      · refine r_run J 2 (pc' := 117) (lv' := [(0, vR 40), (1, vI x1), (5, vI x5), (6, vI x6), (7, vI x7), (8, vI x8), (9, vI x9)]) (st' := [vR 40, vI x9]) rfl ?_
        refine r_getI J cls12 rfl (k := 72) (by decide) wf_12_419 rfl (ly_40 hL) ?_
        show g_H E 0 0 120 [(0, vR 40), (1, vI x1), (5, vI x5), (6, vI x6), (7, vI x7), (8, vI x8), (9, vI x9)] [vI (M 40 72), vI x9] (σ, M, N) _ _
        refine r_icmp_ne J (tgt := 136) rfl (by decide) (fun c120 => ?_) (fun c120 => ?_)
        · refine r_run J 4 (pc' := 129) (lv' := [(0, vR 40), (1, vI x1), (5, vI x5), (6, vI x6), (7, vI x7), (8, vI x8), (9, vI x9)]) (st' := [vR 40, vI (x5 + x7)]) rfl ?_
          refine r_getI J cls12 rfl (k := 73) (by decide) wf_12_422 rfl (ly_40 hL) ?_
          show g_H E 0 0 132 [(0, vR 40), (1, vI x1), (5, vI x5), (6, vI x6), (7, vI x7), (8, vI x8), (9, vI x9)] [vI (M 40 73), vI (x5 + x7)] (σ, M, N) _ _
          refine r_icmp_lt J (tgt := 136) rfl (by decide) (fun c132 => ?_) (fun c132 => ?_)
          · exact p_X12_home_136 J x1 x5 x6 x7 x8 x9 σ M N hL
          · exact r_vret J rfl rfl rfl (by decide) (by decide)
        · exact p_X12_home_136 J x1 x5 x6 x7 x8 x9 σ M N hL
    · exact p_X12_home_136 J x1 x5 x6 x7 x8 x9 σ M N hL
set_option maxHeartbeats 4000000 in
set_option maxRecDepth 100000 in
theorem p_X12_home_73 {l : Launch} {E : gE} (J : J_X12_home E l) (x1 : Int32) (x5 : Int32) (x6 : Int32) (x7 : Int32) (x8 : Int32) (sx0 : Int32) (sx1 : Int32) (σ : gS) (M : gM) (N : gN) (hL : g_layM σ) : g_H E 0 0 73 [(0, vR 40), (1, vI x1), (5, vI x5), (6, vI x6), (7, vI x7), (8, vI x8)] [vI sx0, vI sx1] (σ, M, N) (b_X12_home_73 x1 x5 x6 x7 x8 sx0 sx1 σ M) (eVM σ N) := by
  unfold b_X12_home_73
  refine r_run J 3 (pc' := 77) (lv' := [(9, vI (sx1 + sx0)), (0, vR 40), (1, vI x1), (5, vI x5), (6, vI x6), (7, vI x7), (8, vI x8)]) (st' := [vI x1]) rfl ?_
  refine r_if_le J (tgt := 89) rfl (by decide) (fun c77 => ?_) (fun c77 => ?_)
  · refine r_run J 2 (pc' := 85) (lv' := [(9, vI (sx1 + sx0)), (0, vR 40), (1, vI x1), (5, vI x5), (6, vI x6), (7, vI x7), (8, vI x8)]) (st' := [vI 1440, vI (sx1 + sx0)]) rfl ?_
    refine r_icmp_le J (tgt := 89) rfl (by decide) (fun c85 => ?_) (fun c85 => ?_)
    · exact r_vret J rfl rfl rfl (by decide) (by decide)
    · refine r_sub [1, 2, 3, 4, 5, 6, 0] (lv' := [(0, vR 40), (1, vI x1), (5, vI x5), (6, vI x6), (7, vI x7), (8, vI x8), (9, vI (sx1 + sx0))]) rfl ?_
      exact p_X12_home_89 J x1 x5 x6 x7 x8 (sx1 + sx0) σ M N hL
  · refine r_sub [1, 2, 3, 4, 5, 6, 0] (lv' := [(0, vR 40), (1, vI x1), (5, vI x5), (6, vI x6), (7, vI x7), (8, vI x8), (9, vI (sx1 + sx0))]) rfl ?_
    exact p_X12_home_89 J x1 x5 x6 x7 x8 (sx1 + sx0) σ M N hL
set_option maxHeartbeats 4000000 in
set_option maxRecDepth 100000 in
theorem p_X12_home_56 {l : Launch} {E : gE} (J : J_X12_home E l) (x1 : Int32) (x3 : Int32) (x5 : Int32) (x6 : Int32) (x7 : Int32) (sx0 : Int32) (σ : gS) (M : gM) (N : gN) (hL : g_layM σ) : g_H E 0 0 56 [(0, vR 40), (1, vI x1), (3, vI x3), (5, vI x5), (6, vI x6), (7, vI x7)] [vI sx0] (σ, M, N) (b_X12_home_56 x1 x3 x5 x6 x7 sx0 σ M) (eVM σ N) := by
  unfold b_X12_home_56
  refine r_run J 5 (pc' := 64) (lv' := [(8, vI sx0), (0, vR 40), (1, vI x1), (3, vI x3), (5, vI x5), (6, vI x6), (7, vI x7)]) (st' := [vI sx0, vI (x3 + x7)]) rfl ?_
  refine r_if_eq J (tgt := 72) rfl (by decide) (fun c64 => ?_) (fun c64 => ?_)
  · refine r_run J 1 (pc' := 73) (lv' := [(8, vI sx0), (0, vR 40), (1, vI x1), (3, vI x3), (5, vI x5), (6, vI x6), (7, vI x7)]) (st' := [vI 0, vI (x3 + x7)]) rfl ?_
    refine r_sub [1, 2, 4, 5, 6, 0] (lv' := [(0, vR 40), (1, vI x1), (5, vI x5), (6, vI x6), (7, vI x7), (8, vI sx0)]) rfl ?_
    exact p_X12_home_73 J x1 x5 x6 x7 sx0 0 (x3 + x7) σ M N hL
  · refine r_run J 2 (pc' := 73) (lv' := [(8, vI sx0), (0, vR 40), (1, vI x1), (3, vI x3), (5, vI x5), (6, vI x6), (7, vI x7)]) (st' := [vI 45, vI (x3 + x7)]) rfl ?_
    refine r_sub [1, 2, 4, 5, 6, 0] (lv' := [(0, vR 40), (1, vI x1), (5, vI x5), (6, vI x6), (7, vI x7), (8, vI sx0)]) rfl ?_
    exact p_X12_home_73 J x1 x5 x6 x7 sx0 45 (x3 + x7) σ M N hL
set_option maxHeartbeats 4000000 in
set_option maxRecDepth 100000 in
theorem p_X12_home_28 {l : Launch} {E : gE} (J : J_X12_home E l) (x1 : Int32) (x3 : Int32) (x4 : Int32) (x5 : Int32) (x6 : Int32) (x7 : Int32) (σ : gS) (M : gM) (N : gN) (hL : g_layM σ) : g_H E 0 0 28 [(0, vR 40), (1, vI x1), (3, vI x3), (4, vI x4), (5, vI x5), (6, vI x6), (7, vI x7)] [] (σ, M, N) (b_X12_home_28 x1 x3 x4 x5 x6 x7 σ M) (eVM σ N) := by
  unfold b_X12_home_28
  refine r_run J 4 (pc' := 36) (lv' := [(0, vR 40), (1, vI x1), (3, vI x3), (4, vI x4), (5, vI x5), (6, vI x6), (7, vI x7)]) (st' := [vI 540, vI (x5 + x7)]) rfl ?_
  refine r_icmp_le J (tgt := 40) rfl (by decide) (fun c36 => ?_) (fun c36 => ?_)
  · exact r_vret J rfl rfl rfl (by decide) (by decide)
  · refine r_run J 4 (pc' := 48) (lv' := [(0, vR 40), (1, vI x1), (3, vI x3), (4, vI x4), (5, vI x5), (6, vI x6), (7, vI x7)]) (st' := [vI 270, vI (x4 + x7)]) rfl ?_
    refine r_icmp_le J (tgt := 55) rfl (by decide) (fun c48 => ?_) (fun c48 => ?_)
    · refine r_run J 2 (pc' := 56) (lv' := [(0, vR 40), (1, vI x1), (3, vI x3), (4, vI x4), (5, vI x5), (6, vI x6), (7, vI x7)]) (st' := [vI 1]) rfl ?_
      refine r_sub [0, 1, 2, 4, 5, 6] (lv' := [(0, vR 40), (1, vI x1), (3, vI x3), (5, vI x5), (6, vI x6), (7, vI x7)]) rfl ?_
      exact p_X12_home_56 J x1 x3 x5 x6 x7 1 σ M N hL
    · refine r_run J 1 (pc' := 56) (lv' := [(0, vR 40), (1, vI x1), (3, vI x3), (4, vI x4), (5, vI x5), (6, vI x6), (7, vI x7)]) (st' := [vI 0]) rfl ?_
      refine r_sub [0, 1, 2, 4, 5, 6] (lv' := [(0, vR 40), (1, vI x1), (3, vI x3), (5, vI x5), (6, vI x6), (7, vI x7)]) rfl ?_
      exact p_X12_home_56 J x1 x3 x5 x6 x7 0 σ M N hL
set_option maxHeartbeats 4000000 in
set_option maxRecDepth 100000 in
theorem p_X12_home_17 {l : Launch} {E : gE} (J : J_X12_home E l) (x1 : Int32) (x3 : Int32) (x4 : Int32) (x5 : Int32) (x6 : Int32) (sx0 : Int32) (σ : gS) (M : gM) (N : gN) (hL : g_layM σ) : g_H E 0 0 17 [(0, vR 40), (1, vI x1), (3, vI x3), (4, vI x4), (5, vI x5), (6, vI x6)] [vI sx0] (σ, M, N) (b_X12_home_17 x1 x3 x4 x5 x6 sx0 σ M) (eVM σ N) := by
  unfold b_X12_home_17
  refine r_run J 2 (pc' := 20) (lv' := [(7, vI sx0), (0, vR 40), (1, vI x1), (3, vI x3), (4, vI x4), (5, vI x5), (6, vI x6)]) (st' := [vI x1]) rfl ?_
  refine r_if_le J (tgt := 28) rfl (by decide) (fun c20 => ?_) (fun c20 => ?_)
  · refine r_run J 1 (pc' := 25) (lv' := [(7, vI sx0), (0, vR 40), (1, vI x1), (3, vI x3), (4, vI x4), (5, vI x5), (6, vI x6)]) (st' := [vI sx0]) rfl ?_
    refine r_if_eq J (tgt := 39) rfl (by decide) (fun c25 => ?_) (fun c25 => ?_)
    · exact r_vret J rfl rfl rfl (by decide) (by decide)
    · refine r_sub [1, 2, 3, 4, 5, 6, 0] (lv' := [(0, vR 40), (1, vI x1), (3, vI x3), (4, vI x4), (5, vI x5), (6, vI x6), (7, vI sx0)]) rfl ?_
      exact p_X12_home_28 J x1 x3 x4 x5 x6 sx0 σ M N hL
  · refine r_sub [1, 2, 3, 4, 5, 6, 0] (lv' := [(0, vR 40), (1, vI x1), (3, vI x3), (4, vI x4), (5, vI x5), (6, vI x6), (7, vI sx0)]) rfl ?_
    exact p_X12_home_28 J x1 x3 x4 x5 x6 sx0 σ M N hL
set_option maxHeartbeats 4000000 in
set_option maxRecDepth 100000 in
theorem p_X12_home_0 {l : Launch} {E : gE} (J : J_X12_home E l) (x1 : Int32) (x2 : Int32) (x3 : Int32) (x4 : Int32) (x5 : Int32) (x6 : Int32) (σ : gS) (M : gM) (N : gN) (hL : g_layM σ) : g_H E 0 0 0 [(0, vR 40), (1, vI x1), (2, vI x2), (3, vI x3), (4, vI x4), (5, vI x5), (6, vI x6)] [] (σ, M, N) (b_X12_home_0 x1 x2 x3 x4 x5 x6 σ M) (eVM σ N) := by
  unfold b_X12_home_0
  refine r_run J 1 (pc' := 1) (lv' := [(0, vR 40), (1, vI x1), (2, vI x2), (3, vI x3), (4, vI x4), (5, vI x5), (6, vI x6)]) (st' := [vI x1]) rfl ?_
  refine r_if_ne J (tgt := 8) rfl (by decide) (fun c1 => ?_) (fun c1 => ?_)
  · refine r_run J 2 (pc' := 17) (lv' := [(0, vR 40), (1, vI x1), (2, vI x2), (3, vI x3), (4, vI x4), (5, vI x5), (6, vI x6)]) (st' := [vI 0]) rfl ?_
    refine r_sub [0, 1, 3, 4, 5, 6] (lv' := [(0, vR 40), (1, vI x1), (3, vI x3), (4, vI x4), (5, vI x5), (6, vI x6)]) rfl ?_
    exact p_X12_home_17 J x1 x3 x4 x5 x6 0 σ M N hL
  · refine r_run J 1 (pc' := 9) (lv' := [(0, vR 40), (1, vI x1), (2, vI x2), (3, vI x3), (4, vI x4), (5, vI x5), (6, vI x6)]) (st' := [vR 40]) rfl ?_
    refine r_getR J cls12 rfl (k := 67) (t := 14) (by decide) wf_12_139 rfl rfl (ly_40 hL) (lr_40_67 hL) (fun _ => ?_)
    show g_H E 0 0 12 [(0, vR 40), (1, vI x1), (2, vI x2), (3, vI x3), (4, vI x4), (5, vI x5), (6, vI x6)] [vR 80] (σ, M, N) _ _
    refine r_run J 3 (pc' := 16) (lv' := [(0, vR 40), (1, vI x1), (2, vI x2), (3, vI x3), (4, vI x4), (5, vI x5), (6, vI x6)]) (st' := [vI ((7 : Int32) * x2), vR 80]) rfl ?_
    refine r_iald J rfl (ly_80 hL) (fun i16 => ?_)
    show g_H E 0 0 17 [(0, vR 40), (1, vI x1), (2, vI x2), (3, vI x3), (4, vI x4), (5, vI x5), (6, vI x6)] [vI (M 80 ((7 : Int32) * x2).toNatClampNeg)] (σ, M, N) _ _
    refine r_sub [0, 1, 3, 4, 5, 6] (lv' := [(0, vR 40), (1, vI x1), (3, vI x3), (4, vI x4), (5, vI x5), (6, vI x6)]) rfl ?_
    exact p_X12_home_17 J x1 x3 x4 x5 x6 (M 80 ((7 : Int32) * x2).toNatClampNeg) σ M N hL
theorem c_X12_home {l : Launch} (x1 : Int32) (x2 : Int32) (x3 : Int32) (x4 : Int32) (x5 : Int32) (x6 : Int32) (σ : gS) (M : gM) (N : gN) (hL : g_layM σ) (r : gM) (h : f_X12_home x1 x2 x3 x4 x5 x6 σ M = some r) : g_Ct l yX12_home cX12_home 11 none 1 0 0 [vR 40, vI x1, vI x2, vI x3, vI x4, vI x5, vI x6] (σ, M, N) (eVM σ N r) :=
  g_Ct.of tb_X12_home (by decide +kernel) tk_X12_home (Nat.le_of_ble_eq_true rfl) (fun E J => p_X12_home_0 J x1 x2 x3 x4 x5 x6 σ M N hL r h)
