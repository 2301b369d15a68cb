def tb_X12_settle : gT := [(0, .aload_n 0, 1, 0), (1, .iload_n 1, 1, 0), (2, .invokevirtual 198, 3, 0), (5, .ifCond .eq 12, 3, 0), (8, .iload_n 2, 1, 0), (9, .iconst 0, 1, 0), (10, .iconst 1, 1, 1), (11, .invokestatic 160, 3, 0), (14, .ifCond .ne 5, 3, 0), (17, .iconst (-1), 1, (-1)), (18, .ireturn, 1, 0), (19, .aload_n 0, 1, 0), (20, .iload_n 1, 1, 0), (21, .invokevirtual 227, 3, 0), (24, .aload_n 0, 1, 0), (25, .iload_n 1, 1, 0), (26, .invokevirtual 215, 3, 0), (29, .istore_n 3, 1, 0), (30, .aload_n 0, 1, 0), (31, .getfield 51, 3, 0), (34, .iload_n 1, 1, 0), (35, .iaload, 1, 0), (36, .istore 4, 2, 0), (38, .iconst 0, 1, 0), (39, .istore 5, 2, 0), (41, .iload 5, 2, 0), (43, .sipush 1024, 3, 1024), (46, .if_icmp .ge 34, 3, 0), (49, .aload_n 0, 1, 0), (50, .getfield 96, 3, 0), (53, .sipush 1024, 3, 1024), (56, .iload 4, 2, 0), (58, .imul, 1, 0), (59, .iload 5, 2, 0), (61, .iadd, 1, 0), (62, .iload 5, 2, 0), (64, .ifCond .ne 7, 3, 0), (67, .iconst 0, 1, 0), (68, .goto 5, 3, 0), (71, .ldc 231, 2, 0), (73, .iastore, 1, 0), (74, .iinc 5 1, 3, 1), (77, .goto (-36), 3, 0), (80, .iload 4, 2, 0), (82, .iconst 1, 1, 1), (83, .isub, 1, 0), (84, .istore 5, 2, 0), (86, .iload 5, 2, 0), (88, .ifCond .lt 159, 3, 0), (91, .iconst 0, 1, 0), (92, .istore 6, 2, 0), (94, .iload 6, 2, 0), (96, .sipush 1024, 3, 1024), (99, .if_icmp .ge 142, 3, 0), (102, .ldc 231, 2, 0), (104, .istore 7, 2, 0), (106, .iconst 0, 1, 0), (107, .istore 8, 2, 0), (109, .iload 8, 2, 0), (111, .aload_n 0, 1, 0), (112, .getfield 93, 3, 0), (115, .iload 5, 2, 0), (117, .iaload, 1, 0), (118, .if_icmp .ge 101, 3, 0), (121, .aload_n 0, 1, 0), (122, .getfield 90, 3, 0), (125, .bipush 64, 2, 64), (127, .iload 5, 2, 0), (129, .imul, 1, 0), (130, .iload 8, 2, 0), (132, .iadd, 1, 0), (133, .iaload, 1, 0), (134, .istore 9, 2, 0), (136, .iload 9, 2, 0), (138, .iload 6, 2, 0), (140, .iconst (-1), 1, (-1)), (141, .ixor, 1, 0), (142, .iand, 1, 0), (143, .ifCond .eq 6, 3, 0), (146, .goto 67, 3, 0), (149, .aload_n 0, 1, 0), (150, .getfield 96, 3, 0), (153, .sipush 1024, 3, 1024), (156, .iload 5, 2, 0), (158, .iconst 1, 1, 1), (159, .iadd, 1, 0), (160, .imul, 1, 0), (161, .iload 6, 2, 0), (163, .iload 9, 2, 0), (165, .iconst (-1), 1, (-1)), (166, .ixor, 1, 0), (167, .iand, 1, 0), (168, .iadd, 1, 0), (169, .iaload, 1, 0), (170, .istore 10, 2, 0), (172, .iload 10, 2, 0), (174, .ldc 231, 2, 0), (176, .if_icmp .ne 6, 3, 0), (179, .goto 34, 3, 0), (182, .iload 10, 2, 0), (184, .aload_n 0, 1, 0), (185, .iload_n 1, 1, 0), (186, .iload 5, 2, 0), (188, .iload 9, 2, 0), (190, .iload_n 2, 1, 0), (191, .invokevirtual 232, 3, 0), (194, .iadd, 1, 0), (195, .istore 11, 2, 0), (197, .iload 11, 2, 0), (199, .iload 7, 2, 0), (201, .if_icmp .ge 8, 3, 0), (204, .iload 11, 2, 0), (206, .goto 5, 3, 0), (209, .iload 7, 2, 0), (211, .istore 7, 2, 0), (213, .iinc 8 1, 3, 1), (216, .goto (-107), 3, 0), (219, .aload_n 0, 1, 0), (220, .getfield 96, 3, 0), (223, .sipush 1024, 3, 1024), (226, .iload 5, 2, 0), (228, .imul, 1, 0), (229, .iload 6, 2, 0), (231, .iadd, 1, 0), (232, .iload 7, 2, 0), (234, .iastore, 1, 0), (235, .iinc 6 1, 3, 1), (238, .goto (-144), 3, 0), (241, .iinc 5 (-1), 3, (-1)), (244, .goto (-158), 3, 0), (247, .aload_n 0, 1, 0), (248, .getfield 96, 3, 0), (251, .iload_n 3, 1, 0), (252, .iaload, 1, 0), (253, .ldc 231, 2, 0), (255, .if_icmp .ne 5, 3, 0), (258, .iconst (-1), 1, (-1)), (259, .ireturn, 1, 0), (260, .aload_n 0, 1, 0), (261, .iload_n 1, 1, 0), (262, .iload_n 2, 1, 0), (263, .iload_n 3, 1, 0), (264, .invokevirtual 236, 3, 0), (267, .ireturn, 1, 0)]
set_option maxRecDepth 100000 in
theorem tk_X12_settle : g_okT cX12_settle tb_X12_settle = true := by decide +kernel
abbrev J_X12_settle (E : gE) (l : Launch) : Prop := g_J E cX12_settle RX12 "settle" (some .int) 12 tb_X12_settle 5 0 0 l
set_option maxHeartbeats 4000000 in
set_option maxRecDepth 100000 in
theorem p_X12_settle_213 {l : Launch} {E : gE} (J : J_X12_settle E l) {k86 : Int32 → Int32 → Int32 → Int32 → gS → gM → Option (Int32 × gM)} (H86 : ∀ (x1 : Int32) (x2 : Int32) (x3 : Int32) (x5 : Int32) (σ : gS) (M : gM) (N : gN) (_ : g_layM σ), g_H E 0 0 86 [(0, vR 40), (1, vI x1), (2, vI x2), (3, vI x3), (5, vI x5)] [] (σ, M, N) (k86 x1 x2 x3 x5 σ M) (eIM σ N)) {k94 : Int32 → Int32 → Int32 → Int32 → Int32 → gS → gM → Option (Int32 × gM)} (H94 : ∀ (x1 : Int32) (x2 : Int32) (x3 : Int32) (x5 : Int32) (x6 : Int32) (σ : gS) (M : gM) (N : gN) (_ : g_layM σ), g_H E 0 0 94 [(0, vR 40), (1, vI x1), (2, vI x2), (3, vI x3), (5, vI x5), (6, vI x6)] [] (σ, M, N) (k94 x1 x2 x3 x5 x6 σ M) (eIM σ N)) {k109 : Int32 → Int32 → Int32 → Int32 → Int32 → Int32 → Int32 → gS → gM → Option (Int32 × gM)} (H109 : ∀ (x1 : Int32) (x2 : Int32) (x3 : Int32) (x5 : Int32) (x6 : Int32) (x7 : Int32) (x8 : Int32) (σ : gS) (M : gM) (N : gN) (_ : g_layM σ), g_H E 0 0 109 [(0, vR 40), (1, vI x1), (2, vI x2), (3, vI x3), (5, vI x5), (6, vI x6), (7, vI x7), (8, vI x8)] [] (σ, M, N) (k109 x1 x2 x3 x5 x6 x7 x8 σ M) (eIM σ N)) (x1 : Int32) (x2 : Int32) (x3 : Int32) (x5 : Int32) (x6 : Int32) (x7 : Int32) (x8 : Int32) (σ : gS) (M : gM) (N : gN) (hL : g_layM σ) : g_H E 0 0 213 [(0, vR 40), (1, vI x1), (2, vI x2), (3, vI x3), (5, vI x5), (6, vI x6), (7, vI x7), (8, vI x8)] [] (σ, M, N) (b_X12_settle_213 k86 k94 k109 x1 x2 x3 x5 x6 x7 x8 σ M) (eIM σ N) := by
  unfold b_X12_settle_213
  refine r_run J 2 (pc' := 109) (lv' := [(8, vI (x8 + 1)), (0, vR 40), (1, vI x1), (2, vI x2), (3, vI x3), (5, vI x5), (6, vI x6), (7, vI x7)]) (st' := []) rfl ?_
  refine r_sub [1, 2, 3, 4, 5, 6, 7, 0] (lv' := [(0, vR 40), (1, vI x1), (2, vI x2), (3, vI x3), (5, vI x5), (6, vI x6), (7, vI x7), (8, vI (x8 + 1))]) rfl ?_
  exact H109 x1 x2 x3 x5 x6 x7 (x8 + 1) σ M N hL
set_option maxHeartbeats 4000000 in
set_option maxRecDepth 100000 in
theorem p_X12_settle_211 {l : Launch} {E : gE} (J : J_X12_settle E l) {k86 : Int32 → Int32 → Int32 → Int32 → gS → gM → Option (Int32 × gM)} (H86 : ∀ (x1 : Int32) (x2 : Int32) (x3 : Int32) (x5 : Int32) (σ : gS) (M : gM) (N : gN) (_ : g_layM σ), g_H E 0 0 86 [(0, vR 40), (1, vI x1), (2, vI x2), (3, vI x3), (5, vI x5)] [] (σ, M, N) (k86 x1 x2 x3 x5 σ M) (eIM σ N)) {k94 : Int32 → Int32 → Int32 → Int32 → Int32 → gS → gM → Option (Int32 × gM)} (H94 : ∀ (x1 : Int32) (x2 : Int32) (x3 : Int32) (x5 : Int32) (x6 : Int32) (σ : gS) (M : gM) (N : gN) (_ : g_layM σ), g_H E 0 0 94 [(0, vR 40), (1, vI x1), (2, vI x2), (3, vI x3), (5, vI x5), (6, vI x6)] [] (σ, M, N) (k94 x1 x2 x3 x5 x6 σ M) (eIM σ N)) {k109 : Int32 → Int32 → Int32 → Int32 → Int32 → Int32 → Int32 → gS → gM → Option (Int32 × gM)} (H109 : ∀ (x1 : Int32) (x2 : Int32) (x3 : Int32) (x5 : Int32) (x6 : Int32) (x7 : Int32) (x8 : Int32) (σ : gS) (M : gM) (N : gN) (_ : g_layM σ), g_H E 0 0 109 [(0, vR 40), (1, vI x1), (2, vI x2), (3, vI x3), (5, vI x5), (6, vI x6), (7, vI x7), (8, vI x8)] [] (σ, M, N) (k109 x1 x2 x3 x5 x6 x7 x8 σ M) (eIM σ N)) (x1 : Int32) (x2 : Int32) (x3 : Int32) (x5 : Int32) (x6 : Int32) (x8 : Int32) (sx0 : Int32) (σ : gS) (M : gM) (N : gN) (hL : g_layM σ) : g_H E 0 0 211 [(0, vR 40), (1, vI x1), (2, vI x2), (3, vI x3), (5, vI x5), (6, vI x6), (8, vI x8)] [vI sx0] (σ, M, N) (b_X12_settle_211 k86 k94 k109 x1 x2 x3 x5 x6 x8 sx0 σ M) (eIM σ N) := by
  unfold b_X12_settle_211
  refine r_run J 1 (pc' := 213) (lv' := [(7, vI sx0), (0, vR 40), (1, vI x1), (2, vI x2), (3, vI x3), (5, vI x5), (6, vI x6), (8, vI x8)]) (st' := []) rfl ?_
  refine r_sub [1, 2, 3, 4, 5, 6, 0, 7] (lv' := [(0, vR 40), (1, vI x1), (2, vI x2), (3, vI x3), (5, vI x5), (6, vI x6), (7, vI sx0), (8, vI x8)]) rfl ?_
  exact p_X12_settle_213 J H86 H94 H109 x1 x2 x3 x5 x6 sx0 x8 σ M N hL
set_option maxHeartbeats 4000000 in
set_option maxRecDepth 100000 in
theorem p_X12_settle_109 {l : Launch} {E : gE} (J : J_X12_settle E l) {k86 : Int32 → Int32 → Int32 → Int32 → gS → gM → Option (Int32 × gM)} (H86 : ∀ (x1 : Int32) (x2 : Int32) (x3 : Int32) (x5 : Int32) (σ : gS) (M : gM) (N : gN) (_ : g_layM σ), g_H E 0 0 86 [(0, vR 40), (1, vI x1), (2, vI x2), (3, vI x3), (5, vI x5)] [] (σ, M, N) (k86 x1 x2 x3 x5 σ M) (eIM σ N)) {k94 : Int32 → Int32 → Int32 → Int32 → Int32 → gS → gM → Option (Int32 × gM)} (H94 : ∀ (x1 : Int32) (x2 : Int32) (x3 : Int32) (x5 : Int32) (x6 : Int32) (σ : gS) (M : gM) (N : gN) (_ : g_layM σ), g_H E 0 0 94 [(0, vR 40), (1, vI x1), (2, vI x2), (3, vI x3), (5, vI x5), (6, vI x6)] [] (σ, M, N) (k94 x1 x2 x3 x5 x6 σ M) (eIM σ N)) : ∀ (n : Nat) (x1 : Int32) (x2 : Int32) (x3 : Int32) (x5 : Int32) (x6 : Int32) (x7 : Int32) (x8 : Int32) (σ : gS) (M : gM) (N : gN) (hL : g_layM σ), g_H E 0 0 109 [(0, vR 40), (1, vI x1), (2, vI x2), (3, vI x3), (5, vI x5), (6, vI x6), (7, vI x7), (8, vI x8)] [] (σ, M, N) (l_X12_settle_109 k86 k94 n x1 x2 x3 x5 x6 x7 x8 σ M) (eIM σ N) := by
  intro n
  induction n with
  | zero => intros; exact h_none
  | succ n ih =>
    intro x1 x2 x3 x5 x6 x7 x8 σ M N hL
    rw [l_X12_settle_109]
    refine r_run J 2 (pc' := 112) (lv' := [(0, vR 40), (1, vI x1), (2, vI x2), (3, vI x3), (5, vI x5), (6, vI x6), (7, vI x7), (8, vI x8)]) (st' := [vR 40, vI x8]) rfl ?_
    refine r_getR J cls12 rfl (k := 35) (t := 14) (by decide) wf_12_93 rfl rfl (ly_40 hL) (lr_40_35 hL) (fun _ => ?_)
    show g_H E 0 0 115 [(0, vR 40), (1, vI x1), (2, vI x2), (3, vI x3), (5, vI x5), (6, vI x6), (7, vI x7), (8, vI x8)] [vR 66, vI x8] (σ, M, N) _ _
    refine r_run J 1 (pc' := 117) (lv' := [(0, vR 40), (1, vI x1), (2, vI x2), (3, vI x3), (5, vI x5), (6, vI x6), (7, vI x7), (8, vI x8)]) (st' := [vI x5, vR 66, vI x8]) rfl ?_
    refine r_iald J rfl (ly_66 hL) (fun i117 => ?_)
    show g_H E 0 0 118 [(0, vR 40), (1, vI x1), (2, vI x2), (3, vI x3), (5, vI x5), (6, vI x6), (7, vI x7), (8, vI x8)] [vI (M 66 x5.toNatClampNeg), vI x8] (σ, M, N) _ _
    refine r_icmp_ge J (tgt := 219) rfl (by decide) (fun c118 => ?_) (fun c118 => ?_)
    · refine r_run J 1 (pc' := 122) (lv' := [(0, vR 40), (1, vI x1), (2, vI x2), (3, vI x3), (5, vI x5), (6, vI x6), (7, vI x7), (8, vI x8)]) (st' := [vR 40]) rfl ?_
      refine r_getR J cls12 rfl (k := 34) (t := 14) (by decide) wf_12_90 rfl rfl (ly_40 hL) (lr_40_34 hL) (fun _ => ?_)
      show g_H E 0 0 125 [(0, vR 40), (1, vI x1), (2, vI x2), (3, vI x3), (5, vI x5), (6, vI x6), (7, vI x7), (8, vI x8)] [vR 65] (σ, M, N) _ _
      refine r_run J 5 (pc' := 133) (lv' := [(0, vR 40), (1, vI x1), (2, vI x2), (3, vI x3), (5, vI x5), (6, vI x6), (7, vI x7), (8, vI x8)]) (st' := [vI (((64 : Int32) * x5) + x8), vR 65]) rfl ?_
      refine r_iald J rfl (ly_65 hL) (fun i133 => ?_)
      show g_H E 0 0 134 [(0, vR 40), (1, vI x1), (2, vI x2), (3, vI x3), (5, vI x5), (6, vI x6), (7, vI x7), (8, vI x8)] [vI (M 65 (((64 : Int32) * x5) + x8).toNatClampNeg)] (σ, M, N) _ _
      refine r_run J 6 (pc' := 143) (lv' := [(9, vI (M 65 (((64 : Int32) * x5) + x8).toNatClampNeg)), (0, vR 40), (1, vI x1), (2, vI x2), (3, vI x3), (5, vI x5), (6, vI x6), (7, vI x7), (8, vI x8)]) (st' := [vI ((M 65 (((64 : Int32) * x5) + x8).toNatClampNeg) &&& (x6 ^^^ (-1 : Int32)))]) rfl ?_
      refine r_if_eq J (tgt := 149) rfl (by decide) (fun c143 => ?_) (fun c143 => ?_)
      · refine r_run J 1 (pc' := 150) (lv' := [(9, vI (M 65 (((64 : Int32) * x5) + x8).toNatClampNeg)), (0, vR 40), (1, vI x1), (2, vI x2), (3, vI x3), (5, vI x5), (6, vI x6), (7, vI x7), (8, vI x8)]) (st' := [vR 40]) rfl ?_
        refine r_getR J cls12 rfl (k := 36) (t := 14) (by decide) wf_12_96 rfl rfl (ly_40 hL) (lr_40_36 hL) (fun _ => ?_)
        show g_H E 0 0 153 [(9, vI (M 65 (((64 : Int32) * x5) + x8).toNatClampNeg)), (0, vR 40), (1, vI x1), (2, vI x2), (3, vI x3), (5, vI x5), (6, vI x6), (7, vI x7), (8, vI x8)] [vR 67] (σ, M, N) _ _
        refine r_run J 11 (pc' := 169) (lv' := [(9, vI (M 65 (((64 : Int32) * x5) + x8).toNatClampNeg)), (0, vR 40), (1, vI x1), (2, vI x2), (3, vI x3), (5, vI x5), (6, vI x6), (7, vI x7), (8, vI x8)]) (st' := [vI (((1024 : Int32) * (x5 + (1 : Int32))) + (x6 &&& ((M 65 (((64 : Int32) * x5) + x8).toNatClampNeg) ^^^ (-1 : Int32)))), vR 67]) rfl ?_
        refine r_iald J rfl (ly_67 hL) (fun i169 => ?_)
        show g_H E 0 0 170 [(9, vI (M 65 (((64 : Int32) * x5) + x8).toNatClampNeg)), (0, vR 40), (1, vI x1), (2, vI x2), (3, vI x3), (5, vI x5), (6, vI x6), (7, vI x7), (8, vI x8)] [vI (M 67 (((1024 : Int32) * (x5 + (1 : Int32))) + (x6 &&& ((M 65 (((64 : Int32) * x5) + x8).toNatClampNeg) ^^^ (-1 : Int32)))).toNatClampNeg)] (σ, M, N) _ _
        refine r_run J 2 (pc' := 174) (lv' := [(10, vI (M 67 (((1024 : Int32) * (x5 + (1 : Int32))) + (x6 &&& ((M 65 (((64 : Int32) * x5) + x8).toNatClampNeg) ^^^ (-1 : Int32)))).toNatClampNeg)), (9, vI (M 65 (((64 : Int32) * x5) + x8).toNatClampNeg)), (0, vR 40), (1, vI x1), (2, vI x2), (3, vI x3), (5, vI x5), (6, vI x6), (7, vI x7), (8, vI x8)]) (st' := [vI (M 67 (((1024 : Int32) * (x5 + (1 : Int32))) + (x6 &&& ((M 65 (((64 : Int32) * x5) + x8).toNatClampNeg) ^^^ (-1 : Int32)))).toNatClampNeg)]) rfl ?_
        refine r_ldc J rfl wc_12_231 ?_
        refine r_icmp_ne J (tgt := 182) rfl (by decide) (fun c176 => ?_) (fun c176 => ?_)
        · refine r_run J 1 (pc' := 213) (lv' := [(10, vI (M 67 (((1024 : Int32) * (x5 + (1 : Int32))) + (x6 &&& ((M 65 (((64 : Int32) * x5) + x8).toNatClampNeg) ^^^ (-1 : Int32)))).toNatClampNeg)), (9, vI (M 65 (((64 : Int32) * x5) + x8).toNatClampNeg)), (0, vR 40), (1, vI x1), (2, vI x2), (3, vI x3), (5, vI x5), (6, vI x6), (7, vI x7), (8, vI x8)]) (st' := []) rfl ?_
          refine r_sub [2, 3, 4, 5, 6, 7, 8, 9] (lv' := [(0, vR 40), (1, vI x1), (2, vI x2), (3, vI x3), (5, vI x5), (6, vI x6), (7, vI x7), (8, vI x8)]) rfl ?_
          exact p_X12_settle_213 J H86 H94 ih x1 x2 x3 x5 x6 x7 x8 σ M N hL
        · refine r_run J 6 (pc' := 191) (lv' := [(10, vI (M 67 (((1024 : Int32) * (x5 + (1 : Int32))) + (x6 &&& ((M 65 (((64 : Int32) * x5) + x8).toNatClampNeg) ^^^ (-1 : Int32)))).toNatClampNeg)), (9, vI (M 65 (((64 : Int32) * x5) + x8).toNatClampNeg)), (0, vR 40), (1, vI x1), (2, vI x2), (3, vI x3), (5, vI x5), (6, vI x6), (7, vI x7), (8, vI x8)]) (st' := [vI x2, vI (M 65 (((64 : Int32) * x5) + x8).toNatClampNeg), vI x5, vI x1, vR 40, vI (M 67 (((1024 : Int32) * (x5 + (1 : Int32))) + (x6 &&& ((M 65 (((64 : Int32) * x5) + x8).toNatClampNeg) ^^^ (-1 : Int32)))).toNatClampNeg)]) rfl ?_
          refine r_callV J (As := [vI x1, vI x5, vI (M 65 (((64 : Int32) * x5) + x8).toNatClampNeg), vI x2]) (st := [vI (M 67 (((1024 : Int32) * (x5 + (1 : Int32))) + (x6 &&& ((M 65 (((64 : Int32) * x5) + x8).toNatClampNeg) ^^^ (-1 : Int32)))).toNatClampNeg)]) (fun r hr => c_X12_weight x1 x5 (M 65 (((64 : Int32) * x5) + x8).toNatClampNeg) x2 σ M N hL r hr) cls12 (ly_40 hL) wm_12_232 wy_X12_weight wd_X12_weight ⟨by decide, by decide, by decide, by decide, Nat.le_of_ble_eq_true rfl⟩ rfl rfl (fun q191 hq191 => ?_)
          show g_H E 0 0 194 [(10, vI (M 67 (((1024 : Int32) * (x5 + (1 : Int32))) + (x6 &&& ((M 65 (((64 : Int32) * x5) + x8).toNatClampNeg) ^^^ (-1 : Int32)))).toNatClampNeg)), (9, vI (M 65 (((64 : Int32) * x5) + x8).toNatClampNeg)), (0, vR 40), (1, vI x1), (2, vI x2), (3, vI x3), (5, vI x5), (6, vI x6), (7, vI x7), (8, vI x8)] [vI q191, vI (M 67 (((1024 : Int32) * (x5 + (1 : Int32))) + (x6 &&& ((M 65 (((64 : Int32) * x5) + x8).toNatClampNeg) ^^^ (-1 : Int32)))).toNatClampNeg)] (σ, M, N) _ _
          refine r_run J 4 (pc' := 201) (lv' := [(11, vI ((M 67 (((1024 : Int32) * (x5 + (1 : Int32))) + (x6 &&& ((M 65 (((64 : Int32) * x5) + x8).toNatClampNeg) ^^^ (-1 : Int32)))).toNatClampNeg) + q191)), (10, vI (M 67 (((1024 : Int32) * (x5 + (1 : Int32))) + (x6 &&& ((M 65 (((64 : Int32) * x5) + x8).toNatClampNeg) ^^^ (-1 : Int32)))).toNatClampNeg)), (9, vI (M 65 (((64 : Int32) * x5) + x8).toNatClampNeg)), (0, vR 40), (1, vI x1), (2, vI x2), (3, vI x3), (5, vI x5), (6, vI x6), (7, vI x7), (8, vI x8)]) (st' := [vI x7, vI ((M 67 (((1024 : Int32) * (x5 + (1 : Int32))) + (x6 &&& ((M 65 (((64 : Int32) * x5) + x8).toNatClampNeg) ^^^ (-1 : Int32)))).toNatClampNeg) + q191)]) rfl ?_
          refine r_icmp_ge J (tgt := 209) rfl (by decide) (fun c201 => ?_) (fun c201 => ?_)
          · refine r_run J 2 (pc' := 211) (lv' := [(11, vI ((M 67 (((1024 : Int32) * (x5 + (1 : Int32))) + (x6 &&& ((M 65 (((64 : Int32) * x5) + x8).toNatClampNeg) ^^^ (-1 : Int32)))).toNatClampNeg) + q191)), (10, vI (M 67 (((1024 : Int32) * (x5 + (1 : Int32))) + (x6 &&& ((M 65 (((64 : Int32) * x5) + x8).toNatClampNeg) ^^^ (-1 : Int32)))).toNatClampNeg)), (9, vI (M 65 (((64 : Int32) * x5) + x8).toNatClampNeg)), (0, vR 40), (1, vI x1), (2, vI x2), (3, vI x3), (5, vI x5), (6, vI x6), (7, vI x7), (8, vI x8)]) (st' := [vI ((M 67 (((1024 : Int32) * (x5 + (1 : Int32))) + (x6 &&& ((M 65 (((64 : Int32) * x5) + x8).toNatClampNeg) ^^^ (-1 : Int32)))).toNatClampNeg) + q191)]) rfl ?_
            refine r_sub [3, 4, 5, 6, 7, 8, 10] (lv' := [(0, vR 40), (1, vI x1), (2, vI x2), (3, vI x3), (5, vI x5), (6, vI x6), (8, vI x8)]) rfl ?_
            exact p_X12_settle_211 J H86 H94 ih x1 x2 x3 x5 x6 x8 ((M 67 (((1024 : Int32) * (x5 + (1 : Int32))) + (x6 &&& ((M 65 (((64 : Int32) * x5) + x8).toNatClampNeg) ^^^ (-1 : Int32)))).toNatClampNeg) + q191) σ M N hL
          · refine r_run J 1 (pc' := 211) (lv' := [(11, vI ((M 67 (((1024 : Int32) * (x5 + (1 : Int32))) + (x6 &&& ((M 65 (((64 : Int32) * x5) + x8).toNatClampNeg) ^^^ (-1 : Int32)))).toNatClampNeg) + q191)), (10, vI (M 67 (((1024 : Int32) * (x5 + (1 : Int32))) + (x6 &&& ((M 65 (((64 : Int32) * x5) + x8).toNatClampNeg) ^^^ (-1 : Int32)))).toNatClampNeg)), (9, vI (M 65 (((64 : Int32) * x5) + x8).toNatClampNeg)), (0, vR 40), (1, vI x1), (2, vI x2), (3, vI x3), (5, vI x5), (6, vI x6), (7, vI x7), (8, vI x8)]) (st' := [vI x7]) rfl ?_
            refine r_sub [3, 4, 5, 6, 7, 8, 10] (lv' := [(0, vR 40), (1, vI x1), (2, vI x2), (3, vI x3), (5, vI x5), (6, vI x6), (8, vI x8)]) rfl ?_
            exact p_X12_settle_211 J H86 H94 ih x1 x2 x3 x5 x6 x8 x7 σ M N hL
      · refine r_run J 1 (pc' := 213) (lv' := [(9, vI (M 65 (((64 : Int32) * x5) + x8).toNatClampNeg)), (0, vR 40), (1, vI x1), (2, vI x2), (3, vI x3), (5, vI x5), (6, vI x6), (7, vI x7), (8, vI x8)]) (st' := []) rfl ?_
        refine r_sub [1, 2, 3, 4, 5, 6, 7, 8] (lv' := [(0, vR 40), (1, vI x1), (2, vI x2), (3, vI x3), (5, vI x5), (6, vI x6), (7, vI x7), (8, vI x8)]) rfl ?_
        exact p_X12_settle_213 J H86 H94 ih x1 x2 x3 x5 x6 x7 x8 σ M N hL
    · refine r_run J 1 (pc' := 220) (lv' := [(0, vR 40), (1, vI x1), (2, vI x2), (3, vI x3), (5, vI x5), (6, vI x6), (7, vI x7), (8, vI x8)]) (st' := [vR 40]) rfl ?_
      refine r_getR J cls12 rfl (k := 36) (t := 14) (by decide) wf_12_96 rfl rfl (ly_40 hL) (lr_40_36 hL) (fun _ => ?_)
      show g_H E 0 0 223 [(0, vR 40), (1, vI x1), (2, vI x2), (3, vI x3), (5, vI x5), (6, vI x6), (7, vI x7), (8, vI x8)] [vR 67] (σ, M, N) _ _
      refine r_run J 6 (pc' := 234) (lv' := [(0, vR 40), (1, vI x1), (2, vI x2), (3, vI x3), (5, vI x5), (6, vI x6), (7, vI x7), (8, vI x8)]) (st' := [vI x7, vI (((1024 : Int32) * x5) + x6), vR 67]) rfl ?_
      refine r_iast J rfl (ly_67 hL) (fun i234 => ?_)
      show g_H E 0 0 235 [(0, vR 40), (1, vI x1), (2, vI x2), (3, vI x3), (5, vI x5), (6, vI x6), (7, vI x7), (8, vI x8)] [] (σ, (g_up M 67 ((((1024 : Int32) * x5) + x6).toNatClampNeg) x7), N) _ _
      refine r_run J 2 (pc' := 94) (lv' := [(6, vI (x6 + 1)), (0, vR 40), (1, vI x1), (2, vI x2), (3, vI x3), (5, vI x5), (7, vI x7), (8, vI x8)]) (st' := []) rfl ?_
      refine r_sub [1, 2, 3, 4, 5, 0] (lv' := [(0, vR 40), (1, vI x1), (2, vI x2), (3, vI x3), (5, vI x5), (6, vI (x6 + 1))]) rfl ?_
      exact H94 x1 x2 x3 x5 (x6 + 1) σ (g_up M 67 ((((1024 : Int32) * x5) + x6).toNatClampNeg) x7) N hL
set_option maxHeartbeats 4000000 in
set_option maxRecDepth 100000 in
theorem p_X12_settle_94 {l : Launch} {E : gE} (J : J_X12_settle E l) {k86 : Int32 → Int32 → Int32 → Int32 → gS → gM → Option (Int32 × gM)} (H86 : ∀ (x1 : Int32) (x2 : Int32) (x3 : Int32) (x5 : Int32) (σ : gS) (M : gM) (N : gN) (_ : g_layM σ), g_H E 0 0 86 [(0, vR 40), (1, vI x1), (2, vI x2), (3, vI x3), (5, vI x5)] [] (σ, M, N) (k86 x1 x2 x3 x5 σ M) (eIM σ N)) : ∀ (n : Nat) (x1 : Int32) (x2 : Int32) (x3 : Int32) (x5 : Int32) (x6 : Int32) (σ : gS) (M : gM) (N : gN) (hL : g_layM σ), g_H E 0 0 94 [(0, vR 40), (1, vI x1), (2, vI x2), (3, vI x3), (5, vI x5), (6, vI x6)] [] (σ, M, N) (l_X12_settle_94 k86 n x1 x2 x3 x5 x6 σ M) (eIM σ N) := by
  intro n
  induction n with
  | zero => intros; exact h_none
  | succ n ih =>
    intro x1 x2 x3 x5 x6 σ M N hL
    rw [l_X12_settle_94]
    refine r_run J 2 (pc' := 99) (lv' := [(0, vR 40), (1, vI x1), (2, vI x2), (3, vI x3), (5, vI x5), (6, vI x6)]) (st' := [vI 1024, vI x6]) rfl ?_
    refine r_icmp_ge J (tgt := 241) rfl (by decide) (fun c99 => ?_) (fun c99 => ?_)
    · refine r_ldc J rfl wc_12_231 ?_
      refine r_run J 3 (pc' := 109) (lv' := [(8, vI 0), (7, vI 1073741824), (0, vR 40), (1, vI x1), (2, vI x2), (3, vI x3), (5, vI x5), (6, vI x6)]) (st' := []) rfl ?_
      refine r_sub [2, 3, 4, 5, 6, 7, 1, 0] (lv' := [(0, vR 40), (1, vI x1), (2, vI x2), (3, vI x3), (5, vI x5), (6, vI x6), (7, vI 1073741824), (8, vI 0)]) rfl ?_
      exact p_X12_settle_109 J H86 ih g_FU x1 x2 x3 x5 x6 1073741824 0 σ M N hL
    · refine r_run J 2 (pc' := 86) (lv' := [(5, vI (x5 + (-1))), (0, vR 40), (1, vI x1), (2, vI x2), (3, vI x3), (6, vI x6)]) (st' := []) rfl ?_
      refine r_sub [1, 2, 3, 4, 0] (lv' := [(0, vR 40), (1, vI x1), (2, vI x2), (3, vI x3), (5, vI (x5 + (-1)))]) rfl ?_
      exact H86 x1 x2 x3 (x5 + (-1)) σ M N hL
set_option maxHeartbeats 4000000 in
set_option maxRecDepth 100000 in
theorem p_X12_settle_86 {l : Launch} {E : gE} (J : J_X12_settle E l) : ∀ (n : Nat) (x1 : Int32) (x2 : Int32) (x3 : Int32) (x5 : Int32) (σ : gS) (M : gM) (N : gN) (hL : g_layM σ), g_H E 0 0 86 [(0, vR 40), (1, vI x1), (2, vI x2), (3, vI x3), (5, vI x5)] [] (σ, M, N) (l_X12_settle_86 n x1 x2 x3 x5 σ M) (eIM σ N) := by
  intro n
  induction n with
  | zero => intros; exact h_none
  | succ n ih =>
    intro x1 x2 x3 x5 σ M N hL
    rw [l_X12_settle_86]
    refine r_run J 1 (pc' := 88) (lv' := [(0, vR 40), (1, vI x1), (2, vI x2), (3, vI x3), (5, vI x5)]) (st' := [vI x5]) rfl ?_
    refine r_if_lt J (tgt := 247) rfl (by decide) (fun c88 => ?_) (fun c88 => ?_)
    · refine r_run J 1 (pc' := 248) (lv' := [(0, vR 40), (1, vI x1), (2, vI x2), (3, vI x3), (5, vI x5)]) (st' := [vR 40]) rfl ?_
      refine r_getR J cls12 rfl (k := 36) (t := 14) (by decide) wf_12_96 rfl rfl (ly_40 hL) (lr_40_36 hL) (fun _ => ?_)
      show g_H E 0 0 251 [(0, vR 40), (1, vI x1), (2, vI x2), (3, vI x3), (5, vI x5)] [vR 67] (σ, M, N) _ _
      refine r_run J 1 (pc' := 252) (lv' := [(0, vR 40), (1, vI x1), (2, vI x2), (3, vI x3), (5, vI x5)]) (st' := [vI x3, vR 67]) rfl ?_
      refine r_iald J rfl (ly_67 hL) (fun i252 => ?_)
      show g_H E 0 0 253 [(0, vR 40), (1, vI x1), (2, vI x2), (3, vI x3), (5, vI x5)] [vI (M 67 x3.toNatClampNeg)] (σ, M, N) _ _
      refine r_ldc J rfl wc_12_231 ?_
      refine r_icmp_ne J (tgt := 260) rfl (by decide) (fun c255 => ?_) (fun c255 => ?_)
      · refine r_run J 1 (pc' := 259) (lv' := [(0, vR 40), (1, vI x1), (2, vI x2), (3, vI x3), (5, vI x5)]) (st' := [vI (-1)]) rfl ?_
        exact r_iret J rfl rfl rfl rfl (by decide) (by decide)
      · refine r_run J 4 (pc' := 264) (lv' := [(0, vR 40), (1, vI x1), (2, vI x2), (3, vI x3), (5, vI x5)]) (st' := [vI x3, vI x2, vI x1, vR 40]) rfl ?_
        refine r_callV J (As := [vI x1, vI x2, vI x3]) (st := []) (fun r hr => c_X12_takes x1 x2 x3 σ M N hL r hr) cls12 (ly_40 hL) wm_12_236 wy_X12_takes wd_X12_takes ⟨by decide, by decide, by decide, by decide, Nat.le_of_ble_eq_true rfl⟩ rfl rfl (fun q264 hq264 => ?_)
        show g_H E 0 0 267 [(0, vR 40), (1, vI x1), (2, vI x2), (3, vI x3), (5, vI x5)] [vI q264.1] (σ, q264.2, N) _ _
        exact r_iret J rfl rfl rfl rfl (by decide) (by decide)
    · refine r_run J 2 (pc' := 94) (lv' := [(6, vI 0), (0, vR 40), (1, vI x1), (2, vI x2), (3, vI x3), (5, vI x5)]) (st' := []) rfl ?_
      refine r_sub [1, 2, 3, 4, 5, 0] (lv' := [(0, vR 40), (1, vI x1), (2, vI x2), (3, vI x3), (5, vI x5), (6, vI 0)]) rfl ?_
      exact p_X12_settle_94 J ih g_FU x1 x2 x3 x5 0 σ M N hL
set_option maxHeartbeats 4000000 in
set_option maxRecDepth 100000 in
theorem p_X12_settle_73 {l : Launch} {E : gE} (J : J_X12_settle E l) {k41 : Int32 → Int32 → Int32 → Int32 → Int32 → gS → gM → Option (Int32 × gM)} (H41 : ∀ (x1 : Int32) (x2 : Int32) (x3 : Int32) (x4 : Int32) (x5 : Int32) (σ : gS) (M : gM) (N : gN) (_ : g_layM σ), g_H E 0 0 41 [(0, vR 40), (1, vI x1), (2, vI x2), (3, vI x3), (4, vI x4), (5, vI x5)] [] (σ, M, N) (k41 x1 x2 x3 x4 x5 σ M) (eIM σ N)) (x1 : Int32) (x2 : Int32) (x3 : Int32) (x4 : Int32) (x5 : Int32) (sx0 : Int32) (sx1 : Int32) (σ : gS) (M : gM) (N : gN) (hL : g_layM σ) : g_H E 0 0 73 [(0, vR 40), (1, vI x1), (2, vI x2), (3, vI x3), (4, vI x4), (5, vI x5)] [vI sx0, vI sx1, vR 67] (σ, M, N) (b_X12_settle_73 k41 x1 x2 x3 x4 x5 sx0 sx1 σ M) (eIM σ N) := by
  unfold b_X12_settle_73
  refine r_iast J rfl (ly_67 hL) (fun i73 => ?_)
  show g_H E 0 0 74 [(0, vR 40), (1, vI x1), (2, vI x2), (3, vI x3), (4, vI x4), (5, vI x5)] [] (σ, (g_up M 67 (sx1.toNatClampNeg) sx0), N) _ _
  refine r_run J 2 (pc' := 41) (lv' := [(5, vI (x5 + 1)), (0, vR 40), (1, vI x1), (2, vI x2), (3, vI x3), (4, vI x4)]) (st' := []) rfl ?_
  refine r_sub [1, 2, 3, 4, 5, 0] (lv' := [(0, vR 40), (1, vI x1), (2, vI x2), (3, vI x3), (4, vI x4), (5, vI (x5 + 1))]) rfl ?_
  exact H41 x1 x2 x3 x4 (x5 + 1) σ (g_up M 67 (sx1.toNatClampNeg) sx0) N hL
set_option maxHeartbeats 4000000 in
set_option maxRecDepth 100000 in
theorem p_X12_settle_41 {l : Launch} {E : gE} (J : J_X12_settle E l) : ∀ (n : Nat) (x1 : Int32) (x2 : Int32) (x3 : Int32) (x4 : Int32) (x5 : Int32) (σ : gS) (M : gM) (N : gN) (hL : g_layM σ), g_H E 0 0 41 [(0, vR 40), (1, vI x1), (2, vI x2), (3, vI x3), (4, vI x4), (5, vI x5)] [] (σ, M, N) (l_X12_settle_41 n x1 x2 x3 x4 x5 σ M) (eIM σ N) := by
  intro n
  induction n with
  | zero => intros; exact h_none
  | succ n ih =>
    intro x1 x2 x3 x4 x5 σ M N hL
    rw [l_X12_settle_41]
    refine r_run J 2 (pc' := 46) (lv' := [(0, vR 40), (1, vI x1), (2, vI x2), (3, vI x3), (4, vI x4), (5, vI x5)]) (st' := [vI 1024, vI x5]) rfl ?_
    refine r_icmp_ge J (tgt := 80) rfl (by decide) (fun c46 => ?_) (fun c46 => ?_)
    · refine r_run J 1 (pc' := 50) (lv' := [(0, vR 40), (1, vI x1), (2, vI x2), (3, vI x3), (4, vI x4), (5, vI x5)]) (st' := [vR 40]) rfl ?_
      refine r_getR J cls12 rfl (k := 36) (t := 14) (by decide) wf_12_96 rfl rfl (ly_40 hL) (lr_40_36 hL) (fun _ => ?_)
      show g_H E 0 0 53 [(0, vR 40), (1, vI x1), (2, vI x2), (3, vI x3), (4, vI x4), (5, vI x5)] [vR 67] (σ, M, N) _ _
      refine r_run J 6 (pc' := 64) (lv' := [(0, vR 40), (1, vI x1), (2, vI x2), (3, vI x3), (4, vI x4), (5, vI x5)]) (st' := [vI x5, vI (((1024 : Int32) * x4) + x5), vR 67]) rfl ?_
      refine r_if_ne J (tgt := 71) rfl (by decide) (fun c64 => ?_) (fun c64 => ?_)
      · refine r_run J 2 (pc' := 73) (lv' := [(0, vR 40), (1, vI x1), (2, vI x2), (3, vI x3), (4, vI x4), (5, vI x5)]) (st' := [vI 0, vI (((1024 : Int32) * x4) + x5), vR 67]) rfl ?_
        exact p_X12_settle_73 J ih x1 x2 x3 x4 x5 0 (((1024 : Int32) * x4) + x5) σ M N hL
      · refine r_ldc J rfl wc_12_231 ?_
        exact p_X12_settle_73 J ih x1 x2 x3 x4 x5 1073741824 (((1024 : Int32) * x4) + x5) σ M N hL
    · refine r_run J 4 (pc' := 86) (lv' := [(5, vI (x4 - (1 : Int32))), (0, vR 40), (1, vI x1), (2, vI x2), (3, vI x3), (4, vI x4)]) (st' := []) rfl ?_
      refine r_sub [1, 2, 3, 4, 0] (lv' := [(0, vR 40), (1, vI x1), (2, vI x2), (3, vI x3), (5, vI (x4 - (1 : Int32)))]) rfl ?_
      exact p_X12_settle_86 J g_FU x1 x2 x3 (x4 - (1 : Int32)) σ M N hL
set_option maxHeartbeats 4000000 in
set_option maxRecDepth 100000 in
theorem p_X12_settle_0 {l : Launch} {E : gE} (J : J_X12_settle E l) (x1 : Int32) (x2 : Int32) (σ : gS) (M : gM) (N : gN) (hL : g_layM σ) : g_H E 0 0 0 [(0, vR 40), (1, vI x1), (2, vI x2)] [] (σ, M, N) (b_X12_settle_0 x1 x2 σ M) (eIM σ N) := by
  unfold b_X12_settle_0
  refine r_run J 2 (pc' := 2) (lv' := [(0, vR 40), (1, vI x1), (2, vI x2)]) (st' := [vI x1, vR 40]) rfl ?_
  refine r_callV J (As := [vI x1]) (st := []) (fun r hr => c_X12_isOpen x1 σ M N hL r hr) cls12 (ly_40 hL) wm_12_198 wy_X12_isOpen wd_X12_isOpen ⟨by decide, by decide, by decide, by decide, Nat.le_of_ble_eq_true rfl⟩ rfl rfl (fun q2 hq2 => ?_)
  show g_H E 0 0 5 [(0, vR 40), (1, vI x1), (2, vI x2)] [vI q2] (σ, M, N) _ _
  refine r_if_eq J (tgt := 17) rfl (by decide) (fun c5 => ?_) (fun c5 => ?_)
  · refine r_run J 1 (pc' := 18) (lv' := [(0, vR 40), (1, vI x1), (2, vI x2)]) (st' := [vI (-1)]) rfl ?_
    exact r_iret J rfl rfl rfl rfl (by decide) (by decide)
  · refine r_run J 3 (pc' := 11) (lv' := [(0, vR 40), (1, vI x1), (2, vI x2)]) (st' := [vI 1, vI 0, vI x2]) rfl ?_
    refine r_callS J (As := [vI x2, vI 0, vI 1]) (st := []) (fun r hr => c_X12_in x2 0 1 σ M N hL r hr) wm_12_160 wy_X12_in wd_X12_in ⟨by decide, by decide, by decide, by decide, Nat.le_of_ble_eq_true rfl⟩ rfl rfl (fun q11 hq11 => ?_)
    show g_H E 0 0 14 [(0, vR 40), (1, vI x1), (2, vI x2)] [vI q11] (σ, M, N) _ _
    refine r_if_ne J (tgt := 19) rfl (by decide) (fun c14 => ?_) (fun c14 => ?_)
    · refine r_run J 1 (pc' := 18) (lv' := [(0, vR 40), (1, vI x1), (2, vI x2)]) (st' := [vI (-1)]) rfl ?_
      exact r_iret J rfl rfl rfl rfl (by decide) (by decide)
    · refine r_run J 2 (pc' := 21) (lv' := [(0, vR 40), (1, vI x1), (2, vI x2)]) (st' := [vI x1, vR 40]) rfl ?_
      refine r_callV J (As := [vI x1]) (st := []) (fun r hr => c_X12_findSets x1 σ M N hL r hr) cls12 (ly_40 hL) wm_12_227 wy_X12_findSets wd_X12_findSets ⟨by decide, by decide, by decide, by decide, Nat.le_of_ble_eq_true rfl⟩ rfl rfl (fun q21 hq21 => ?_)
      show g_H E 0 0 24 [(0, vR 40), (1, vI x1), (2, vI x2)] [] (σ, q21, N) _ _
      refine r_run J 2 (pc' := 26) (lv' := [(0, vR 40), (1, vI x1), (2, vI x2)]) (st' := [vI x1, vR 40]) rfl ?_
      refine r_callV J (As := [vI x1]) (st := []) (fun r hr => c_X12_there x1 σ q21 N hL r hr) cls12 (ly_40 hL) wm_12_215 wy_X12_there wd_X12_there ⟨by decide, by decide, by decide, by decide, Nat.le_of_ble_eq_true rfl⟩ rfl rfl (fun q26 hq26 => ?_)
      show g_H E 0 0 29 [(0, vR 40), (1, vI x1), (2, vI x2)] [vI q26] (σ, q21, N) _ _
      refine r_run J 2 (pc' := 31) (lv' := [(3, vI q26), (0, vR 40), (1, vI x1), (2, vI x2)]) (st' := [vR 40]) rfl ?_
      refine r_getR J cls12 rfl (k := 20) (t := 14) (by decide) wf_12_51 rfl rfl (ly_40 hL) (lr_40_20 hL) (fun _ => ?_)
      show g_H E 0 0 34 [(3, vI q26), (0, vR 40), (1, vI x1), (2, vI x2)] [vR 52] (σ, q21, N) _ _
      refine r_run J 1 (pc' := 35) (lv' := [(3, vI q26), (0, vR 40), (1, vI x1), (2, vI x2)]) (st' := [vI x1, vR 52]) rfl ?_
      refine r_iald J rfl (ly_52 hL) (fun i35 => ?_)
      show g_H E 0 0 36 [(3, vI q26), (0, vR 40), (1, vI x1), (2, vI x2)] [vI (q21 52 x1.toNatClampNeg)] (σ, q21, N) _ _
      refine r_run J 3 (pc' := 41) (lv' := [(5, vI 0), (4, vI (q21 52 x1.toNatClampNeg)), (3, vI q26), (0, vR 40), (1, vI x1), (2, vI x2)]) (st' := []) rfl ?_
      refine r_sub [3, 4, 5, 2, 1, 0] (lv' := [(0, vR 40), (1, vI x1), (2, vI x2), (3, vI q26), (4, vI (q21 52 x1.toNatClampNeg)), (5, vI 0)]) rfl ?_
      exact p_X12_settle_41 J g_FU x1 x2 q26 (q21 52 x1.toNatClampNeg) 0 σ q21 N hL
theorem c_X12_settle {l : Launch} (x1 : Int32) (x2 : Int32) (σ : gS) (M : gM) (N : gN) (hL : g_layM σ) (r : Int32 × gM) (h : f_X12_settle x1 x2 σ M = some r) : g_Ct l yX12_settle cX12_settle 12 (some .int) 5 0 0 [vR 40, vI x1, vI x2] (σ, M, N) (eIM σ N r) :=
  g_Ct.of tb_X12_settle (by decide +kernel) tk_X12_settle (Nat.le_of_ble_eq_true rfl) (fun E J => p_X12_settle_0 J x1 x2 σ M N hL r h)
def tb_X12_moved : gT := [(0, .aload_n 0, 1, 0), (1, .getfield 99, 3, 0), (4, .ireturn, 1, 0)]
set_option maxRecDepth 100000 in
theorem tk_X12_moved : g_okT cX12_moved tb_X12_moved = true := by decide +kernel
abbrev J_X12_moved (E : gE) (l : Launch) : Prop := g_J E cX12_moved RX12 "moved" (some .int) 1 tb_X12_moved 1 0 0 l
set_option maxHeartbeats 4000000 in
set_option maxRecDepth 100000 in
theorem p_X12_moved_0 {l : Launch} {E : gE} (J : J_X12_moved E l) (σ : gS) (M : gM) (N : gN) (hL : g_layM σ) : g_H E 0 0 0 [(0, vR 40)] [] (σ, M, N) (b_X12_moved_0 σ M) (eI σ M N) := by
  unfold b_X12_moved_0
  refine r_run J 1 (pc' := 1) (lv' := [(0, vR 40)]) (st' := [vR 40]) rfl ?_
  refine r_getI J cls12 rfl (k := 37) (by decide) wf_12_99 rfl (ly_40 hL) ?_
  show g_H E 0 0 4 [(0, vR 40)] [vI (M 40 37)] (σ, M, N) _ _
  exact r_iret J rfl rfl rfl rfl (by decide) (by decide)
theorem c_X12_moved {l : Launch} (σ : gS) (M : gM) (N : gN) (hL : g_layM σ) (r : Int32) (h : f_X12_moved σ M = some r) : g_Ct l yX12_moved cX12_moved 1 (some .int) 1 0 0 [vR 40] (σ, M, N) (eI σ M N r) :=
  g_Ct.of tb_X12_moved (by decide +kernel) tk_X12_moved (Nat.le_of_ble_eq_true rfl) (fun E J => p_X12_moved_0 J σ M N hL r h)
def tb_X12_sizeOf : gT := [(0, .iconst 0, 1, 0), (1, .istore_n 1, 1, 0), (2, .iconst 0, 1, 0), (3, .istore_n 2, 1, 0), (4, .iload_n 2, 1, 0), (5, .bipush 10, 2, 10), (7, .if_icmp .ge 17, 3, 0), (10, .iload_n 1, 1, 0), (11, .iload_n 0, 1, 0), (12, .iload_n 2, 1, 0), (13, .ishr, 1, 0), (14, .iconst 1, 1, 1), (15, .iand, 1, 0), (16, .iadd, 1, 0), (17, .istore_n 1, 1, 0), (18, .iinc 2 1, 3, 1), (21, .goto (-17), 3, 0), (24, .iload_n 1, 1, 0), (25, .ireturn, 1, 0)]
set_option maxRecDepth 100000 in
theorem tk_X12_sizeOf : g_okT cX12_sizeOf tb_X12_sizeOf = true := by decide +kernel
abbrev J_X12_sizeOf (E : gE) (l : Launch) : Prop := g_J E cX12_sizeOf RX12 "sizeOf" (some .int) 3 tb_X12_sizeOf 1 0 0 l
set_option maxHeartbeats 4000000 in
set_option maxRecDepth 100000 in
theorem p_X12_sizeOf_4 {l : Launch} {E : gE} (J : J_X12_sizeOf E l) : ∀ (n : Nat) (x0 : Int32) (x1 : Int32) (x2 : Int32) (σ : gS) (M : gM) (N : gN) (hL : g_layM σ), g_H E 0 0 4 [(0, vI x0), (1, vI x1), (2, vI x2)] [] (σ, M, N) (l_X12_sizeOf_4 n x0 x1 x2) (eI σ M N) := by
  intro n
  induction n with
  | zero => intros; exact h_none
  | succ n ih =>
    intro x0 x1 x2 σ M N hL
    rw [l_X12_sizeOf_4]
    refine r_run J 2 (pc' := 7) (lv' := [(0, vI x0), (1, vI x1), (2, vI x2)]) (st' := [vI 10, vI x2]) rfl ?_
    refine r_icmp_ge J (tgt := 24) rfl (by decide) (fun c7 => ?_) (fun c7 => ?_)
    · refine r_run J 10 (pc' := 4) (lv' := [(2, vI (x2 + 1)), (1, vI (x1 + ((x0 >>> (x2 &&& 31)) &&& (1 : Int32)))), (0, vI x0)]) (st' := []) rfl ?_
      refine r_sub [2, 1, 0] (lv' := [(0, vI x0), (1, vI (x1 + ((x0 >>> (x2 &&& 31)) &&& (1 : Int32)))), (2, vI (x2 + 1))]) rfl ?_
      exact ih x0 (x1 + ((x0 >>> (x2 &&& 31)) &&& (1 : Int32))) (x2 + 1) σ M N hL
    · refine r_run J 1 (pc' := 25) (lv' := [(0, vI x0), (1, vI x1), (2, vI x2)]) (st' := [vI x1]) rfl ?_
      exact r_iret J rfl rfl rfl rfl (by decide) (by decide)
set_option maxHeartbeats 4000000 in
set_option maxRecDepth 100000 in
theorem p_X12_sizeOf_0 {l : Launch} {E : gE} (J : J_X12_sizeOf E l) (x0 : Int32) (σ : gS) (M : gM) (N : gN) (hL : g_layM σ) : g_H E 0 0 0 [(0, vI x0)] [] (σ, M, N) (b_X12_sizeOf_0 x0) (eI σ M N) := by
  unfold b_X12_sizeOf_0
  refine r_run J 4 (pc' := 4) (lv' := [(2, vI 0), (1, vI 0), (0, vI x0)]) (st' := []) rfl ?_
  refine r_sub [2, 1, 0] (lv' := [(0, vI x0), (1, vI 0), (2, vI 0)]) rfl ?_
  exact p_X12_sizeOf_4 J g_FU x0 0 0 σ M N hL
theorem c_X12_sizeOf {l : Launch} (x0 : Int32) (σ : gS) (M : gM) (N : gN) (hL : g_layM σ) (r : Int32) (h : f_X12_sizeOf x0 = some r) : g_Ct l yX12_sizeOf cX12_sizeOf 3 (some .int) 1 0 0 [vI x0] (σ, M, N) (eI σ M N r) :=
  g_Ct.of tb_X12_sizeOf (by decide +kernel) tk_X12_sizeOf (Nat.le_of_ble_eq_true rfl) (fun E J => p_X12_sizeOf_0 J x0 σ M N hL r h)
def tb_X12_most : gT := [(0, .aload_n 0, 1, 0), (1, .iload_n 1, 1, 0), (2, .invokevirtual 170, 3, 0), (5, .ifCond .ne 5, 3, 0), (8, .iconst (-1), 1, (-1)), (9, .ireturn, 1, 0), (10, .aload_n 0, 1, 0), (11, .iload_n 1, 1, 0), (12, .invokevirtual 227, 3, 0), (15, .aload_n 0, 1, 0), (16, .getfield 51, 3, 0), (19, .iload_n 1, 1, 0), (20, .iaload, 1, 0), (21, .istore_n 2, 1, 0), (22, .iconst 0, 1, 0), (23, .istore_n 3, 1, 0), (24, .iload_n 3, 1, 0), (25, .sipush 11264, 3, 11264), (28, .if_icmp .ge 24, 3, 0), (31, .aload_n 0, 1, 0), (32, .getfield 105, 3, 0), (35, .iload_n 3, 1, 0), (36, .iload_n 3, 1, 0), (37, .ifCond .ne 7, 3, 0), (40, .iconst 1, 1, 1), (41, .goto 4, 3, 0), (44, .iconst 0, 1, 0), (45, .bastore, 1, 0), (46, .iinc 3 1, 3, 1), (49, .goto (-25), 3, 0), (52, .iconst 0, 1, 0), (53, .istore_n 3, 1, 0), (54, .iload_n 3, 1, 0), (55, .iload_n 2, 1, 0), (56, .if_icmp .ge 112, 3, 0), (59, .iconst 0, 1, 0), (60, .istore 4, 2, 0), (62, .iload 4, 2, 0), (64, .sipush 1024, 3, 1024), (67, .if_icmp .ge 95, 3, 0), (70, .aload_n 0, 1, 0), (71, .getfield 105, 3, 0), (74, .sipush 1024, 3, 1024), (77, .iload_n 3, 1, 0), (78, .imul, 1, 0), (79, .iload 4, 2, 0), (81, .iadd, 1, 0), (82, .baload, 1, 0), (83, .ifCond .ne 6, 3, 0), (86, .goto 70, 3, 0), (89, .iconst 0, 1, 0), (90, .istore 5, 2, 0), (92, .iload 5, 2, 0), (94, .aload_n 0, 1, 0), (95, .getfield 93, 3, 0), (98, .iload_n 3, 1, 0), (99, .iaload, 1, 0), (100, .if_icmp .ge 56, 3, 0), (103, .aload_n 0, 1, 0), (104, .getfield 90, 3, 0), (107, .bipush 64, 2, 64), (109, .iload_n 3, 1, 0), (110, .imul, 1, 0), (111, .iload 5, 2, 0), (113, .iadd, 1, 0), (114, .iaload, 1, 0), (115, .iload 4, 2, 0), (117, .iand, 1, 0), (118, .ifCond .ne 32, 3, 0), (121, .aload_n 0, 1, 0), (122, .getfield 105, 3, 0), (125, .sipush 1024, 3, 1024), (128, .iload_n 3, 1, 0), (129, .iconst 1, 1, 1), (130, .iadd, 1, 0), (131, .imul, 1, 0), (132, .iload 4, 2, 0), (134, .aload_n 0, 1, 0), (135, .getfield 90, 3, 0), (138, .bipush 64, 2, 64), (140, .iload_n 3, 1, 0), (141, .imul, 1, 0), (142, .iload 5, 2, 0), (144, .iadd, 1, 0), (145, .iaload, 1, 0), (146, .ior, 1, 0), (147, .iadd, 1, 0), (148, .iconst 1, 1, 1), (149, .bastore, 1, 0), (150, .iinc 5 1, 3, 1), (153, .goto (-61), 3, 0), (156, .iinc 4 1, 3, 1), (159, .goto (-97), 3, 0), (162, .iinc 3 1, 3, 1), (165, .goto (-111), 3, 0), (168, .iconst 0, 1, 0), (169, .istore_n 3, 1, 0), (170, .iconst 0, 1, 0), (171, .istore 4, 2, 0), (173, .iload 4, 2, 0), (175, .sipush 1024, 3, 1024), (178, .if_icmp .ge 44, 3, 0), (181, .aload_n 0, 1, 0), (182, .getfield 105, 3, 0), (185, .sipush 1024, 3, 1024), (188, .iload_n 2, 1, 0), (189, .imul, 1, 0), (190, .iload 4, 2, 0), (192, .iadd, 1, 0), (193, .baload, 1, 0), (194, .ifCond .eq 20, 3, 0), (197, .iload 4, 2, 0), (199, .invokestatic 243, 3, 0), (202, .iload_n 3, 1, 0), (203, .if_icmp .le 11, 3, 0), (206, .iload 4, 2, 0), (208, .invokestatic 243, 3, 0), (211, .goto 4, 3, 0), (214, .iload_n 3, 1, 0), (215, .istore_n 3, 1, 0), (216, .iinc 4 1, 3, 1), (219, .goto (-46), 3, 0), (222, .iload_n 3, 1, 0), (223, .ireturn, 1, 0)]
set_option maxRecDepth 100000 in
theorem tk_X12_most : g_okT cX12_most tb_X12_most = true := by decide +kernel
abbrev J_X12_most (E : gE) (l : Launch) : Prop := g_J E cX12_most RX12 "most" (some .int) 6 tb_X12_most 4 0 0 l
set_option maxHeartbeats 4000000 in
set_option maxRecDepth 100000 in
theorem p_X12_most_215 {l : Launch} {E : gE} (J : J_X12_most E l) {k173 : Int32 → Int32 → Int32 → gS → gM → Option (Int32 × gM)} (H173 : ∀ (x2 : Int32) (x3 : Int32) (x4 : Int32) (σ : gS) (M : gM) (N : gN) (_ : g_layM σ), g_H E 0 0 173 [(0, vR 40), (2, vI x2), (3, vI x3), (4, vI x4)] [] (σ, M, N) (k173 x2 x3 x4 σ M) (eIM σ N)) (x2 : Int32) (x4 : Int32) (sx0 : Int32) (σ : gS) (M : gM) (N : gN) (hL : g_layM σ) : g_H E 0 0 215 [(0, vR 40), (2, vI x2), (4, vI x4)] [vI sx0] (σ, M, N) (b_X12_most_215 k173 x2 x4 sx0 σ M) (eIM σ N) := by
  unfold b_X12_most_215
  refine r_run J 3 (pc' := 173) (lv' := [(4, vI (x4 + 1)), (3, vI sx0), (0, vR 40), (2, vI x2)]) (st' := []) rfl ?_
  refine r_sub [2, 3, 1, 0] (lv' := [(0, vR 40), (2, vI x2), (3, vI sx0), (4, vI (x4 + 1))]) rfl ?_
  exact H173 x2 sx0 (x4 + 1) σ M N hL
set_option maxHeartbeats 4000000 in
set_option maxRecDepth 100000 in
theorem p_X12_most_214 {l : Launch} {E : gE} (J : J_X12_most E l) {k173 : Int32 → Int32 → Int32 → gS → gM → Option (Int32 × gM)} (H173 : ∀ (x2 : Int32) (x3 : Int32) (x4 : Int32) (σ : gS) (M : gM) (N : gN) (_ : g_layM σ), g_H E 0 0 173 [(0, vR 40), (2, vI x2), (3, vI x3), (4, vI x4)] [] (σ, M, N) (k173 x2 x3 x4 σ M) (eIM σ N)) (x2 : Int32) (x3 : Int32) (x4 : Int32) (σ : gS) (M : gM) (N : gN) (hL : g_layM σ) : g_H E 0 0 214 [(0, vR 40), (2, vI x2), (3, vI x3), (4, vI x4)] [] (σ, M, N) (b_X12_most_214 k173 x2 x3 x4 σ M) (eIM σ N) := by
  unfold b_X12_most_214
  refine r_run J 1 (pc' := 215) (lv' := [(0, vR 40), (2, vI x2), (3, vI x3), (4, vI x4)]) (st' := [vI x3]) rfl ?_
  refine r_sub [0, 1, 3] (lv' := [(0, vR 40), (2, vI x2), (4, vI x4)]) rfl ?_
  exact p_X12_most_215 J H173 x2 x4 x3 σ M N hL
set_option maxHeartbeats 4000000 in
set_option maxRecDepth 100000 in
theorem p_X12_most_173 {l : Launch} {E : gE} (J : J_X12_most E l) : ∀ (n : Nat) (x2 : Int32) (x3 : Int32) (x4 : Int32) (σ : gS) (M : gM) (N : gN) (hL : g_layM σ), g_H E 0 0 173 [(0, vR 40), (2, vI x2), (3, vI x3), (4, vI x4)] [] (σ, M, N) (l_X12_most_173 n x2 x3 x4 σ M) (eIM σ N) := by
  intro n
  induction n with
  | zero => intros; exact h_none
  | succ n ih =>
    intro x2 x3 x4 σ M N hL
    rw [l_X12_most_173]
    refine r_run J 2 (pc' := 178) (lv' := [(0, vR 40), (2, vI x2), (3, vI x3), (4, vI x4)]) (st' := [vI 1024, vI x4]) rfl ?_
    refine r_icmp_ge J (tgt := 222) rfl (by decide) (fun c178 => ?_) (fun c178 => ?_)
    · refine r_run J 1 (pc' := 182) (lv' := [(0, vR 40), (2, vI x2), (3, vI x3), (4, vI x4)]) (st' := [vR 40]) rfl ?_
      refine r_getR J cls12 rfl (k := 39) (t := 15) (by decide) wf_12_105 rfl rfl (ly_40 hL) (lr_40_39 hL) (fun _ => ?_)
      show g_H E 0 0 185 [(0, vR 40), (2, vI x2), (3, vI x3), (4, vI x4)] [vR 69] (σ, M, N) _ _
      refine r_run J 5 (pc' := 193) (lv' := [(0, vR 40), (2, vI x2), (3, vI x3), (4, vI x4)]) (st' := [vI (((1024 : Int32) * x2) + x4), vR 69]) rfl ?_
      refine r_zald J rfl (ly_69 hL) (fun i193 => ?_)
      show g_H E 0 0 194 [(0, vR 40), (2, vI x2), (3, vI x3), (4, vI x4)] [vI (M 69 (((1024 : Int32) * x2) + x4).toNatClampNeg)] (σ, M, N) _ _
      refine r_if_eq J (tgt := 214) rfl (by decide) (fun c194 => ?_) (fun c194 => ?_)
      · exact p_X12_most_214 J ih x2 x3 x4 σ M N hL
      · refine r_run J 1 (pc' := 199) (lv' := [(0, vR 40), (2, vI x2), (3, vI x3), (4, vI x4)]) (st' := [vI x4]) rfl ?_
        refine r_callS J (As := [vI x4]) (st := []) (fun r hr => c_X12_sizeOf x4 σ M N hL r hr) wm_12_243 wy_X12_sizeOf wd_X12_sizeOf ⟨by decide, by decide, by decide, by decide, Nat.le_of_ble_eq_true rfl⟩ rfl rfl (fun q199 hq199 => ?_)
        show g_H E 0 0 202 [(0, vR 40), (2, vI x2), (3, vI x3), (4, vI x4)] [vI q199] (σ, M, N) _ _
        refine r_run J 1 (pc' := 203) (lv' := [(0, vR 40), (2, vI x2), (3, vI x3), (4, vI x4)]) (st' := [vI x3, vI q199]) rfl ?_
        refine r_icmp_le J (tgt := 214) rfl (by decide) (fun c203 => ?_) (fun c203 => ?_)
        · refine r_run J 1 (pc' := 208) (lv' := [(0, vR 40), (2, vI x2), (3, vI x3), (4, vI x4)]) (st' := [vI x4]) rfl ?_
          refine r_callS J (As := [vI x4]) (st := []) (fun r hr => c_X12_sizeOf x4 σ M N hL r hr) wm_12_243 wy_X12_sizeOf wd_X12_sizeOf ⟨by decide, by decide, by decide, by decide, Nat.le_of_ble_eq_true rfl⟩ rfl rfl (fun q208 hq208 => ?_)
          show g_H E 0 0 211 [(0, vR 40), (2, vI x2), (3, vI x3), (4, vI x4)] [vI q208] (σ, M, N) _ _
          refine r_run J 1 (pc' := 215) (lv' := [(0, vR 40), (2, vI x2), (3, vI x3), (4, vI x4)]) (st' := [vI q208]) rfl ?_
          refine r_sub [0, 1, 3] (lv' := [(0, vR 40), (2, vI x2), (4, vI x4)]) rfl ?_
          exact p_X12_most_215 J ih x2 x4 q208 σ M N hL
        · exact p_X12_most_214 J ih x2 x3 x4 σ M N hL
    · refine r_run J 1 (pc' := 223) (lv' := [(0, vR 40), (2, vI x2), (3, vI x3), (4, vI x4)]) (st' := [vI x3]) rfl ?_
      exact r_iret J rfl rfl rfl rfl (by decide) (by decide)
set_option maxHeartbeats 4000000 in
set_option maxRecDepth 100000 in
theorem p_X12_most_156 {l : Launch} {E : gE} (J : J_X12_most E l) {k54 : Int32 → Int32 → gS → gM → Option (Int32 × gM)} (H54 : ∀ (x2 : Int32) (x3 : Int32) (σ : gS) (M : gM) (N : gN) (_ : g_layM σ), g_H E 0 0 54 [(0, vR 40), (2, vI x2), (3, vI x3)] [] (σ, M, N) (k54 x2 x3 σ M) (eIM σ N)) {k62 : Int32 → Int32 → Int32 → gS → gM → Option (Int32 × gM)} (H62 : ∀ (x2 : Int32) (x3 : Int32) (x4 : Int32) (σ : gS) (M : gM) (N : gN) (_ : g_layM σ), g_H E 0 0 62 [(0, vR 40), (2, vI x2), (3, vI x3), (4, vI x4)] [] (σ, M, N) (k62 x2 x3 x4 σ M) (eIM σ N)) (x2 : Int32) (x3 : Int32) (x4 : Int32) (σ : gS) (M : gM) (N : gN) (hL : g_layM σ) : g_H E 0 0 156 [(0, vR 40), (2, vI x2), (3, vI x3), (4, vI x4)] [] (σ, M, N) (b_X12_most_156 k54 k62 x2 x3 x4 σ M) (eIM σ N) := by
  unfold b_X12_most_156
  refine r_run J 2 (pc' := 62) (lv' := [(4, vI (x4 + 1)), (0, vR 40), (2, vI x2), (3, vI x3)]) (st' := []) rfl ?_
  refine r_sub [1, 2, 3, 0] (lv' := [(0, vR 40), (2, vI x2), (3, vI x3), (4, vI (x4 + 1))]) rfl ?_
  exact H62 x2 x3 (x4 + 1) σ M N hL
set_option maxHeartbeats 4000000 in
set_option maxRecDepth 100000 in
theorem p_X12_most_150 {l : Launch} {E : gE} (J : J_X12_most E l) {k54 : Int32 → Int32 → gS → gM → Option (Int32 × gM)} (H54 : ∀ (x2 : Int32) (x3 : Int32) (σ : gS) (M : gM) (N : gN) (_ : g_layM σ), g_H E 0 0 54 [(0, vR 40), (2, vI x2), (3, vI x3)] [] (σ, M, N) (k54 x2 x3 σ M) (eIM σ N)) {k62 : Int32 → Int32 → Int32 → gS → gM → Option (Int32 × gM)} (H62 : ∀ (x2 : Int32) (x3 : Int32) (x4 : Int32) (σ : gS) (M : gM) (N : gN) (_ : g_layM σ), g_H E 0 0 62 [(0, vR 40), (2, vI x2), (3, vI x3), (4, vI x4)] [] (σ, M, N) (k62 x2 x3 x4 σ M) (eIM σ N)) {k92 : Int32 → Int32 → Int32 → Int32 → gS → gM → Option (Int32 × gM)} (H92 : ∀ (x2 : Int32) (x3 : Int32) (x4 : Int32) (x5 : Int32) (σ : gS) (M : gM) (N : gN) (_ : g_layM σ), g_H E 0 0 92 [(0, vR 40), (2, vI x2), (3, vI x3), (4, vI x4), (5, vI x5)] [] (σ, M, N) (k92 x2 x3 x4 x5 σ M) (eIM σ N)) (x2 : Int32) (x3 : Int32) (x4 : Int32) (x5 : Int32) (σ : gS) (M : gM) (N : gN) (hL : g_layM σ) : g_H E 0 0 150 [(0, vR 40), (2, vI x2), (3, vI x3), (4, vI x4), (5, vI x5)] [] (σ, M, N) (b_X12_most_150 k54 k62 k92 x2 x3 x4 x5 σ M) (eIM σ N) := by
  unfold b_X12_most_150
  refine r_run J 2 (pc' := 92) (lv' := [(5, vI (x5 + 1)), (0, vR 40), (2, vI x2), (3, vI x3), (4, vI x4)]) (st' := []) rfl ?_
  refine r_sub [1, 2, 3, 4, 0] (lv' := [(0, vR 40), (2, vI x2), (3, vI x3), (4, vI x4), (5, vI (x5 + 1))]) rfl ?_
  exact H92 x2 x3 x4 (x5 + 1) σ M N hL
set_option maxHeartbeats 4000000 in
set_option maxRecDepth 100000 in
theorem p_X12_most_92 {l : Launch} {E : gE} (J : J_X12_most E l) {k54 : Int32 → Int32 → gS → gM → Option (Int32 × gM)} (H54 : ∀ (x2 : Int32) (x3 : Int32) (σ : gS) (M : gM) (N : gN) (_ : g_layM σ), g_H E 0 0 54 [(0, vR 40), (2, vI x2), (3, vI x3)] [] (σ, M, N) (k54 x2 x3 σ M) (eIM σ N)) {k62 : Int32 → Int32 → Int32 → gS → gM → Option (Int32 × gM)} (H62 : ∀ (x2 : Int32) (x3 : Int32) (x4 : Int32) (σ : gS) (M : gM) (N : gN) (_ : g_layM σ), g_H E 0 0 62 [(0, vR 40), (2, vI x2), (3, vI x3), (4, vI x4)] [] (σ, M, N) (k62 x2 x3 x4 σ M) (eIM σ N)) : ∀ (n : Nat) (x2 : Int32) (x3 : Int32) (x4 : Int32) (x5 : Int32) (σ : gS) (M : gM) (N : gN) (hL : g_layM σ), g_H E 0 0 92 [(0, vR 40), (2, vI x2), (3, vI x3), (4, vI x4), (5, vI x5)] [] (σ, M, N) (l_X12_most_92 k54 k62 n x2 x3 x4 x5 σ M) (eIM σ N) := by
  intro n
  induction n with
  | zero => intros; exact h_none
  | succ n ih =>
    intro x2 x3 x4 x5 σ M N hL
    rw [l_X12_most_92]
    refine r_run J 2 (pc' := 95) (lv' := [(0, vR 40), (2, vI x2), (3, vI x3), (4, vI x4), (5, vI x5)]) (st' := [vR 40, vI x5]) rfl ?_
    refine r_getR J cls12 rfl (k := 35) (t := 14) (by decide) wf_12_93 rfl rfl (ly_40 hL) (lr_40_35 hL) (fun _ => ?_)
    show g_H E 0 0 98 [(0, vR 40), (2, vI x2), (3, vI x3), (4, vI x4), (5, vI x5)] [vR 66, vI x5] (σ, M, N) _ _
    refine r_run J 1 (pc' := 99) (lv' := [(0, vR 40), (2, vI x2), (3, vI x3), (4, vI x4), (5, vI x5)]) (st' := [vI x3, vR 66, vI x5]) rfl ?_
    refine r_iald J rfl (ly_66 hL) (fun i99 => ?_)
    show g_H E 0 0 100 [(0, vR 40), (2, vI x2), (3, vI x3), (4, vI x4), (5, vI x5)] [vI (M 66 x3.toNatClampNeg), vI x5] (σ, M, N) _ _
    refine r_icmp_ge J (tgt := 156) rfl (by decide) (fun c100 => ?_) (fun c100 => ?_)
    · refine r_run J 1 (pc' := 104) (lv' := [(0, vR 40), (2, vI x2), (3, vI x3), (4, vI x4), (5, vI x5)]) (st' := [vR 40]) rfl ?_
      refine r_getR J cls12 rfl (k := 34) (t := 14) (by decide) wf_12_90 rfl rfl (ly_40 hL) (lr_40_34 hL) (fun _ => ?_)
      show g_H E 0 0 107 [(0, vR 40), (2, vI x2), (3, vI x3), (4, vI x4), (5, vI x5)] [vR 65] (σ, M, N) _ _
      refine r_run J 5 (pc' := 114) (lv' := [(0, vR 40), (2, vI x2), (3, vI x3), (4, vI x4), (5, vI x5)]) (st' := [vI (((64 : Int32) * x3) + x5), vR 65]) rfl ?_
      refine r_iald J rfl (ly_65 hL) (fun i114 => ?_)
      show g_H E 0 0 115 [(0, vR 40), (2, vI x2), (3, vI x3), (4, vI x4), (5, vI x5)] [vI (M 65 (((64 : Int32) * x3) + x5).toNatClampNeg)] (σ, M, N) _ _
      refine r_run J 2 (pc' := 118) (lv' := [(0, vR 40), (2, vI x2), (3, vI x3), (4, vI x4), (5, vI x5)]) (st' := [vI ((M 65 (((64 : Int32) * x3) + x5).toNatClampNeg) &&& x4)]) rfl ?_
      refine r_if_ne J (tgt := 150) rfl (by decide) (fun c118 => ?_) (fun c118 => ?_)
      · refine r_run J 1 (pc' := 122) (lv' := [(0, vR 40), (2, vI x2), (3, vI x3), (4, vI x4), (5, vI x5)]) (st' := [vR 40]) rfl ?_
        refine r_getR J cls12 rfl (k := 39) (t := 15) (by decide) wf_12_105 rfl rfl (ly_40 hL) (lr_40_39 hL) (fun _ => ?_)
        show g_H E 0 0 125 [(0, vR 40), (2, vI x2), (3, vI x3), (4, vI x4), (5, vI x5)] [vR 69] (σ, M, N) _ _
        refine r_run J 7 (pc' := 135) (lv' := [(0, vR 40), (2, vI x2), (3, vI x3), (4, vI x4), (5, vI x5)]) (st' := [vR 40, vI x4, vI ((1024 : Int32) * (x3 + (1 : Int32))), vR 69]) rfl ?_
        refine r_getR J cls12 rfl (k := 34) (t := 14) (by decide) wf_12_90 rfl rfl (ly_40 hL) (lr_40_34 hL) (fun _ => ?_)
        show g_H E 0 0 138 [(0, vR 40), (2, vI x2), (3, vI x3), (4, vI x4), (5, vI x5)] [vR 65, vI x4, vI ((1024 : Int32) * (x3 + (1 : Int32))), vR 69] (σ, M, N) _ _
        refine r_run J 5 (pc' := 145) (lv' := [(0, vR 40), (2, vI x2), (3, vI x3), (4, vI x4), (5, vI x5)]) (st' := [vI (((64 : Int32) * x3) + x5), vR 65, vI x4, vI ((1024 : Int32) * (x3 + (1 : Int32))), vR 69]) rfl ?_
        refine r_iald J rfl (ly_65 hL) (fun i145 => ?_)
        show g_H E 0 0 146 [(0, vR 40), (2, vI x2), (3, vI x3), (4, vI x4), (5, vI x5)] [vI (M 65 (((64 : Int32) * x3) + x5).toNatClampNeg), vI x4, vI ((1024 : Int32) * (x3 + (1 : Int32))), vR 69] (σ, M, N) _ _
        refine r_run J 3 (pc' := 149) (lv' := [(0, vR 40), (2, vI x2), (3, vI x3), (4, vI x4), (5, vI x5)]) (st' := [vI 1, vI (((1024 : Int32) * (x3 + (1 : Int32))) + (x4 ||| (M 65 (((64 : Int32) * x3) + x5).toNatClampNeg))), vR 69]) rfl ?_
        refine r_zast J rfl (ly_69 hL) (fun i149 => ?_)
        show g_H E 0 0 150 [(0, vR 40), (2, vI x2), (3, vI x3), (4, vI x4), (5, vI x5)] [] (σ, (g_up M 69 ((((1024 : Int32) * (x3 + (1 : Int32))) + (x4 ||| (M 65 (((64 : Int32) * x3) + x5).toNatClampNeg))).toNatClampNeg) (vp_nar .boolean 1)), N) _ _
        exact p_X12_most_150 J H54 H62 ih x2 x3 x4 x5 σ (g_up M 69 ((((1024 : Int32) * (x3 + (1 : Int32))) + (x4 ||| (M 65 (((64 : Int32) * x3) + x5).toNatClampNeg))).toNatClampNeg) (vp_nar .boolean 1)) N hL
      · exact p_X12_most_150 J H54 H62 ih x2 x3 x4 x5 σ M N hL
    · refine r_sub [0, 1, 2, 3] (lv' := [(0, vR 40), (2, vI x2), (3, vI x3), (4, vI x4)]) rfl ?_
      exact p_X12_most_156 J H54 H62 x2 x3 x4 σ M N hL
set_option maxHeartbeats 4000000 in
set_option maxRecDepth 100000 in
theorem p_X12_most_62 {l : Launch} {E : gE} (J : J_X12_most E l) {k54 : Int32 → Int32 → gS → gM → Option (Int32 × gM)} (H54 : ∀ (x2 : Int32) (x3 : Int32) (σ : gS) (M : gM) (N : gN) (_ : g_layM σ), g_H E 0 0 54 [(0, vR 40), (2, vI x2), (3, vI x3)] [] (σ, M, N) (k54 x2 x3 σ M) (eIM σ N)) : ∀ (n : Nat) (x2 : Int32) (x3 : Int32) (x4 : Int32) (σ : gS) (M : gM) (N : gN) (hL : g_layM σ), g_H E 0 0 62 [(0, vR 40), (2, vI x2), (3, vI x3), (4, vI x4)] [] (σ, M, N) (l_X12_most_62 k54 n x2 x3 x4 σ M) (eIM σ N) := by
  intro n
  induction n with
  | zero => intros; exact h_none
  | succ n ih =>
    intro x2 x3 x4 σ M N hL
    rw [l_X12_most_62]
    refine r_run J 2 (pc' := 67) (lv' := [(0, vR 40), (2, vI x2), (3, vI x3), (4, vI x4)]) (st' := [vI 1024, vI x4]) rfl ?_
    refine r_icmp_ge J (tgt := 162) rfl (by decide) (fun c67 => ?_) (fun c67 => ?_)
    · refine r_run J 1 (pc' := 71) (lv' := [(0, vR 40), (2, vI x2), (3, vI x3), (4, vI x4)]) (st' := [vR 40]) rfl ?_
      refine r_getR J cls12 rfl (k := 39) (t := 15) (by decide) wf_12_105 rfl rfl (ly_40 hL) (lr_40_39 hL) (fun _ => ?_)
      show g_H E 0 0 74 [(0, vR 40), (2, vI x2), (3, vI x3), (4, vI x4)] [vR 69] (σ, M, N) _ _
      refine r_run J 5 (pc' := 82) (lv' := [(0, vR 40), (2, vI x2), (3, vI x3), (4, vI x4)]) (st' := [vI (((1024 : Int32) * x3) + x4), vR 69]) rfl ?_
      refine r_zald J rfl (ly_69 hL) (fun i82 => ?_)
      show g_H E 0 0 83 [(0, vR 40), (2, vI x2), (3, vI x3), (4, vI x4)] [vI (M 69 (((1024 : Int32) * x3) + x4).toNatClampNeg)] (σ, M, N) _ _
      refine r_if_ne J (tgt := 89) rfl (by decide) (fun c83 => ?_) (fun c83 => ?_)
      · refine r_run J 1 (pc' := 156) (lv' := [(0, vR 40), (2, vI x2), (3, vI x3), (4, vI x4)]) (st' := []) rfl ?_
        exact p_X12_most_156 J H54 ih x2 x3 x4 σ M N hL
      · refine r_run J 2 (pc' := 92) (lv' := [(5, vI 0), (0, vR 40), (2, vI x2), (3, vI x3), (4, vI x4)]) (st' := []) rfl ?_
        refine r_sub [1, 2, 3, 4, 0] (lv' := [(0, vR 40), (2, vI x2), (3, vI x3), (4, vI x4), (5, vI 0)]) rfl ?_
        exact p_X12_most_92 J H54 ih g_FU x2 x3 x4 0 σ M N hL
    · refine r_run J 2 (pc' := 54) (lv' := [(3, vI (x3 + 1)), (0, vR 40), (2, vI x2), (4, vI x4)]) (st' := []) rfl ?_
      refine r_sub [1, 2, 0] (lv' := [(0, vR 40), (2, vI x2), (3, vI (x3 + 1))]) rfl ?_
      exact H54 x2 (x3 + 1) σ M N hL
set_option maxHeartbeats 4000000 in
set_option maxRecDepth 100000 in
theorem p_X12_most_54 {l : Launch} {E : gE} (J : J_X12_most E l) : ∀ (n : Nat) (x2 : Int32) (x3 : Int32) (σ : gS) (M : gM) (N : gN) (hL : g_layM σ), g_H E 0 0 54 [(0, vR 40), (2, vI x2), (3, vI x3)] [] (σ, M, N) (l_X12_most_54 n x2 x3 σ M) (eIM σ N) := by
  intro n
  induction n with
  | zero => intros; exact h_none
  | succ n ih =>
    intro x2 x3 σ M N hL
    rw [l_X12_most_54]
    refine r_run J 2 (pc' := 56) (lv' := [(0, vR 40), (2, vI x2), (3, vI x3)]) (st' := [vI x2, vI x3]) rfl ?_
    refine r_icmp_ge J (tgt := 168) rfl (by decide) (fun c56 => ?_) (fun c56 => ?_)
    · refine r_run J 2 (pc' := 62) (lv' := [(4, vI 0), (0, vR 40), (2, vI x2), (3, vI x3)]) (st' := []) rfl ?_
      refine r_sub [1, 2, 3, 0] (lv' := [(0, vR 40), (2, vI x2), (3, vI x3), (4, vI 0)]) rfl ?_
      exact p_X12_most_62 J ih g_FU x2 x3 0 σ M N hL
    · refine r_run J 4 (pc' := 173) (lv' := [(4, vI 0), (3, vI 0), (0, vR 40), (2, vI x2)]) (st' := []) rfl ?_
      refine r_sub [2, 3, 1, 0] (lv' := [(0, vR 40), (2, vI x2), (3, vI 0), (4, vI 0)]) rfl ?_
      exact p_X12_most_173 J g_FU x2 0 0 σ M N hL
set_option maxHeartbeats 4000000 in
set_option maxRecDepth 100000 in
theorem p_X12_most_45 {l : Launch} {E : gE} (J : J_X12_most E l) {k24 : Int32 → Int32 → gS → gM → Option (Int32 × gM)} (H24 : ∀ (x2 : Int32) (x3 : Int32) (σ : gS) (M : gM) (N : gN) (_ : g_layM σ), g_H E 0 0 24 [(0, vR 40), (2, vI x2), (3, vI x3)] [] (σ, M, N) (k24 x2 x3 σ M) (eIM σ N)) (x2 : Int32) (x3 : Int32) (sx0 : Int32) (sx1 : Int32) (σ : gS) (M : gM) (N : gN) (hL : g_layM σ) : g_H E 0 0 45 [(0, vR 40), (2, vI x2), (3, vI x3)] [vI sx0, vI sx1, vR 69] (σ, M, N) (b_X12_most_45 k24 x2 x3 sx0 sx1 σ M) (eIM σ N) := by
  unfold b_X12_most_45
  refine r_zast J rfl (ly_69 hL) (fun i45 => ?_)
  show g_H E 0 0 46 [(0, vR 40), (2, vI x2), (3, vI x3)] [] (σ, (g_up M 69 (sx1.toNatClampNeg) (vp_nar .boolean sx0)), N) _ _
  refine r_run J 2 (pc' := 24) (lv' := [(3, vI (x3 + 1)), (0, vR 40), (2, vI x2)]) (st' := []) rfl ?_
  refine r_sub [1, 2, 0] (lv' := [(0, vR 40), (2, vI x2), (3, vI (x3 + 1))]) rfl ?_
  exact H24 x2 (x3 + 1) σ (g_up M 69 (sx1.toNatClampNeg) (vp_nar .boolean sx0)) N hL
set_option maxHeartbeats 4000000 in
set_option maxRecDepth 100000 in
theorem p_X12_most_24 {l : Launch} {E : gE} (J : J_X12_most E l) : ∀ (n : Nat) (x2 : Int32) (x3 : Int32) (σ : gS) (M : gM) (N : gN) (hL : g_layM σ), g_H E 0 0 24 [(0, vR 40), (2, vI x2), (3, vI x3)] [] (σ, M, N) (l_X12_most_24 n x2 x3 σ M) (eIM σ N) := by
  intro n
  induction n with
  | zero => intros; exact h_none
  | succ n ih =>
    intro x2 x3 σ M N hL
    rw [l_X12_most_24]
    refine r_run J 2 (pc' := 28) (lv' := [(0, vR 40), (2, vI x2), (3, vI x3)]) (st' := [vI 11264, vI x3]) rfl ?_
    refine r_icmp_ge J (tgt := 52) rfl (by decide) (fun c28 => ?_) (fun c28 => ?_)
    · refine r_run J 1 (pc' := 32) (lv' := [(0, vR 40), (2, vI x2), (3, vI x3)]) (st' := [vR 40]) rfl ?_
      refine r_getR J cls12 rfl (k := 39) (t := 15) (by decide) wf_12_105 rfl rfl (ly_40 hL) (lr_40_39 hL) (fun _ => ?_)
      show g_H E 0 0 35 [(0, vR 40), (2, vI x2), (3, vI x3)] [vR 69] (σ, M, N) _ _
      refine r_run J 2 (pc' := 37) (lv' := [(0, vR 40), (2, vI x2), (3, vI x3)]) (st' := [vI x3, vI x3, vR 69]) rfl ?_
      refine r_if_ne J (tgt := 44) rfl (by decide) (fun c37 => ?_) (fun c37 => ?_)
      · refine r_run J 2 (pc' := 45) (lv' := [(0, vR 40), (2, vI x2), (3, vI x3)]) (st' := [vI 1, vI x3, vR 69]) rfl ?_
        exact p_X12_most_45 J ih x2 x3 1 x3 σ M N hL
      · refine r_run J 1 (pc' := 45) (lv' := [(0, vR 40), (2, vI x2), (3, vI x3)]) (st' := [vI 0, vI x3, vR 69]) rfl ?_
        exact p_X12_most_45 J ih x2 x3 0 x3 σ M N hL
    · refine r_run J 2 (pc' := 54) (lv' := [(3, vI 0), (0, vR 40), (2, vI x2)]) (st' := []) rfl ?_
      refine r_sub [1, 2, 0] (lv' := [(0, vR 40), (2, vI x2), (3, vI 0)]) rfl ?_
      exact p_X12_most_54 J g_FU x2 0 σ M N hL
set_option maxHeartbeats 4000000 in
set_option maxRecDepth 100000 in
theorem p_X12_most_0 {l : Launch} {E : gE} (J : J_X12_most E l) (x1 : Int32) (σ : gS) (M : gM) (N : gN) (hL : g_layM σ) : g_H E 0 0 0 [(0, vR 40), (1, vI x1)] [] (σ, M, N) (b_X12_most_0 x1 σ M) (eIM σ N) := by
  unfold b_X12_most_0
  refine r_run J 2 (pc' := 2) (lv' := [(0, vR 40), (1, vI x1)]) (st' := [vI x1, vR 40]) rfl ?_
  refine r_callV J (As := [vI x1]) (st := []) (fun r hr => c_X12_isTown x1 σ M N hL r hr) cls12 (ly_40 hL) wm_12_170 wy_X12_isTown wd_X12_isTown ⟨by decide, by decide, by decide, by decide, Nat.le_of_ble_eq_true rfl⟩ rfl rfl (fun q2 hq2 => ?_)
  show g_H E 0 0 5 [(0, vR 40), (1, vI x1)] [vI q2] (σ, M, N) _ _
  refine r_if_ne J (tgt := 10) rfl (by decide) (fun c5 => ?_) (fun c5 => ?_)
  · refine r_run J 1 (pc' := 9) (lv' := [(0, vR 40), (1, vI x1)]) (st' := [vI (-1)]) rfl ?_
    exact r_iret J rfl rfl rfl rfl (by decide) (by decide)
  · refine r_run J 2 (pc' := 12) (lv' := [(0, vR 40), (1, vI x1)]) (st' := [vI x1, vR 40]) rfl ?_
    refine r_callV J (As := [vI x1]) (st := []) (fun r hr => c_X12_findSets x1 σ M N hL r hr) cls12 (ly_40 hL) wm_12_227 wy_X12_findSets wd_X12_findSets ⟨by decide, by decide, by decide, by decide, Nat.le_of_ble_eq_true rfl⟩ rfl rfl (fun q12 hq12 => ?_)
    show g_H E 0 0 15 [(0, vR 40), (1, vI x1)] [] (σ, q12, N) _ _
    refine r_run J 1 (pc' := 16) (lv' := [(0, vR 40), (1, vI x1)]) (st' := [vR 40]) rfl ?_
    refine r_getR J cls12 rfl (k := 20) (t := 14) (by decide) wf_12_51 rfl rfl (ly_40 hL) (lr_40_20 hL) (fun _ => ?_)
    show g_H E 0 0 19 [(0, vR 40), (1, vI x1)] [vR 52] (σ, q12, N) _ _
    refine r_run J 1 (pc' := 20) (lv' := [(0, vR 40), (1, vI x1)]) (st' := [vI x1, vR 52]) rfl ?_
    refine r_iald J rfl (ly_52 hL) (fun i20 => ?_)
    show g_H E 0 0 21 [(0, vR 40), (1, vI x1)] [vI (q12 52 x1.toNatClampNeg)] (σ, q12, N) _ _
    refine r_run J 3 (pc' := 24) (lv' := [(3, vI 0), (2, vI (q12 52 x1.toNatClampNeg)), (0, vR 40), (1, vI x1)]) (st' := []) rfl ?_
    refine r_sub [2, 1, 0] (lv' := [(0, vR 40), (2, vI (q12 52 x1.toNatClampNeg)), (3, vI 0)]) rfl ?_
    exact p_X12_most_24 J g_FU (q12 52 x1.toNatClampNeg) 0 σ q12 N hL
theorem c_X12_most {l : Launch} (x1 : Int32) (σ : gS) (M : gM) (N : gN) (hL : g_layM σ) (r : Int32 × gM) (h : f_X12_most x1 σ M = some r) : g_Ct l yX12_most cX12_most 6 (some .int) 4 0 0 [vR 40, vI x1] (σ, M, N) (eIM σ N r) :=
  g_Ct.of tb_X12_most (by decide +kernel) tk_X12_most (Nat.le_of_ble_eq_true rfl) (fun E J => p_X12_most_0 J x1 σ M N hL r h)
def tb_X12_right : gT := [(0, .aload_n 0, 1, 0), (1, .iload_n 1, 1, 0), (2, .invokevirtual 170, 3, 0), (5, .ifCond .ne 5, 3, 0), (8, .iconst 0, 1, 0), (9, .ireturn, 1, 0), (10, .iconst 0, 1, 0), (11, .istore_n 2, 1, 0), (12, .iload_n 2, 1, 0), (13, .aload_n 0, 1, 0), (14, .getfield 157, 3, 0), (17, .if_icmp .ge 35, 3, 0), (20, .aload_n 0, 1, 0), (21, .iload_n 2, 1, 0), (22, .iload_n 1, 1, 0), (23, .invokevirtual 205, 3, 0), (26, .ifCond .eq 20, 3, 0), (29, .aload_n 0, 1, 0), (30, .getfield 66, 3, 0), (33, .bipush 10, 2, 10), (35, .iload_n 1, 1, 0), (36, .imul, 1, 0), (37, .iload_n 2, 1, 0), (38, .iadd, 1, 0), (39, .iaload, 1, 0), (40, .iconst (-1), 1, (-1)), (41, .if_icmp .ne 5, 3, 0), (44, .iconst 0, 1, 0), (45, .ireturn, 1, 0), (46, .iinc 2 1, 3, 1), (49, .goto (-37), 3, 0), (52, .iconst 0, 1, 0), (53, .istore_n 2, 1, 0), (54, .iload_n 2, 1, 0), (55, .aload_n 0, 1, 0), (56, .getfield 51, 3, 0), (59, .iload_n 1, 1, 0), (60, .iaload, 1, 0), (61, .if_icmp .ge 26, 3, 0), (64, .aload_n 0, 1, 0), (65, .iload_n 1, 1, 0), (66, .iload_n 2, 1, 0), (67, .aload_n 0, 1, 0), (68, .iload_n 1, 1, 0), (69, .iload_n 2, 1, 0), (70, .invokevirtual 211, 3, 0), (73, .invokevirtual 219, 3, 0), (76, .ifCond .ne 5, 3, 0), (79, .iconst 0, 1, 0), (80, .ireturn, 1, 0), (81, .iinc 2 1, 3, 1), (84, .goto (-30), 3, 0), (87, .iconst 1, 1, 1), (88, .ireturn, 1, 0)]
set_option maxRecDepth 100000 in
theorem tk_X12_right : g_okT cX12_right tb_X12_right = true := by decide +kernel
abbrev J_X12_right (E : gE) (l : Launch) : Prop := g_J E cX12_right RX12 "right" (some .boolean) 3 tb_X12_right 3 0 0 l
set_option maxHeartbeats 4000000 in
set_option maxRecDepth 100000 in
theorem p_X12_right_54 {l : Launch} {E : gE} (J : J_X12_right E l) : ∀ (n : Nat) (x1 : Int32) (x2 : Int32) (σ : gS) (M : gM) (N : gN) (hL : g_layM σ), g_H E 0 0 54 [(0, vR 40), (1, vI x1), (2, vI x2)] [] (σ, M, N) (l_X12_right_54 n x1 x2 σ M) (eI σ M N) := by
  intro n
  induction n with
  | zero => intros; exact h_none
  | succ n ih =>
    intro x1 x2 σ M N hL
    rw [l_X12_right_54]
    refine r_run J 2 (pc' := 56) (lv' := [(0, vR 40), (1, vI x1), (2, vI x2)]) (st' := [vR 40, vI x2]) rfl ?_
    refine r_getR J cls12 rfl (k := 20) (t := 14) (by decide) wf_12_51 rfl rfl (ly_40 hL) (lr_40_20 hL) (fun _ => ?_)
    show g_H E 0 0 59 [(0, vR 40), (1, vI x1), (2, vI x2)] [vR 52, vI x2] (σ, M, N) _ _
    refine r_run J 1 (pc' := 60) (lv' := [(0, vR 40), (1, vI x1), (2, vI x2)]) (st' := [vI x1, vR 52, vI x2]) rfl ?_
    refine r_iald J rfl (ly_52 hL) (fun i60 => ?_)
    show g_H E 0 0 61 [(0, vR 40), (1, vI x1), (2, vI x2)] [vI (M 52 x1.toNatClampNeg), vI x2] (σ, M, N) _ _
    refine r_icmp_ge J (tgt := 87) rfl (by decide) (fun c61 => ?_) (fun c61 => ?_)
    · refine r_run J 6 (pc' := 70) (lv' := [(0, vR 40), (1, vI x1), (2, vI x2)]) (st' := [vI x2, vI x1, vR 40, vI x2, vI x1, vR 40]) rfl ?_
      refine r_callV J (As := [vI x1, vI x2]) (st := [vI x2, vI x1, vR 40]) (fun r hr => c_X12_setIn x1 x2 σ M N hL r hr) cls12 (ly_40 hL) wm_12_211 wy_X12_setIn wd_X12_setIn ⟨by decide, by decide, by decide, by decide, Nat.le_of_ble_eq_true rfl⟩ rfl rfl (fun q70 hq70 => ?_)
      show g_H E 0 0 73 [(0, vR 40), (1, vI x1), (2, vI x2)] [vI q70, vI x2, vI x1, vR 40] (σ, M, N) _ _
      refine r_callV J (As := [vI x1, vI x2, vI q70]) (st := []) (fun r hr => c_X12_mayBe x1 x2 q70 σ M N hL r hr) cls12 (ly_40 hL) wm_12_219 wy_X12_mayBe wd_X12_mayBe ⟨by decide, by decide, by decide, by decide, Nat.le_of_ble_eq_true rfl⟩ rfl rfl (fun q73 hq73 => ?_)
      show g_H E 0 0 76 [(0, vR 40), (1, vI x1), (2, vI x2)] [vI q73] (σ, M, N) _ _
      refine r_if_ne J (tgt := 81) rfl (by decide) (fun c76 => ?_) (fun c76 => ?_)
      · refine r_run J 1 (pc' := 80) (lv' := [(0, vR 40), (1, vI x1), (2, vI x2)]) (st' := [vI 0]) rfl ?_
        exact r_iret J rfl rfl rfl rfl (by decide) (by decide)
      · refine r_run J 2 (pc' := 54) (lv' := [(2, vI (x2 + 1)), (0, vR 40), (1, vI x1)]) (st' := []) rfl ?_
        refine r_sub [1, 2, 0] (lv' := [(0, vR 40), (1, vI x1), (2, vI (x2 + 1))]) rfl ?_
        exact ih x1 (x2 + 1) σ M N hL
    · refine r_run J 1 (pc' := 88) (lv' := [(0, vR 40), (1, vI x1), (2, vI x2)]) (st' := [vI 1]) rfl ?_
      exact r_iret J rfl rfl rfl rfl (by decide) (by decide)
set_option maxHeartbeats 4000000 in
set_option maxRecDepth 100000 in
theorem p_X12_right_46 {l : Launch} {E : gE} (J : J_X12_right E l) {k12 : Int32 → Int32 → gS → gM → Option (Int32)} (H12 : ∀ (x1 : Int32) (x2 : Int32) (σ : gS) (M : gM) (N : gN) (_ : g_layM σ), g_H E 0 0 12 [(0, vR 40), (1, vI x1), (2, vI x2)] [] (σ, M, N) (k12 x1 x2 σ M) (eI σ M N)) (x1 : Int32) (x2 : Int32) (σ : gS) (M : gM) (N : gN) (hL : g_layM σ) : g_H E 0 0 46 [(0, vR 40), (1, vI x1), (2, vI x2)] [] (σ, M, N) (b_X12_right_46 k12 x1 x2 σ M) (eI σ M N) := by
  unfold b_X12_right_46
  refine r_run J 2 (pc' := 12) (lv' := [(2, vI (x2 + 1)), (0, vR 40), (1, vI x1)]) (st' := []) rfl ?_
  refine r_sub [1, 2, 0] (lv' := [(0, vR 40), (1, vI x1), (2, vI (x2 + 1))]) rfl ?_
  exact H12 x1 (x2 + 1) σ M N hL
set_option maxHeartbeats 4000000 in
set_option maxRecDepth 100000 in
theorem p_X12_right_12 {l : Launch} {E : gE} (J : J_X12_right E l) : ∀ (n : Nat) (x1 : Int32) (x2 : Int32) (σ : gS) (M : gM) (N : gN) (hL : g_layM σ), g_H E 0 0 12 [(0, vR 40), (1, vI x1), (2, vI x2)] [] (σ, M, N) (l_X12_right_12 n x1 x2 σ M) (eI σ M N) := by
  intro n
  induction n with
  | zero => intros; exact h_none
  | succ n ih =>
    intro x1 x2 σ M N hL
    rw [l_X12_right_12]
    refine r_run J 2 (pc' := 14) (lv' := [(0, vR 40), (1, vI x1), (2, vI x2)]) (st' := [vR 40, vI x2]) rfl ?_
    refine r_getI J cls12 rfl (k := 1) (by decide) wf_12_157 rfl (ly_40 hL) ?_
    show g_H E 0 0 17 [(0, vR 40), (1, vI x1), (2, vI x2)] [vI (M 40 1), vI x2] (σ, M, N) _ _
    refine r_icmp_ge J (tgt := 52) rfl (by decide) (fun c17 => ?_) (fun c17 => ?_)
    · refine r_run J 3 (pc' := 23) (lv' := [(0, vR 40), (1, vI x1), (2, vI x2)]) (st' := [vI x1, vI x2, vR 40]) rfl ?_
      refine r_callV J (As := [vI x2, vI x1]) (st := []) (fun r hr => c_X12_isThere x2 x1 σ M N hL r hr) cls12 (ly_40 hL) wm_12_205 wy_X12_isThere wd_X12_isThere ⟨by decide, by decide, by decide, by decide, Nat.le_of_ble_eq_true rfl⟩ rfl rfl (fun q23 hq23 => ?_)
      show g_H E 0 0 26 [(0, vR 40), (1, vI x1), (2, vI x2)] [vI q23] (σ, M, N) _ _
      refine r_if_eq J (tgt := 46) rfl (by decide) (fun c26 => ?_) (fun c26 => ?_)
      · exact p_X12_right_46 J ih x1 x2 σ M N hL
      · refine r_run J 1 (pc' := 30) (lv' := [(0, vR 40), (1, vI x1), (2, vI x2)]) (st' := [vR 40]) rfl ?_
        refine r_getR J cls12 rfl (k := 25) (t := 14) (by decide) wf_12_66 rfl rfl (ly_40 hL) (lr_40_25 hL) (fun _ => ?_)
        show g_H E 0 0 33 [(0, vR 40), (1, vI x1), (2, vI x2)] [vR 57] (σ, M, N) _ _
        refine r_run J 5 (pc' := 39) (lv' := [(0, vR 40), (1, vI x1), (2, vI x2)]) (st' := [vI (((10 : Int32) * x1) + x2), vR 57]) rfl ?_
        refine r_iald J rfl (ly_57 hL) (fun i39 => ?_)
        show g_H E 0 0 40 [(0, vR 40), (1, vI x1), (2, vI x2)] [vI (M 57 (((10 : Int32) * x1) + x2).toNatClampNeg)] (σ, M, N) _ _
        refine r_run J 1 (pc' := 41) (lv' := [(0, vR 40), (1, vI x1), (2, vI x2)]) (st' := [vI (-1), vI (M 57 (((10 : Int32) * x1) + x2).toNatClampNeg)]) rfl ?_
        refine r_icmp_ne J (tgt := 46) rfl (by decide) (fun c41 => ?_) (fun c41 => ?_)
        · refine r_run J 1 (pc' := 45) (lv' := [(0, vR 40), (1, vI x1), (2, vI x2)]) (st' := [vI 0]) rfl ?_
          exact r_iret J rfl rfl rfl rfl (by decide) (by decide)
        · exact p_X12_right_46 J ih x1 x2 σ M N hL
    · refine r_run J 2 (pc' := 54) (lv' := [(2, vI 0), (0, vR 40), (1, vI x1)]) (st' := []) rfl ?_
      refine r_sub [1, 2, 0] (lv' := [(0, vR 40), (1, vI x1), (2, vI 0)]) rfl ?_
      exact p_X12_right_54 J g_FU x1 0 σ M N hL
set_option maxHeartbeats 4000000 in
set_option maxRecDepth 100000 in
theorem p_X12_right_0 {l : Launch} {E : gE} (J : J_X12_right E l) (x1 : Int32) (σ : gS) (M : gM) (N : gN) (hL : g_layM σ) : g_H E 0 0 0 [(0, vR 40), (1, vI x1)] [] (σ, M, N) (b_X12_right_0 x1 σ M) (eI σ M N) := by
  unfold b_X12_right_0
  refine r_run J 2 (pc' := 2) (lv' := [(0, vR 40), (1, vI x1)]) (st' := [vI x1, vR 40]) rfl ?_
  refine r_callV J (As := [vI x1]) (st := []) (fun r hr => c_X12_isTown x1 σ M N hL r hr) cls12 (ly_40 hL) wm_12_170 wy_X12_isTown wd_X12_isTown ⟨by decide, by decide, by decide, by decide, Nat.le_of_ble_eq_true rfl⟩ rfl rfl (fun q2 hq2 => ?_)
  show g_H E 0 0 5 [(0, vR 40), (1, vI x1)] [vI q2] (σ, M, N) _ _
  refine r_if_ne J (tgt := 10) rfl (by decide) (fun c5 => ?_) (fun c5 => ?_)
  · refine r_run J 1 (pc' := 9) (lv' := [(0, vR 40), (1, vI x1)]) (st' := [vI 0]) rfl ?_
    exact r_iret J rfl rfl rfl rfl (by decide) (by decide)
  · refine r_run J 2 (pc' := 12) (lv' := [(2, vI 0), (0, vR 40), (1, vI x1)]) (st' := []) rfl ?_
    refine r_sub [1, 2, 0] (lv' := [(0, vR 40), (1, vI x1), (2, vI 0)]) rfl ?_
    exact p_X12_right_12 J g_FU x1 0 σ M N hL
theorem c_X12_right {l : Launch} (x1 : Int32) (σ : gS) (M : gM) (N : gN) (hL : g_layM σ) (r : Int32) (h : f_X12_right x1 σ M = some r) : g_Ct l yX12_right cX12_right 3 (some .boolean) 3 0 0 [vR 40, vI x1] (σ, M, N) (eI σ M N r) :=
  g_Ct.of tb_X12_right (by decide +kernel) tk_X12_right (Nat.le_of_ble_eq_true rfl) (fun E J => p_X12_right_0 J x1 σ M N hL r h)
def tb_X12_listed : gT := [(0, .aload_n 0, 1, 0), (1, .iload_n 1, 1, 0), (2, .invokevirtual 170, 3, 0), (5, .ifCond .eq 23, 3, 0), (8, .aload_n 0, 1, 0), (9, .iload_n 2, 1, 0), (10, .invokevirtual 177, 3, 0), (13, .ifCond .eq 15, 3, 0), (16, .iload_n 3, 1, 0), (17, .iconst 0, 1, 0), (18, .aload_n 0, 1, 0), (19, .getfield 183, 3, 0), (22, .invokestatic 160, 3, 0), (25, .ifCond .ne 5, 3, 0), (28, .iconst (-1), 1, (-1)), (29, .ireturn, 1, 0), (30, .iconst (-1), 1, (-1)), (31, .istore 4, 2, 0), (33, .iconst 0, 1, 0), (34, .istore 5, 2, 0), (36, .iload 5, 2, 0), (38, .aload_n 0, 1, 0), (39, .getfield 180, 3, 0), (42, .if_icmp .ge 45, 3, 0), (45, .aload_n 0, 1, 0), (46, .getfield 72, 3, 0), (49, .iload 5, 2, 0), (51, .iaload, 1, 0), (52, .bipush 10, 2, 10), (54, .iload_n 1, 1, 0), (55, .imul, 1, 0), (56, .iload_n 2, 1, 0), (57, .iadd, 1, 0), (58, .if_icmp .ne 23, 3, 0), (61, .aload_n 0, 1, 0), (62, .getfield 69, 3, 0), (65, .iload 5, 2, 0), (67, .iaload, 1, 0), (68, .iload_n 3, 1, 0), (69, .if_icmp .gt 12, 3, 0), (72, .aload_n 0, 1, 0), (73, .getfield 75, 3, 0), (76, .iload 5, 2, 0), (78, .iaload, 1, 0), (79, .istore 4, 2, 0), (81, .iinc 5 1, 3, 1), (84, .goto (-48), 3, 0), (87, .iload 4, 2, 0), (89, .ireturn, 1, 0)]
set_option maxRecDepth 100000 in
theorem tk_X12_listed : g_okT cX12_listed tb_X12_listed = true := by decide +kernel
abbrev J_X12_listed (E : gE) (l : Launch) : Prop := g_J E cX12_listed RX12 "listed" (some .int) 6 tb_X12_listed 3 0 0 l
set_option maxHeartbeats 4000000 in
set_option maxRecDepth 100000 in
theorem p_X12_listed_81 {l : Launch} {E : gE} (J : J_X12_listed E l) {k36 : Int32 → Int32 → Int32 → Int32 → Int32 → gS → gM → Option (Int32)} (H36 : ∀ (x1 : Int32) (x2 : Int32) (x3 : Int32) (x4 : Int32) (x5 : Int32) (σ : gS) (M : gM) (N : gN) (_ : g_layM σ), g_H E 0 0 36 [(0, vR 40), (1, vI x1), (2, vI x2), (3, vI x3), (4, vI x4), (5, vI x5)] [] (σ, M, N) (k36 x1 x2 x3 x4 x5 σ M) (eI σ M N)) (x1 : Int32) (x2 : Int32) (x3 : Int32) (x4 : Int32) (x5 : Int32) (σ : gS) (M : gM) (N : gN) (hL : g_layM σ) : g_H E 0 0 81 [(0, vR 40), (1, vI x1), (2, vI x2), (3, vI x3), (4, vI x4), (5, vI x5)] [] (σ, M, N) (b_X12_listed_81 k36 x1 x2 x3 x4 x5 σ M) (eI σ M N) := by
  unfold b_X12_listed_81
  refine r_run J 2 (pc' := 36) (lv' := [(5, vI (x5 + 1)), (0, vR 40), (1, vI x1), (2, vI x2), (3, vI x3), (4, vI x4)]) (st' := []) rfl ?_
  refine r_sub [1, 2, 3, 4, 5, 0] (lv' := [(0, vR 40), (1, vI x1), (2, vI x2), (3, vI x3), (4, vI x4), (5, vI (x5 + 1))]) rfl ?_
  exact H36 x1 x2 x3 x4 (x5 + 1) σ M N hL
set_option maxHeartbeats 4000000 in
set_option maxRecDepth 100000 in
theorem p_X12_listed_36 {l : Launch} {E : gE} (J : J_X12_listed E l) : ∀ (n : Nat) (x1 : Int32) (x2 : Int32) (x3 : Int32) (x4 : Int32) (x5 : Int32) (σ : gS) (M : gM) (N : gN) (hL : g_layM σ), g_H E 0 0 36 [(0, vR 40), (1, vI x1), (2, vI x2), (3, vI x3), (4, vI x4), (5, vI x5)] [] (σ, M, N) (l_X12_listed_36 n x1 x2 x3 x4 x5 σ M) (eI σ M N) := by
  intro n
  induction n with
  | zero => intros; exact h_none
  | succ n ih =>
    intro x1 x2 x3 x4 x5 σ M N hL
    rw [l_X12_listed_36]
    refine r_run J 2 (pc' := 39) (lv' := [(0, vR 40), (1, vI x1), (2, vI x2), (3, vI x3), (4, vI x4), (5, vI x5)]) (st' := [vR 40, vI x5]) rfl ?_
    refine r_getI J cls12 rfl (k := 26) (by decide) wf_12_180 rfl (ly_40 hL) ?_
    show g_H E 0 0 42 [(0, vR 40), (1, vI x1), (2, vI x2), (3, vI x3), (4, vI x4), (5, vI x5)] [vI (M 40 26), vI x5] (σ, M, N) _ _
    refine r_icmp_ge J (tgt := 87) rfl (by decide) (fun c42 => ?_) (fun c42 => ?_)
    · refine r_run J 1 (pc' := 46) (lv' := [(0, vR 40), (1, vI x1), (2, vI x2), (3, vI x3), (4, vI x4), (5, vI x5)]) (st' := [vR 40]) rfl ?_
      refine r_getR J cls12 rfl (k := 28) (t := 14) (by decide) wf_12_72 rfl rfl (ly_40 hL) (lr_40_28 hL) (fun _ => ?_)
      show g_H E 0 0 49 [(0, vR 40), (1, vI x1), (2, vI x2), (3, vI x3), (4, vI x4), (5, vI x5)] [vR 59] (σ, M, N) _ _
      refine r_run J 1 (pc' := 51) (lv' := [(0, vR 40), (1, vI x1), (2, vI x2), (3, vI x3), (4, vI x4), (5, vI x5)]) (st' := [vI x5, vR 59]) rfl ?_
      refine r_iald J rfl (ly_59 hL) (fun i51 => ?_)
      show g_H E 0 0 52 [(0, vR 40), (1, vI x1), (2, vI x2), (3, vI x3), (4, vI x4), (5, vI x5)] [vI (M 59 x5.toNatClampNeg)] (σ, M, N) _ _
      refine r_run J 5 (pc' := 58) (lv' := [(0, vR 40), (1, vI x1), (2, vI x2), (3, vI x3), (4, vI x4), (5, vI x5)]) (st' := [vI (((10 : Int32) * x1) + x2), vI (M 59 x5.toNatClampNeg)]) rfl ?_
      refine r_icmp_ne J (tgt := 81) rfl (by decide) (fun c58 => ?_) (fun c58 => ?_)
      · refine r_run J 1 (pc' := 62) (lv' := [(0, vR 40), (1, vI x1), (2, vI x2), (3, vI x3), (4, vI x4), (5, vI x5)]) (st' := [vR 40]) rfl ?_
        refine r_getR J cls12 rfl (k := 27) (t := 14) (by decide) wf_12_69 rfl rfl (ly_40 hL) (lr_40_27 hL) (fun _ => ?_)
        show g_H E 0 0 65 [(0, vR 40), (1, vI x1), (2, vI x2), (3, vI x3), (4, vI x4), (5, vI x5)] [vR 58] (σ, M, N) _ _
        refine r_run J 1 (pc' := 67) (lv' := [(0, vR 40), (1, vI x1), (2, vI x2), (3, vI x3), (4, vI x4), (5, vI x5)]) (st' := [vI x5, vR 58]) rfl ?_
        refine r_iald J rfl (ly_58 hL) (fun i67 => ?_)
        show g_H E 0 0 68 [(0, vR 40), (1, vI x1), (2, vI x2), (3, vI x3), (4, vI x4), (5, vI x5)] [vI (M 58 x5.toNatClampNeg)] (σ, M, N) _ _
        refine r_run J 1 (pc' := 69) (lv' := [(0, vR 40), (1, vI x1), (2, vI x2), (3, vI x3), (4, vI x4), (5, vI x5)]) (st' := [vI x3, vI (M 58 x5.toNatClampNeg)]) rfl ?_
        refine r_icmp_gt J (tgt := 81) rfl (by decide) (fun c69 => ?_) (fun c69 => ?_)
        · exact p_X12_listed_81 J ih x1 x2 x3 x4 x5 σ M N hL
        · refine r_run J 1 (pc' := 73) (lv' := [(0, vR 40), (1, vI x1), (2, vI x2), (3, vI x3), (4, vI x4), (5, vI x5)]) (st' := [vR 40]) rfl ?_
          refine r_getR J cls12 rfl (k := 29) (t := 14) (by decide) wf_12_75 rfl rfl (ly_40 hL) (lr_40_29 hL) (fun _ => ?_)
          show g_H E 0 0 76 [(0, vR 40), (1, vI x1), (2, vI x2), (3, vI x3), (4, vI x4), (5, vI x5)] [vR 60] (σ, M, N) _ _
          refine r_run J 1 (pc' := 78) (lv' := [(0, vR 40), (1, vI x1), (2, vI x2), (3, vI x3), (4, vI x4), (5, vI x5)]) (st' := [vI x5, vR 60]) rfl ?_
          refine r_iald J rfl (ly_60 hL) (fun i78 => ?_)
          show g_H E 0 0 79 [(0, vR 40), (1, vI x1), (2, vI x2), (3, vI x3), (4, vI x4), (5, vI x5)] [vI (M 60 x5.toNatClampNeg)] (σ, M, N) _ _
          refine r_run J 1 (pc' := 81) (lv' := [(4, vI (M 60 x5.toNatClampNeg)), (0, vR 40), (1, vI x1), (2, vI x2), (3, vI x3), (5, vI x5)]) (st' := []) rfl ?_
          refine r_sub [1, 2, 3, 4, 0, 5] (lv' := [(0, vR 40), (1, vI x1), (2, vI x2), (3, vI x3), (4, vI (M 60 x5.toNatClampNeg)), (5, vI x5)]) rfl ?_
          exact p_X12_listed_81 J ih x1 x2 x3 (M 60 x5.toNatClampNeg) x5 σ M N hL
      · exact p_X12_listed_81 J ih x1 x2 x3 x4 x5 σ M N hL
    · refine r_run J 1 (pc' := 89) (lv' := [(0, vR 40), (1, vI x1), (2, vI x2), (3, vI x3), (4, vI x4), (5, vI x5)]) (st' := [vI x4]) rfl ?_
      exact r_iret J rfl rfl rfl rfl (by decide) (by decide)
set_option maxHeartbeats 4000000 in
set_option maxRecDepth 100000 in
theorem p_X12_listed_0 {l : Launch} {E : gE} (J : J_X12_listed E l) (x1 : Int32) (x2 : Int32) (x3 : Int32) (σ : gS) (M : gM) (N : gN) (hL : g_layM σ) : g_H E 0 0 0 [(0, vR 40), (1, vI x1), (2, vI x2), (3, vI x3)] [] (σ, M, N) (b_X12_listed_0 x1 x2 x3 σ M) (eI σ M N) := by
  unfold b_X12_listed_0
  refine r_run J 2 (pc' := 2) (lv' := [(0, vR 40), (1, vI x1), (2, vI x2), (3, vI x3)]) (st' := [vI x1, vR 40]) rfl ?_
  refine r_callV J (As := [vI x1]) (st := []) (fun r hr => c_X12_isTown x1 σ M N hL r hr) cls12 (ly_40 hL) wm_12_170 wy_X12_isTown wd_X12_isTown ⟨by decide, by decide, by decide, by decide, Nat.le_of_ble_eq_true rfl⟩ rfl rfl (fun q2 hq2 => ?_)
  show g_H E 0 0 5 [(0, vR 40), (1, vI x1), (2, vI x2), (3, vI x3)] [vI q2] (σ, M, N) _ _
  refine r_if_eq J (tgt := 28) rfl (by decide) (fun c5 => ?_) (fun c5 => ?_)
  · refine r_run J 1 (pc' := 29) (lv' := [(0, vR 40), (1, vI x1), (2, vI x2), (3, vI x3)]) (st' := [vI (-1)]) rfl ?_
    exact r_iret J rfl rfl rfl rfl (by decide) (by decide)
  · refine r_run J 2 (pc' := 10) (lv' := [(0, vR 40), (1, vI x1), (2, vI x2), (3, vI x3)]) (st' := [vI x2, vR 40]) rfl ?_
    refine r_callV J (As := [vI x2]) (st := []) (fun r hr => c_X12_isPerson x2 σ M N hL r hr) cls12 (ly_40 hL) wm_12_177 wy_X12_isPerson wd_X12_isPerson ⟨by decide, by decide, by decide, by decide, Nat.le_of_ble_eq_true rfl⟩ rfl rfl (fun q10 hq10 => ?_)
    show g_H E 0 0 13 [(0, vR 40), (1, vI x1), (2, vI x2), (3, vI x3)] [vI q10] (σ, M, N) _ _
    refine r_if_eq J (tgt := 28) rfl (by decide) (fun c13 => ?_) (fun c13 => ?_)
    · refine r_run J 1 (pc' := 29) (lv' := [(0, vR 40), (1, vI x1), (2, vI x2), (3, vI x3)]) (st' := [vI (-1)]) rfl ?_
      exact r_iret J rfl rfl rfl rfl (by decide) (by decide)
    · refine r_run J 3 (pc' := 19) (lv' := [(0, vR 40), (1, vI x1), (2, vI x2), (3, vI x3)]) (st' := [vR 40, vI 0, vI x3]) rfl ?_
      refine r_getI J cls12 rfl (k := 14) (by decide) wf_12_183 rfl (ly_40 hL) ?_
      show g_H E 0 0 22 [(0, vR 40), (1, vI x1), (2, vI x2), (3, vI x3)] [vI (M 40 14), vI 0, vI x3] (σ, M, N) _ _
      refine r_callS J (As := [vI x3, vI 0, vI (M 40 14)]) (st := []) (fun r hr => c_X12_in x3 0 (M 40 14) σ M N hL r hr) wm_12_160 wy_X12_in wd_X12_in ⟨by decide, by decide, by decide, by decide, Nat.le_of_ble_eq_true rfl⟩ rfl rfl (fun q22 hq22 => ?_)
      show g_H E 0 0 25 [(0, vR 40), (1, vI x1), (2, vI x2), (3, vI x3)] [vI q22] (σ, M, N) _ _
      refine r_if_ne J (tgt := 30) rfl (by decide) (fun c25 => ?_) (fun c25 => ?_)
      · refine r_run J 1 (pc' := 29) (lv' := [(0, vR 40), (1, vI x1), (2, vI x2), (3, vI x3)]) (st' := [vI (-1)]) rfl ?_
        exact r_iret J rfl rfl rfl rfl (by decide) (by decide)
      · refine r_run J 4 (pc' := 36) (lv' := [(5, vI 0), (4, vI (-1)), (0, vR 40), (1, vI x1), (2, vI x2), (3, vI x3)]) (st' := []) rfl ?_
        refine r_sub [2, 3, 4, 5, 1, 0] (lv' := [(0, vR 40), (1, vI x1), (2, vI x2), (3, vI x3), (4, vI (-1)), (5, vI 0)]) rfl ?_
        exact p_X12_listed_36 J g_FU x1 x2 x3 (-1) 0 σ M N hL
theorem c_X12_listed {l : Launch} (x1 : Int32) (x2 : Int32) (x3 : Int32) (σ : gS) (M : gM) (N : gN) (hL : g_layM σ) (r : Int32) (h : f_X12_listed x1 x2 x3 σ M = some r) : g_Ct l yX12_listed cX12_listed 6 (some .int) 3 0 0 [vR 40, vI x1, vI x2, vI x3] (σ, M, N) (eI σ M N r) :=
  g_Ct.of tb_X12_listed (by decide +kernel) tk_X12_listed (Nat.le_of_ble_eq_true rfl) (fun E J => p_X12_listed_0 J x1 x2 x3 σ M N hL r h)
def tb_X12_feed : gT := [(0, .iconst 0, 1, 0), (1, .istore 7, 2, 0), (3, .iload 7, 2, 0), (5, .bipush 24, 2, 24), (7, .if_icmp .ge 92, 3, 0), (10, .iload 7, 2, 0), (12, .bipush 8, 2, 8), (14, .if_icmp .ge 7, 3, 0), (17, .lload_n 1, 1, 0), (18, .goto 16, 3, 0), (21, .iload 7, 2, 0), (23, .bipush 16, 2, 16), (25, .if_icmp .ge 7, 3, 0), (28, .lload_n 3, 1, 0), (29, .goto 5, 3, 0), (32, .lload 5, 2, 0), (34, .lstore 8, 2, 0), (36, .lload 8, 2, 0), (38, .bipush 56, 2, 56), (40, .bipush 8, 2, 8), (42, .iload 7, 2, 0), (44, .bipush 8, 2, 8), (46, .irem, 1, 0), (47, .imul, 1, 0), (48, .isub, 1, 0), (49, .lshr, 1, 0), (50, .l2i, 1, 0), (51, .i2b, 1, 0), (52, .istore 10, 2, 0), (54, .iload 10, 2, 0), (56, .ifCond .eq 37, 3, 0), (59, .aload_n 0, 1, 0), (60, .getfield 246, 3, 0), (63, .sipush 400, 3, 400), (66, .if_icmp .ne 6, 3, 0), (69, .goto 24, 3, 0), (72, .aload_n 0, 1, 0), (73, .getfield 108, 3, 0), (76, .aload_n 0, 1, 0), (77, .getfield 246, 3, 0), (80, .iload 10, 2, 0), (82, .bastore, 1, 0), (83, .aload_n 0, 1, 0), (84, .dup, 1, 0), (85, .getfield 246, 3, 0), (88, .iconst 1, 1, 1), (89, .iadd, 1, 0), (90, .putfield 246, 3, 0), (93, .iinc 7 1, 3, 1), (96, .goto (-93), 3, 0), (99, .aload_n 0, 1, 0), (100, .getfield 246, 3, 0), (103, .ireturn, 1, 0)]
set_option maxRecDepth 100000 in
theorem tk_X12_feed : g_okT cX12_feed tb_X12_feed = true := by decide +kernel
abbrev J_X12_feed (E : gE) (l : Launch) : Prop := g_J E cX12_feed RX12 "feed" (some .int) 11 tb_X12_feed 1 0 0 l
set_option maxHeartbeats 4000000 in
set_option maxRecDepth 100000 in
theorem p_X12_feed_93 {l : Launch} {E : gE} (J : J_X12_feed E l) {k3 : Int64 → Int64 → Int64 → Int32 → gS → gM → Option (Int32 × gM)} (H3 : ∀ (y1 : Int64) (y3 : Int64) (y5 : Int64) (x7 : Int32) (σ : gS) (M : gM) (N : gN) (_ : g_layM σ), g_H E 0 0 3 [(0, vR 40), (1, vL y1), (3, vL y3), (5, vL y5), (7, vI x7)] [] (σ, M, N) (k3 y1 y3 y5 x7 σ M) (eIM σ N)) (y1 : Int64) (y3 : Int64) (y5 : Int64) (x7 : Int32) (σ : gS) (M : gM) (N : gN) (hL : g_layM σ) : g_H E 0 0 93 [(0, vR 40), (1, vL y1), (3, vL y3), (5, vL y5), (7, vI x7)] [] (σ, M, N) (b_X12_feed_93 k3 y1 y3 y5 x7 σ M) (eIM σ N) := by
  unfold b_X12_feed_93
  refine r_run J 2 (pc' := 3) (lv' := [(7, vI (x7 + 1)), (0, vR 40), (1, vL y1), (3, vL y3), (5, vL y5)]) (st' := []) rfl ?_
  refine r_sub [1, 2, 3, 4, 0] (lv' := [(0, vR 40), (1, vL y1), (3, vL y3), (5, vL y5), (7, vI (x7 + 1))]) rfl ?_
  exact H3 y1 y3 y5 (x7 + 1) σ M N hL
set_option maxHeartbeats 4000000 in
set_option maxRecDepth 100000 in
theorem p_X12_feed_34 {l : Launch} {E : gE} (J : J_X12_feed E l) {k3 : Int64 → Int64 → Int64 → Int32 → gS → gM → Option (Int32 × gM)} (H3 : ∀ (y1 : Int64) (y3 : Int64) (y5 : Int64) (x7 : Int32) (σ : gS) (M : gM) (N : gN) (_ : g_layM σ), g_H E 0 0 3 [(0, vR 40), (1, vL y1), (3, vL y3), (5, vL y5), (7, vI x7)] [] (σ, M, N) (k3 y1 y3 y5 x7 σ M) (eIM σ N)) (y1 : Int64) (y3 : Int64) (y5 : Int64) (x7 : Int32) (sy0 : Int64) (σ : gS) (M : gM) (N : gN) (hL : g_layM σ) : g_H E 0 0 34 [(0, vR 40), (1, vL y1), (3, vL y3), (5, vL y5), (7, vI x7)] [vL sy0] (σ, M, N) (b_X12_feed_34 k3 y1 y3 y5 x7 sy0 σ M) (eIM σ N) := by
  unfold b_X12_feed_34
  refine r_run J 6 (pc' := 46) (lv' := [(8, vL sy0), (0, vR 40), (1, vL y1), (3, vL y3), (5, vL y5), (7, vI x7)]) (st' := [vI 8, vI x7, vI 8, vI 56, vL sy0]) rfl ?_
  refine r_irem J rfl (fun c46 => ?_)
  refine r_run J 7 (pc' := 56) (lv' := [(10, vI ((sy0 >>> (((56 : Int32) - ((8 : Int32) * (x7 - x7 / (8 : Int32) * (8 : Int32)))).toInt64 &&& 63)).toInt32).toInt8.toInt32), (8, vL sy0), (0, vR 40), (1, vL y1), (3, vL y3), (5, vL y5), (7, vI x7)]) (st' := [vI ((sy0 >>> (((56 : Int32) - ((8 : Int32) * (x7 - x7 / (8 : Int32) * (8 : Int32)))).toInt64 &&& 63)).toInt32).toInt8.toInt32]) rfl ?_
  refine r_if_eq J (tgt := 93) rfl (by decide) (fun c56 => ?_) (fun c56 => ?_)
  · refine r_sub [2, 3, 4, 5, 6] (lv' := [(0, vR 40), (1, vL y1), (3, vL y3), (5, vL y5), (7, vI x7)]) rfl ?_
    exact p_X12_feed_93 J H3 y1 y3 y5 x7 σ M N hL
  · refine r_run J 1 (pc' := 60) (lv' := [(10, vI ((sy0 >>> (((56 : Int32) - ((8 : Int32) * (x7 - x7 / (8 : Int32) * (8 : Int32)))).toInt64 &&& 63)).toInt32).toInt8.toInt32), (8, vL sy0), (0, vR 40), (1, vL y1), (3, vL y3), (5, vL y5), (7, vI x7)]) (st' := [vR 40]) rfl ?_
    refine r_getI J cls12 rfl (k := 41) (by decide) wf_12_246 rfl (ly_40 hL) ?_
    show g_H E 0 0 63 [(10, vI ((sy0 >>> (((56 : Int32) - ((8 : Int32) * (x7 - x7 / (8 : Int32) * (8 : Int32)))).toInt64 &&& 63)).toInt32).toInt8.toInt32), (8, vL sy0), (0, vR 40), (1, vL y1), (3, vL y3), (5, vL y5), (7, vI x7)] [vI (M 40 41)] (σ, M, N) _ _
    refine r_run J 1 (pc' := 66) (lv' := [(10, vI ((sy0 >>> (((56 : Int32) - ((8 : Int32) * (x7 - x7 / (8 : Int32) * (8 : Int32)))).toInt64 &&& 63)).toInt32).toInt8.toInt32), (8, vL sy0), (0, vR 40), (1, vL y1), (3, vL y3), (5, vL y5), (7, vI x7)]) (st' := [vI 400, vI (M 40 41)]) rfl ?_
    refine r_icmp_ne J (tgt := 72) rfl (by decide) (fun c66 => ?_) (fun c66 => ?_)
    · refine r_run J 1 (pc' := 93) (lv' := [(10, vI ((sy0 >>> (((56 : Int32) - ((8 : Int32) * (x7 - x7 / (8 : Int32) * (8 : Int32)))).toInt64 &&& 63)).toInt32).toInt8.toInt32), (8, vL sy0), (0, vR 40), (1, vL y1), (3, vL y3), (5, vL y5), (7, vI x7)]) (st' := []) rfl ?_
      refine r_sub [2, 3, 4, 5, 6] (lv' := [(0, vR 40), (1, vL y1), (3, vL y3), (5, vL y5), (7, vI x7)]) rfl ?_
      exact p_X12_feed_93 J H3 y1 y3 y5 x7 σ M N hL
    · refine r_run J 1 (pc' := 73) (lv' := [(10, vI ((sy0 >>> (((56 : Int32) - ((8 : Int32) * (x7 - x7 / (8 : Int32) * (8 : Int32)))).toInt64 &&& 63)).toInt32).toInt8.toInt32), (8, vL sy0), (0, vR 40), (1, vL y1), (3, vL y3), (5, vL y5), (7, vI x7)]) (st' := [vR 40]) rfl ?_
      refine r_getR J cls12 rfl (k := 40) (t := 13) (by decide) wf_12_108 rfl rfl (ly_40 hL) (lr_40_40 hL) (fun _ => ?_)
      show g_H E 0 0 76 [(10, vI ((sy0 >>> (((56 : Int32) - ((8 : Int32) * (x7 - x7 / (8 : Int32) * (8 : Int32)))).toInt64 &&& 63)).toInt32).toInt8.toInt32), (8, vL sy0), (0, vR 40), (1, vL y1), (3, vL y3), (5, vL y5), (7, vI x7)] [vR 70] (σ, M, N) _ _
      refine r_run J 1 (pc' := 77) (lv' := [(10, vI ((sy0 >>> (((56 : Int32) - ((8 : Int32) * (x7 - x7 / (8 : Int32) * (8 : Int32)))).toInt64 &&& 63)).toInt32).toInt8.toInt32), (8, vL sy0), (0, vR 40), (1, vL y1), (3, vL y3), (5, vL y5), (7, vI x7)]) (st' := [vR 40, vR 70]) rfl ?_
      refine r_getI J cls12 rfl (k := 41) (by decide) wf_12_246 rfl (ly_40 hL) ?_
      show g_H E 0 0 80 [(10, vI ((sy0 >>> (((56 : Int32) - ((8 : Int32) * (x7 - x7 / (8 : Int32) * (8 : Int32)))).toInt64 &&& 63)).toInt32).toInt8.toInt32), (8, vL sy0), (0, vR 40), (1, vL y1), (3, vL y3), (5, vL y5), (7, vI x7)] [vI (M 40 41), vR 70] (σ, M, N) _ _
      refine r_run J 1 (pc' := 82) (lv' := [(10, vI ((sy0 >>> (((56 : Int32) - ((8 : Int32) * (x7 - x7 / (8 : Int32) * (8 : Int32)))).toInt64 &&& 63)).toInt32).toInt8.toInt32), (8, vL sy0), (0, vR 40), (1, vL y1), (3, vL y3), (5, vL y5), (7, vI x7)]) (st' := [vI ((sy0 >>> (((56 : Int32) - ((8 : Int32) * (x7 - x7 / (8 : Int32) * (8 : Int32)))).toInt64 &&& 63)).toInt32).toInt8.toInt32, vI (M 40 41), vR 70]) rfl ?_
      refine r_bast J rfl (ly_70 hL) (fun i82 => ?_)
      show g_H E 0 0 83 [(10, vI ((sy0 >>> (((56 : Int32) - ((8 : Int32) * (x7 - x7 / (8 : Int32) * (8 : Int32)))).toInt64 &&& 63)).toInt32).toInt8.toInt32), (8, vL sy0), (0, vR 40), (1, vL y1), (3, vL y3), (5, vL y5), (7, vI x7)] [] (σ, (g_up M 70 ((M 40 41).toNatClampNeg) (vp_nar .byte (((sy0 >>> (((56 : Int32) - ((8 : Int32) * (x7 - x7 / (8 : Int32) * (8 : Int32)))).toInt64 &&& 63)).toInt32).toInt8.toInt32))), N) _ _
      refine r_run J 2 (pc' := 85) (lv' := [(10, vI ((sy0 >>> (((56 : Int32) - ((8 : Int32) * (x7 - x7 / (8 : Int32) * (8 : Int32)))).toInt64 &&& 63)).toInt32).toInt8.toInt32), (8, vL sy0), (0, vR 40), (1, vL y1), (3, vL y3), (5, vL y5), (7, vI x7)]) (st' := [vR 40, vR 40]) rfl ?_
      refine r_getI J cls12 rfl (k := 41) (by decide) wf_12_246 rfl (ly_40 hL) ?_
      show g_H E 0 0 88 [(10, vI ((sy0 >>> (((56 : Int32) - ((8 : Int32) * (x7 - x7 / (8 : Int32) * (8 : Int32)))).toInt64 &&& 63)).toInt32).toInt8.toInt32), (8, vL sy0), (0, vR 40), (1, vL y1), (3, vL y3), (5, vL y5), (7, vI x7)] [vI ((g_up M 70 ((M 40 41).toNatClampNeg) (vp_nar .byte (((sy0 >>> (((56 : Int32) - ((8 : Int32) * (x7 - x7 / (8 : Int32) * (8 : Int32)))).toInt64 &&& 63)).toInt32).toInt8.toInt32))) 40 41), vR 40] (σ, (g_up M 70 ((M 40 41).toNatClampNeg) (vp_nar .byte (((sy0 >>> (((56 : Int32) - ((8 : Int32) * (x7 - x7 / (8 : Int32) * (8 : Int32)))).toInt64 &&& 63)).toInt32).toInt8.toInt32))), N) _ _
      refine r_run J 2 (pc' := 90) (lv' := [(10, vI ((sy0 >>> (((56 : Int32) - ((8 : Int32) * (x7 - x7 / (8 : Int32) * (8 : Int32)))).toInt64 &&& 63)).toInt32).toInt8.toInt32), (8, vL sy0), (0, vR 40), (1, vL y1), (3, vL y3), (5, vL y5), (7, vI x7)]) (st' := [vI (((g_up M 70 ((M 40 41).toNatClampNeg) (vp_nar .byte (((sy0 >>> (((56 : Int32) - ((8 : Int32) * (x7 - x7 / (8 : Int32) * (8 : Int32)))).toInt64 &&& 63)).toInt32).toInt8.toInt32))) 40 41) + (1 : Int32)), vR 40]) rfl ?_
      refine r_putI J cls12 rfl (k := 41) (by decide) wf_12_246 rfl (Or.inl rfl) ⟨rfl, rfl⟩ (ly_40 hL) ?_
      show g_H E 0 0 93 [(10, vI ((sy0 >>> (((56 : Int32) - ((8 : Int32) * (x7 - x7 / (8 : Int32) * (8 : Int32)))).toInt64 &&& 63)).toInt32).toInt8.toInt32), (8, vL sy0), (0, vR 40), (1, vL y1), (3, vL y3), (5, vL y5), (7, vI x7)] [] (σ, (g_up (g_up M 70 ((M 40 41).toNatClampNeg) (vp_nar .byte (((sy0 >>> (((56 : Int32) - ((8 : Int32) * (x7 - x7 / (8 : Int32) * (8 : Int32)))).toInt64 &&& 63)).toInt32).toInt8.toInt32))) 40 41 (((g_up M 70 ((M 40 41).toNatClampNeg) (vp_nar .byte (((sy0 >>> (((56 : Int32) - ((8 : Int32) * (x7 - x7 / (8 : Int32) * (8 : Int32)))).toInt64 &&& 63)).toInt32).toInt8.toInt32))) 40 41) + (1 : Int32))), N) _ _
      refine r_sub [2, 3, 4, 5, 6] (lv' := [(0, vR 40), (1, vL y1), (3, vL y3), (5, vL y5), (7, vI x7)]) rfl ?_
      exact p_X12_feed_93 J H3 y1 y3 y5 x7 σ (g_up (g_up M 70 ((M 40 41).toNatClampNeg) (vp_nar .byte (((sy0 >>> (((56 : Int32) - ((8 : Int32) * (x7 - x7 / (8 : Int32) * (8 : Int32)))).toInt64 &&& 63)).toInt32).toInt8.toInt32))) 40 41 (((g_up M 70 ((M 40 41).toNatClampNeg) (vp_nar .byte (((sy0 >>> (((56 : Int32) - ((8 : Int32) * (x7 - x7 / (8 : Int32) * (8 : Int32)))).toInt64 &&& 63)).toInt32).toInt8.toInt32))) 40 41) + (1 : Int32))) N hL
set_option maxHeartbeats 4000000 in
set_option maxRecDepth 100000 in
theorem p_X12_feed_3 {l : Launch} {E : gE} (J : J_X12_feed E l) : ∀ (n : Nat) (y1 : Int64) (y3 : Int64) (y5 : Int64) (x7 : Int32) (σ : gS) (M : gM) (N : gN) (hL : g_layM σ), g_H E 0 0 3 [(0, vR 40), (1, vL y1), (3, vL y3), (5, vL y5), (7, vI x7)] [] (σ, M, N) (l_X12_feed_3 n y1 y3 y5 x7 σ M) (eIM σ N) := by
  intro n
  induction n with
  | zero => intros; exact h_none
  | succ n ih =>
    intro y1 y3 y5 x7 σ M N hL
    rw [l_X12_feed_3]
    refine r_run J 2 (pc' := 7) (lv' := [(0, vR 40), (1, vL y1), (3, vL y3), (5, vL y5), (7, vI x7)]) (st' := [vI 24, vI x7]) rfl ?_
    refine r_icmp_ge J (tgt := 99) rfl (by decide) (fun c7 => ?_) (fun c7 => ?_)
    · refine r_run J 2 (pc' := 14) (lv' := [(0, vR 40), (1, vL y1), (3, vL y3), (5, vL y5), (7, vI x7)]) (st' := [vI 8, vI x7]) rfl ?_
      refine r_icmp_ge J (tgt := 21) rfl (by decide) (fun c14 => ?_) (fun c14 => ?_)
      · refine r_run J 2 (pc' := 34) (lv' := [(0, vR 40), (1, vL y1), (3, vL y3), (5, vL y5), (7, vI x7)]) (st' := [vL y1]) rfl ?_
        exact p_X12_feed_34 J ih y1 y3 y5 x7 y1 σ M N hL
      · refine r_run J 2 (pc' := 25) (lv' := [(0, vR 40), (1, vL y1), (3, vL y3), (5, vL y5), (7, vI x7)]) (st' := [vI 16, vI x7]) rfl ?_
        refine r_icmp_ge J (tgt := 32) rfl (by decide) (fun c25 => ?_) (fun c25 => ?_)
        · refine r_run J 2 (pc' := 34) (lv' := [(0, vR 40), (1, vL y1), (3, vL y3), (5, vL y5), (7, vI x7)]) (st' := [vL y3]) rfl ?_
          exact p_X12_feed_34 J ih y1 y3 y5 x7 y3 σ M N hL
        · refine r_run J 1 (pc' := 34) (lv' := [(0, vR 40), (1, vL y1), (3, vL y3), (5, vL y5), (7, vI x7)]) (st' := [vL y5]) rfl ?_
          exact p_X12_feed_34 J ih y1 y3 y5 x7 y5 σ M N hL
    · refine r_run J 1 (pc' := 100) (lv' := [(0, vR 40), (1, vL y1), (3, vL y3), (5, vL y5), (7, vI x7)]) (st' := [vR 40]) rfl ?_
      refine r_getI J cls12 rfl (k := 41) (by decide) wf_12_246 rfl (ly_40 hL) ?_
      show g_H E 0 0 103 [(0, vR 40), (1, vL y1), (3, vL y3), (5, vL y5), (7, vI x7)] [vI (M 40 41)] (σ, M, N) _ _
      exact r_iret J rfl rfl rfl rfl (by decide) (by decide)
set_option maxHeartbeats 4000000 in
set_option maxRecDepth 100000 in
theorem p_X12_feed_0 {l : Launch} {E : gE} (J : J_X12_feed E l) (y1 : Int64) (y3 : Int64) (y5 : Int64) (σ : gS) (M : gM) (N : gN) (hL : g_layM σ) : g_H E 0 0 0 [(0, vR 40), (1, vL y1), (3, vL y3), (5, vL y5)] [] (σ, M, N) (b_X12_feed_0 y1 y3 y5 σ M) (eIM σ N) := by
  unfold b_X12_feed_0
  refine r_run J 2 (pc' := 3) (lv' := [(7, vI 0), (0, vR 40), (1, vL y1), (3, vL y3), (5, vL y5)]) (st' := []) rfl ?_
  refine r_sub [1, 2, 3, 4, 0] (lv' := [(0, vR 40), (1, vL y1), (3, vL y3), (5, vL y5), (7, vI 0)]) rfl ?_
  exact p_X12_feed_3 J g_FU y1 y3 y5 0 σ M N hL
theorem c_X12_feed {l : Launch} (y1 : Int64) (y3 : Int64) (y5 : Int64) (σ : gS) (M : gM) (N : gN) (hL : g_layM σ) (r : Int32 × gM) (h : f_X12_feed y1 y3 y5 σ M = some r) : g_Ct l yX12_feed cX12_feed 11 (some .int) 1 0 0 [vR 40, vL y1, vL y3, vL y5] (σ, M, N) (eIM σ N r) :=
  g_Ct.of tb_X12_feed (by decide +kernel) tk_X12_feed (Nat.le_of_ble_eq_true rfl) (fun E J => p_X12_feed_0 J y1 y3 y5 σ M N hL r h)
def tb_X12_isSmall : gT := [(0, .aload_n 0, 1, 0), (1, .getfield 249, 3, 0), (4, .aload_n 0, 1, 0), (5, .getfield 252, 3, 0), (8, .if_icmp .ge 35, 3, 0), (11, .aload_n 0, 1, 0), (12, .getfield 121, 3, 0), (15, .aload_n 0, 1, 0), (16, .getfield 249, 3, 0), (19, .baload, 1, 0), (20, .bipush 97, 2, 97), (22, .if_icmp .lt 21, 3, 0), (25, .aload_n 0, 1, 0), (26, .getfield 121, 3, 0), (29, .aload_n 0, 1, 0), (30, .getfield 249, 3, 0), (33, .baload, 1, 0), (34, .bipush 122, 2, 122), (36, .if_icmp .gt 7, 3, 0), (39, .iconst 1, 1, 1), (40, .goto 4, 3, 0), (43, .iconst 0, 1, 0), (44, .ireturn, 1, 0)]
set_option maxRecDepth 100000 in
theorem tk_X12_isSmall : g_okT cX12_isSmall tb_X12_isSmall = true := by decide +kernel
abbrev J_X12_isSmall (E : gE) (l : Launch) : Prop := g_J E cX12_isSmall RX12 "isSmall" (some .boolean) 1 tb_X12_isSmall 1 0 0 l
set_option maxHeartbeats 4000000 in
set_option maxRecDepth 100000 in
theorem p_X12_isSmall_0 {l : Launch} {E : gE} (J : J_X12_isSmall E l) (σ : gS) (M : gM) (N : gN) (hL : g_layM σ) : g_H E 0 0 0 [(0, vR 40)] [] (σ, M, N) (b_X12_isSmall_0 σ M) (eI σ M N) := by
  unfold b_X12_isSmall_0
  refine r_run J 1 (pc' := 1) (lv' := [(0, vR 40)]) (st' := [vR 40]) rfl ?_
  refine r_getI J cls12 rfl (k := 47) (by decide) wf_12_249 rfl (ly_40 hL) ?_
  show g_H E 0 0 4 [(0, vR 40)] [vI (M 40 47)] (σ, M, N) _ _
  refine r_run J 1 (pc' := 5) (lv' := [(0, vR 40)]) (st' := [vR 40, vI (M 40 47)]) rfl ?_
  refine r_getI J cls12 rfl (k := 46) (by decide) wf_12_252 rfl (ly_40 hL) ?_
  show g_H E 0 0 8 [(0, vR 40)] [vI (M 40 46), vI (M 40 47)] (σ, M, N) _ _
  refine r_icmp_ge J (tgt := 43) rfl (by decide) (fun c8 => ?_) (fun c8 => ?_)
  · refine r_run J 1 (pc' := 12) (lv' := [(0, vR 40)]) (st' := [vR 40]) rfl ?_
    refine r_getR J cls12 rfl (k := 45) (t := 13) (by decide) wf_12_121 rfl rfl (ly_40 hL) (lr_40_45 hL) (fun _ => ?_)
    show g_H E 0 0 15 [(0, vR 40)] [vR 74] (σ, M, N) _ _
    refine r_run J 1 (pc' := 16) (lv' := [(0, vR 40)]) (st' := [vR 40, vR 74]) rfl ?_
    refine r_getI J cls12 rfl (k := 47) (by decide) wf_12_249 rfl (ly_40 hL) ?_
    show g_H E 0 0 19 [(0, vR 40)] [vI (M 40 47), vR 74] (σ, M, N) _ _
    refine r_bald J rfl (ly_74 hL) (fun i19 => ?_)
    show g_H E 0 0 20 [(0, vR 40)] [vI (M 74 (M 40 47).toNatClampNeg)] (σ, M, N) _ _
    refine r_run J 1 (pc' := 22) (lv' := [(0, vR 40)]) (st' := [vI 97, vI (M 74 (M 40 47).toNatClampNeg)]) rfl ?_
    refine r_icmp_lt J (tgt := 43) rfl (by decide) (fun c22 => ?_) (fun c22 => ?_)
    · refine r_run J 1 (pc' := 44) (lv' := [(0, vR 40)]) (st' := [vI 0]) rfl ?_
      exact r_iret J rfl rfl rfl rfl (by decide) (by decide)
    · refine r_run J 1 (pc' := 26) (lv' := [(0, vR 40)]) (st' := [vR 40]) rfl ?_
      refine r_getR J cls12 rfl (k := 45) (t := 13) (by decide) wf_12_121 rfl rfl (ly_40 hL) (lr_40_45 hL) (fun _ => ?_)
      show g_H E 0 0 29 [(0, vR 40)] [vR 74] (σ, M, N) _ _
      refine r_run J 1 (pc' := 30) (lv' := [(0, vR 40)]) (st' := [vR 40, vR 74]) rfl ?_
      refine r_getI J cls12 rfl (k := 47) (by decide) wf_12_249 rfl (ly_40 hL) ?_
      show g_H E 0 0 33 [(0, vR 40)] [vI (M 40 47), vR 74] (σ, M, N) _ _
      refine r_bald J rfl (ly_74 hL) (fun i33 => ?_)
      show g_H E 0 0 34 [(0, vR 40)] [vI (M 74 (M 40 47).toNatClampNeg)] (σ, M, N) _ _
      refine r_run J 1 (pc' := 36) (lv' := [(0, vR 40)]) (st' := [vI 122, vI (M 74 (M 40 47).toNatClampNeg)]) rfl ?_
      refine r_icmp_gt J (tgt := 43) rfl (by decide) (fun c36 => ?_) (fun c36 => ?_)
      · refine r_run J 1 (pc' := 44) (lv' := [(0, vR 40)]) (st' := [vI 0]) rfl ?_
        exact r_iret J rfl rfl rfl rfl (by decide) (by decide)
      · refine r_run J 2 (pc' := 44) (lv' := [(0, vR 40)]) (st' := [vI 1]) rfl ?_
        exact r_iret J rfl rfl rfl rfl (by decide) (by decide)
  · refine r_run J 1 (pc' := 44) (lv' := [(0, vR 40)]) (st' := [vI 0]) rfl ?_
    exact r_iret J rfl rfl rfl rfl (by decide) (by decide)
theorem c_X12_isSmall {l : Launch} (σ : gS) (M : gM) (N : gN) (hL : g_layM σ) (r : Int32) (h : f_X12_isSmall σ M = some r) : g_Ct l yX12_isSmall cX12_isSmall 1 (some .boolean) 1 0 0 [vR 40] (σ, M, N) (eI σ M N r) :=
  g_Ct.of tb_X12_isSmall (by decide +kernel) tk_X12_isSmall (Nat.le_of_ble_eq_true rfl) (fun E J => p_X12_isSmall_0 J σ M N hL r h)
def tb_X12_isDigit : gT := [(0, .aload_n 0, 1, 0), (1, .getfield 249, 3, 0), (4, .aload_n 0, 1, 0), (5, .getfield 252, 3, 0), (8, .if_icmp .ge 35, 3, 0), (11, .aload_n 0, 1, 0), (12, .getfield 121, 3, 0), (15, .aload_n 0, 1, 0), (16, .getfield 249, 3, 0), (19, .baload, 1, 0), (20, .bipush 48, 2, 48), (22, .if_icmp .lt 21, 3, 0), (25, .aload_n 0, 1, 0), (26, .getfield 121, 3, 0), (29, .aload_n 0, 1, 0), (30, .getfield 249, 3, 0), (33, .baload, 1, 0), (34, .bipush 57, 2, 57), (36, .if_icmp .gt 7, 3, 0), (39, .iconst 1, 1, 1), (40, .goto 4, 3, 0), (43, .iconst 0, 1, 0), (44, .ireturn, 1, 0)]
set_option maxRecDepth 100000 in
theorem tk_X12_isDigit : g_okT cX12_isDigit tb_X12_isDigit = true := by decide +kernel
abbrev J_X12_isDigit (E : gE) (l : Launch) : Prop := g_J E cX12_isDigit RX12 "isDigit" (some .boolean) 1 tb_X12_isDigit 1 0 0 l
set_option maxHeartbeats 4000000 in
set_option maxRecDepth 100000 in
theorem p_X12_isDigit_0 {l : Launch} {E : gE} (J : J_X12_isDigit E l) (σ : gS) (M : gM) (N : gN) (hL : g_layM σ) : g_H E 0 0 0 [(0, vR 40)] [] (σ, M, N) (b_X12_isDigit_0 σ M) (eI σ M N) := by
  unfold b_X12_isDigit_0
  refine r_run J 1 (pc' := 1) (lv' := [(0, vR 40)]) (st' := [vR 40]) rfl ?_
  refine r_getI J cls12 rfl (k := 47) (by decide) wf_12_249 rfl (ly_40 hL) ?_
  show g_H E 0 0 4 [(0, vR 40)] [vI (M 40 47)] (σ, M, N) _ _
  refine r_run J 1 (pc' := 5) (lv' := [(0, vR 40)]) (st' := [vR 40, vI (M 40 47)]) rfl ?_
  refine r_getI J cls12 rfl (k := 46) (by decide) wf_12_252 rfl (ly_40 hL) ?_
  show g_H E 0 0 8 [(0, vR 40)] [vI (M 40 46), vI (M 40 47)] (σ, M, N) _ _
  refine r_icmp_ge J (tgt := 43) rfl (by decide) (fun c8 => ?_) (fun c8 => ?_)
  · refine r_run J 1 (pc' := 12) (lv' := [(0, vR 40)]) (st' := [vR 40]) rfl ?_
    refine r_getR J cls12 rfl (k := 45) (t := 13) (by decide) wf_12_121 rfl rfl (ly_40 hL) (lr_40_45 hL) (fun _ => ?_)
    show g_H E 0 0 15 [(0, vR 40)] [vR 74] (σ, M, N) _ _
    refine r_run J 1 (pc' := 16) (lv' := [(0, vR 40)]) (st' := [vR 40, vR 74]) rfl ?_
    refine r_getI J cls12 rfl (k := 47) (by decide) wf_12_249 rfl (ly_40 hL) ?_
    show g_H E 0 0 19 [(0, vR 40)] [vI (M 40 47), vR 74] (σ, M, N) _ _
    refine r_bald J rfl (ly_74 hL) (fun i19 => ?_)
    show g_H E 0 0 20 [(0, vR 40)] [vI (M 74 (M 40 47).toNatClampNeg)] (σ, M, N) _ _
    refine r_run J 1 (pc' := 22) (lv' := [(0, vR 40)]) (st' := [vI 48, vI (M 74 (M 40 47).toNatClampNeg)]) rfl ?_
    refine r_icmp_lt J (tgt := 43) rfl (by decide) (fun c22 => ?_) (fun c22 => ?_)
    · refine r_run J 1 (pc' := 44) (lv' := [(0, vR 40)]) (st' := [vI 0]) rfl ?_
      exact r_iret J rfl rfl rfl rfl (by decide) (by decide)
    · refine r_run J 1 (pc' := 26) (lv' := [(0, vR 40)]) (st' := [vR 40]) rfl ?_
      refine r_getR J cls12 rfl (k := 45) (t := 13) (by decide) wf_12_121 rfl rfl (ly_40 hL) (lr_40_45 hL) (fun _ => ?_)
      show g_H E 0 0 29 [(0, vR 40)] [vR 74] (σ, M, N) _ _
      refine r_run J 1 (pc' := 30) (lv' := [(0, vR 40)]) (st' := [vR 40, vR 74]) rfl ?_
      refine r_getI J cls12 rfl (k := 47) (by decide) wf_12_249 rfl (ly_40 hL) ?_
      show g_H E 0 0 33 [(0, vR 40)] [vI (M 40 47), vR 74] (σ, M, N) _ _
      refine r_bald J rfl (ly_74 hL) (fun i33 => ?_)
      show g_H E 0 0 34 [(0, vR 40)] [vI (M 74 (M 40 47).toNatClampNeg)] (σ, M, N) _ _
      refine r_run J 1 (pc' := 36) (lv' := [(0, vR 40)]) (st' := [vI 57, vI (M 74 (M 40 47).toNatClampNeg)]) rfl ?_
      refine r_icmp_gt J (tgt := 43) rfl (by decide) (fun c36 => ?_) (fun c36 => ?_)
      · refine r_run J 1 (pc' := 44) (lv' := [(0, vR 40)]) (st' := [vI 0]) rfl ?_
        exact r_iret J rfl rfl rfl rfl (by decide) (by decide)
      · refine r_run J 2 (pc' := 44) (lv' := [(0, vR 40)]) (st' := [vI 1]) rfl ?_
        exact r_iret J rfl rfl rfl rfl (by decide) (by decide)
  · refine r_run J 1 (pc' := 44) (lv' := [(0, vR 40)]) (st' := [vI 0]) rfl ?_
    exact r_iret J rfl rfl rfl rfl (by decide) (by decide)
theorem c_X12_isDigit {l : Launch} (σ : gS) (M : gM) (N : gN) (hL : g_layM σ) (r : Int32) (h : f_X12_isDigit σ M = some r) : g_Ct l yX12_isDigit cX12_isDigit 1 (some .boolean) 1 0 0 [vR 40] (σ, M, N) (eI σ M N r) :=
  g_Ct.of tb_X12_isDigit (by decide +kernel) tk_X12_isDigit (Nat.le_of_ble_eq_true rfl) (fun E J => p_X12_isDigit_0 J σ M N hL r h)
def tb_X12_next : gT := [(0, .aload_n 0, 1, 0), (1, .getfield 249, 3, 0), (4, .aload_n 0, 1, 0), (5, .getfield 252, 3, 0), (8, .if_icmp .ge 44, 3, 0), (11, .aload_n 0, 1, 0), (12, .getfield 121, 3, 0), (15, .aload_n 0, 1, 0), (16, .getfield 249, 3, 0), (19, .baload, 1, 0), (20, .bipush 32, 2, 32), (22, .if_icmp .eq 17, 3, 0), (25, .aload_n 0, 1, 0), (26, .getfield 121, 3, 0), (29, .aload_n 0, 1, 0), (30, .getfield 249, 3, 0), (33, .baload, 1, 0), (34, .bipush 10, 2, 10), (36, .if_icmp .ne 16, 3, 0), (39, .aload_n 0, 1, 0), (40, .dup, 1, 0), (41, .getfield 249, 3, 0), (44, .iconst 1, 1, 1), (45, .iadd, 1, 0), (46, .putfield 249, 3, 0), (49, .goto (-49), 3, 0), (52, .aload_n 0, 1, 0), (53, .aload_n 0, 1, 0), (54, .getfield 249, 3, 0), (57, .putfield 255, 3, 0), (60, .aload_n 0, 1, 0), (61, .lconst 0, 1, 0), (62, .putfield 258, 3, 0), (65, .aload_n 0, 1, 0), (66, .getfield 249, 3, 0), (69, .aload_n 0, 1, 0), (70, .getfield 252, 3, 0), (73, .if_icmp .ne 11, 3, 0), (76, .aload_n 0, 1, 0), (77, .iconst 0, 1, 0), (78, .putfield 262, 3, 0), (81, .goto 286, 3, 0), (84, .aload_n 0, 1, 0), (85, .invokevirtual 265, 3, 0), (88, .ifCond .eq 73, 3, 0), (91, .aload_n 0, 1, 0), (92, .iconst 1, 1, 1), (93, .putfield 262, 3, 0), (96, .aload_n 0, 1, 0), (97, .invokevirtual 265, 3, 0), (100, .ifCond .eq 267, 3, 0), (103, .aload_n 0, 1, 0), (104, .aload_n 0, 1, 0), (105, .getfield 249, 3, 0), (108, .aload_n 0, 1, 0), (109, .getfield 255, 3, 0), (112, .isub, 1, 0), (113, .bipush 7, 2, 7), (115, .if_icmp .ge 29, 3, 0), (118, .ldc2_w 269, 3, 0), (121, .aload_n 0, 1, 0), (122, .getfield 258, 3, 0), (125, .lmul, 1, 0), (126, .aload_n 0, 1, 0), (127, .getfield 121, 3, 0), (130, .aload_n 0, 1, 0), (131, .getfield 249, 3, 0), (134, .baload, 1, 0), (135, .i2l, 1, 0), (136, .ladd, 1, 0), (137, .ldc2_w 271, 3, 0), (140, .lsub, 1, 0), (141, .goto 4, 3, 0), (144, .lconst 0, 1, 0), (145, .putfield 258, 3, 0), (148, .aload_n 0, 1, 0), (149, .dup, 1, 0), (150, .getfield 249, 3, 0), (153, .iconst 1, 1, 1), (154, .iadd, 1, 0), (155, .putfield 249, 3, 0), (158, .goto (-62), 3, 0), (161, .aload_n 0, 1, 0), (162, .invokevirtual 273, 3, 0), (165, .ifCond .eq 92, 3, 0), (168, .aload_n 0, 1, 0), (169, .invokevirtual 273, 3, 0), (172, .ifCond .eq 60, 3, 0), (175, .aload_n 0, 1, 0), (176, .aload_n 0, 1, 0), (177, .getfield 249, 3, 0), (180, .aload_n 0, 1, 0), (181, .getfield 255, 3, 0), (184, .isub, 1, 0), (185, .iconst 4, 1, 4), (186, .if_icmp .ge 29, 3, 0), (189, .ldc2_w 276, 3, 0), (192, .aload_n 0, 1, 0), (193, .getfield 258, 3, 0), (196, .lmul, 1, 0), (197, .aload_n 0, 1, 0), (198, .getfield 121, 3, 0), (201, .aload_n 0, 1, 0), (202, .getfield 249, 3, 0), (205, .baload, 1, 0), (206, .i2l, 1, 0), (207, .ladd, 1, 0), (208, .ldc2_w 278, 3, 0), (211, .lsub, 1, 0), (212, .goto 4, 3, 0), (215, .lconst 0, 1, 0), (216, .putfield 258, 3, 0), (219, .aload_n 0, 1, 0), (220, .dup, 1, 0), (221, .getfield 249, 3, 0), (224, .iconst 1, 1, 1), (225, .iadd, 1, 0), (226, .putfield 249, 3, 0), (229, .goto (-61), 3, 0), (232, .aload_n 0, 1, 0), (233, .aload_n 0, 1, 0), (234, .getfield 249, 3, 0), (237, .aload_n 0, 1, 0), (238, .getfield 255, 3, 0), (241, .isub, 1, 0), (242, .iconst 4, 1, 4), (243, .if_icmp .le 7, 3, 0), (246, .iconst 4, 1, 4), (247, .goto 4, 3, 0), (250, .iconst 2, 1, 2), (251, .putfield 262, 3, 0), (254, .goto 113, 3, 0), (257, .aload_n 0, 1, 0), (258, .aload_n 0, 1, 0), (259, .getfield 121, 3, 0), (262, .aload_n 0, 1, 0), (263, .getfield 249, 3, 0), (266, .baload, 1, 0), (267, .i2l, 1, 0), (268, .putfield 258, 3, 0), (271, .aload_n 0, 1, 0), (272, .aload_n 0, 1, 0), (273, .getfield 258, 3, 0), (276, .ldc2_w 280, 3, 0), (279, .lcmp, 1, 0), (280, .ifCond .eq 69, 3, 0), (283, .aload_n 0, 1, 0), (284, .getfield 258, 3, 0), (287, .ldc2_w 282, 3, 0), (290, .lcmp, 1, 0), (291, .ifCond .eq 58, 3, 0), (294, .aload_n 0, 1, 0), (295, .getfield 258, 3, 0), (298, .ldc2_w 284, 3, 0), (301, .lcmp, 1, 0), (302, .ifCond .eq 47, 3, 0), (305, .aload_n 0, 1, 0), (306, .getfield 258, 3, 0), (309, .ldc2_w 286, 3, 0), (312, .lcmp, 1, 0), (313, .ifCond .eq 36, 3, 0), (316, .aload_n 0, 1, 0), (317, .getfield 258, 3, 0), (320, .ldc2_w 288, 3, 0), (323, .lcmp, 1, 0), (324, .ifCond .eq 25, 3, 0), (327, .aload_n 0, 1, 0), (328, .getfield 258, 3, 0), (331, .ldc2_w 290, 3, 0), (334, .lcmp, 1, 0), (335, .ifCond .eq 14, 3, 0), (338, .aload_n 0, 1, 0), (339, .getfield 258, 3, 0), (342, .ldc2_w 292, 3, 0), (345, .lcmp, 1, 0), (346, .ifCond .ne 7, 3, 0), (349, .iconst 3, 1, 3), (350, .goto 4, 3, 0), (353, .iconst 4, 1, 4), (354, .putfield 262, 3, 0), (357, .aload_n 0, 1, 0), (358, .dup, 1, 0), (359, .getfield 249, 3, 0), (362, .iconst 1, 1, 1), (363, .iadd, 1, 0), (364, .putfield 249, 3, 0), (367, .return_, 1, 0)]
set_option maxRecDepth 100000 in
theorem tk_X12_next : g_okT cX12_next tb_X12_next = true := by decide +kernel
abbrev J_X12_next (E : gE) (l : Launch) : Prop := g_J E cX12_next RX12 "next" none 1 tb_X12_next 2 0 0 l
set_option maxHeartbeats 4000000 in
set_option maxRecDepth 100000 in
theorem p_X12_next_354 {l : Launch} {E : gE} (J : J_X12_next E l) (sx0 : Int32) (σ : gS) (M : gM) (N : gN) (hL : g_layM σ) : g_H E 0 0 354 [(0, vR 40)] [vI sx0, vR 40] (σ, M, N) (b_X12_next_354 sx0 σ M N) (eVMN σ) := by
  unfold b_X12_next_354
  refine r_putI J cls12 rfl (k := 49) (by decide) wf_12_262 rfl (Or.inl rfl) ⟨rfl, rfl⟩ (ly_40 hL) ?_
  show g_H E 0 0 357 [(0, vR 40)] [] (σ, (g_up M 40 49 sx0), N) _ _
  refine r_run J 2 (pc' := 359) (lv' := [(0, vR 40)]) (st' := [vR 40, vR 40]) rfl ?_
  refine r_getI J cls12 rfl (k := 47) (by decide) wf_12_249 rfl (ly_40 hL) ?_
  show g_H E 0 0 362 [(0, vR 40)] [vI ((g_up M 40 49 sx0) 40 47), vR 40] (σ, (g_up M 40 49 sx0), N) _ _
  refine r_run J 2 (pc' := 364) (lv' := [(0, vR 40)]) (st' := [vI (((g_up M 40 49 sx0) 40 47) + (1 : Int32)), vR 40]) rfl ?_
  refine r_putI J cls12 rfl (k := 47) (by decide) wf_12_249 rfl (Or.inl rfl) ⟨rfl, rfl⟩ (ly_40 hL) ?_
  show g_H E 0 0 367 [(0, vR 40)] [] (σ, (g_up (g_up M 40 49 sx0) 40 47 (((g_up M 40 49 sx0) 40 47) + (1 : Int32))), N) _ _
  exact r_vret J rfl rfl rfl (by decide) (by decide)
set_option maxHeartbeats 4000000 in
set_option maxRecDepth 100000 in
theorem p_X12_next_349 {l : Launch} {E : gE} (J : J_X12_next E l) (σ : gS) (M : gM) (N : gN) (hL : g_layM σ) : g_H E 0 0 349 [(0, vR 40)] [vR 40] (σ, M, N) (b_X12_next_349 σ M N) (eVMN σ) := by
  unfold b_X12_next_349
  refine r_run J 2 (pc' := 354) (lv' := [(0, vR 40)]) (st' := [vI 3, vR 40]) rfl ?_
  exact p_X12_next_354 J 3 σ M N hL
set_option maxHeartbeats 4000000 in
set_option maxRecDepth 100000 in
theorem p_X12_next_251 {l : Launch} {E : gE} (J : J_X12_next E l) (sx0 : Int32) (σ : gS) (M : gM) (N : gN) (hL : g_layM σ) : g_H E 0 0 251 [] [vI sx0, vR 40] (σ, M, N) (b_X12_next_251 sx0 σ M N) (eVMN σ) := by
  unfold b_X12_next_251
  refine r_putI J cls12 rfl (k := 49) (by decide) wf_12_262 rfl (Or.inl rfl) ⟨rfl, rfl⟩ (ly_40 hL) ?_
  show g_H E 0 0 254 [] [] (σ, (g_up M 40 49 sx0), N) _ _
  refine r_run J 1 (pc' := 367) (lv' := []) (st' := []) rfl ?_
  exact r_vret J rfl rfl rfl (by decide) (by decide)
set_option maxHeartbeats 4000000 in
set_option maxRecDepth 100000 in
theorem p_X12_next_216 {l : Launch} {E : gE} (J : J_X12_next E l) {k168 : gS → gM → gN → Option (gM × gN)} (H168 : ∀ (σ : gS) (M : gM) (N : gN) (_ : g_layM σ), g_H E 0 0 168 [(0, vR 40)] [] (σ, M, N) (k168 σ M N) (eVMN σ)) (sy0 : Int64) (σ : gS) (M : gM) (N : gN) (hL : g_layM σ) : g_H E 0 0 216 [(0, vR 40)] [vL sy0, vR 40] (σ, M, N) (b_X12_next_216 k168 sy0 σ M N) (eVMN σ) := by
  unfold b_X12_next_216
  refine r_putL J cls12 rfl (k := 53) (by decide) wf_12_258 rfl rfl (ly_40 hL) ?_
  show g_H E 0 0 219 [(0, vR 40)] [] (σ, M, (g_up N 40 53 sy0)) _ _
  refine r_run J 2 (pc' := 221) (lv' := [(0, vR 40)]) (st' := [vR 40, vR 40]) rfl ?_
  refine r_getI J cls12 rfl (k := 47) (by decide) wf_12_249 rfl (ly_40 hL) ?_
  show g_H E 0 0 224 [(0, vR 40)] [vI (M 40 47), vR 40] (σ, M, (g_up N 40 53 sy0)) _ _
  refine r_run J 2 (pc' := 226) (lv' := [(0, vR 40)]) (st' := [vI ((M 40 47) + (1 : Int32)), vR 40]) rfl ?_
  refine r_putI J cls12 rfl (k := 47) (by decide) wf_12_249 rfl (Or.inl rfl) ⟨rfl, rfl⟩ (ly_40 hL) ?_
  show g_H E 0 0 229 [(0, vR 40)] [] (σ, (g_up M 40 47 ((M 40 47) + (1 : Int32))), (g_up N 40 53 sy0)) _ _
  refine r_run J 1 (pc' := 168) (lv' := [(0, vR 40)]) (st' := []) rfl ?_
  exact H168 σ (g_up M 40 47 ((M 40 47) + (1 : Int32))) (g_up N 40 53 sy0) hL
set_option maxHeartbeats 4000000 in
set_option maxRecDepth 100000 in
theorem p_X12_next_168 {l : Launch} {E : gE} (J : J_X12_next E l) : ∀ (n : Nat) (σ : gS) (M : gM) (N : gN) (hL : g_layM σ), g_H E 0 0 168 [(0, vR 40)] [] (σ, M, N) (l_X12_next_168 n σ M N) (eVMN σ) := by
  intro n
  induction n with
  | zero => intros; exact h_none
  | succ n ih =>
    intro σ M N hL
    rw [l_X12_next_168]
    refine r_run J 1 (pc' := 169) (lv' := [(0, vR 40)]) (st' := [vR 40]) rfl ?_
    refine r_callV J (As := []) (st := []) (fun r hr => c_X12_isDigit σ M N hL r hr) cls12 (ly_40 hL) wm_12_273 wy_X12_isDigit wd_X12_isDigit ⟨by decide, by decide, by decide, by decide, Nat.le_of_ble_eq_true rfl⟩ rfl rfl (fun q169 hq169 => ?_)
    show g_H E 0 0 172 [(0, vR 40)] [vI q169] (σ, M, N) _ _
    refine r_if_eq J (tgt := 232) rfl (by decide) (fun c172 => ?_) (fun c172 => ?_)
    · refine r_run J 2 (pc' := 234) (lv' := [(0, vR 40)]) (st' := [vR 40, vR 40]) rfl ?_
      refine r_getI J cls12 rfl (k := 47) (by decide) wf_12_249 rfl (ly_40 hL) ?_
      show g_H E 0 0 237 [(0, vR 40)] [vI (M 40 47), vR 40] (σ, M, N) _ _
      refine r_run J 1 (pc' := 238) (lv' := [(0, vR 40)]) (st' := [vR 40, vI (M 40 47), vR 40]) rfl ?_
      refine r_getI J cls12 rfl (k := 48) (by decide) wf_12_255 rfl (ly_40 hL) ?_
      show g_H E 0 0 241 [(0, vR 40)] [vI (M 40 48), vI (M 40 47), vR 40] (σ, M, N) _ _
      refine r_run J 2 (pc' := 243) (lv' := [(0, vR 40)]) (st' := [vI 4, vI ((M 40 47) - (M 40 48)), vR 40]) rfl ?_
      refine r_icmp_le J (tgt := 250) rfl (by decide) (fun c243 => ?_) (fun c243 => ?_)
      · refine r_run J 2 (pc' := 251) (lv' := [(0, vR 40)]) (st' := [vI 4, vR 40]) rfl ?_
        refine r_sub [] (lv' := []) rfl ?_
        exact p_X12_next_251 J 4 σ M N hL
      · refine r_run J 1 (pc' := 251) (lv' := [(0, vR 40)]) (st' := [vI 2, vR 40]) rfl ?_
        refine r_sub [] (lv' := []) rfl ?_
        exact p_X12_next_251 J 2 σ M N hL
    · refine r_run J 2 (pc' := 177) (lv' := [(0, vR 40)]) (st' := [vR 40, vR 40]) rfl ?_
      refine r_getI J cls12 rfl (k := 47) (by decide) wf_12_249 rfl (ly_40 hL) ?_
      show g_H E 0 0 180 [(0, vR 40)] [vI (M 40 47), vR 40] (σ, M, N) _ _
      refine r_run J 1 (pc' := 181) (lv' := [(0, vR 40)]) (st' := [vR 40, vI (M 40 47), vR 40]) rfl ?_
      refine r_getI J cls12 rfl (k := 48) (by decide) wf_12_255 rfl (ly_40 hL) ?_
      show g_H E 0 0 184 [(0, vR 40)] [vI (M 40 48), vI (M 40 47), vR 40] (σ, M, N) _ _
      refine r_run J 2 (pc' := 186) (lv' := [(0, vR 40)]) (st' := [vI 4, vI ((M 40 47) - (M 40 48)), vR 40]) rfl ?_
      refine r_icmp_ge J (tgt := 215) rfl (by decide) (fun c186 => ?_) (fun c186 => ?_)
      · refine r_ldc2 J rfl wc_12_276 ?_
        refine r_run J 1 (pc' := 193) (lv' := [(0, vR 40)]) (st' := [vR 40, vL 10, vR 40]) rfl ?_
        refine r_getL J cls12 rfl (k := 53) (by decide) wf_12_258 rfl (ly_40 hL) ?_
        show g_H E 0 0 196 [(0, vR 40)] [vL (N 40 53), vL 10, vR 40] (σ, M, N) _ _
        refine r_run J 2 (pc' := 198) (lv' := [(0, vR 40)]) (st' := [vR 40, vL (10 * (N 40 53)), vR 40]) rfl ?_
        refine r_getR J cls12 rfl (k := 45) (t := 13) (by decide) wf_12_121 rfl rfl (ly_40 hL) (lr_40_45 hL) (fun _ => ?_)
        show g_H E 0 0 201 [(0, vR 40)] [vR 74, vL (10 * (N 40 53)), vR 40] (σ, M, N) _ _
        refine r_run J 1 (pc' := 202) (lv' := [(0, vR 40)]) (st' := [vR 40, vR 74, vL (10 * (N 40 53)), vR 40]) rfl ?_
        refine r_getI J cls12 rfl (k := 47) (by decide) wf_12_249 rfl (ly_40 hL) ?_
        show g_H E 0 0 205 [(0, vR 40)] [vI (M 40 47), vR 74, vL (10 * (N 40 53)), vR 40] (σ, M, N) _ _
        refine r_bald J rfl (ly_74 hL) (fun i205 => ?_)
        show g_H E 0 0 206 [(0, vR 40)] [vI (M 74 (M 40 47).toNatClampNeg), vL (10 * (N 40 53)), vR 40] (σ, M, N) _ _
        refine r_run J 2 (pc' := 208) (lv' := [(0, vR 40)]) (st' := [vL ((10 * (N 40 53)) + ((M 74 (M 40 47).toNatClampNeg).toInt64)), vR 40]) rfl ?_
        refine r_ldc2 J rfl wc_12_278 ?_
        refine r_run J 2 (pc' := 216) (lv' := [(0, vR 40)]) (st' := [vL (((10 * (N 40 53)) + ((M 74 (M 40 47).toNatClampNeg).toInt64)) - 48), vR 40]) rfl ?_
        exact p_X12_next_216 J ih (((10 * (N 40 53)) + ((M 74 (M 40 47).toNatClampNeg).toInt64)) - 48) σ M N hL
      · refine r_run J 1 (pc' := 216) (lv' := [(0, vR 40)]) (st' := [vL (Int64.ofNat 0), vR 40]) rfl ?_
        exact p_X12_next_216 J ih (Int64.ofNat 0) σ M N hL
set_option maxHeartbeats 4000000 in
set_option maxRecDepth 100000 in
theorem p_X12_next_145 {l : Launch} {E : gE} (J : J_X12_next E l) {k96 : gS → gM → gN → Option (gM × gN)} (H96 : ∀ (σ : gS) (M : gM) (N : gN) (_ : g_layM σ), g_H E 0 0 96 [(0, vR 40)] [] (σ, M, N) (k96 σ M N) (eVMN σ)) (sy0 : Int64) (σ : gS) (M : gM) (N : gN) (hL : g_layM σ) : g_H E 0 0 145 [(0, vR 40)] [vL sy0, vR 40] (σ, M, N) (b_X12_next_145 k96 sy0 σ M N) (eVMN σ) := by
  unfold b_X12_next_145
  refine r_putL J cls12 rfl (k := 53) (by decide) wf_12_258 rfl rfl (ly_40 hL) ?_
  show g_H E 0 0 148 [(0, vR 40)] [] (σ, M, (g_up N 40 53 sy0)) _ _
  refine r_run J 2 (pc' := 150) (lv' := [(0, vR 40)]) (st' := [vR 40, vR 40]) rfl ?_
  refine r_getI J cls12 rfl (k := 47) (by decide) wf_12_249 rfl (ly_40 hL) ?_
  show g_H E 0 0 153 [(0, vR 40)] [vI (M 40 47), vR 40] (σ, M, (g_up N 40 53 sy0)) _ _
  refine r_run J 2 (pc' := 155) (lv' := [(0, vR 40)]) (st' := [vI ((M 40 47) + (1 : Int32)), vR 40]) rfl ?_
  refine r_putI J cls12 rfl (k := 47) (by decide) wf_12_249 rfl (Or.inl rfl) ⟨rfl, rfl⟩ (ly_40 hL) ?_
  show g_H E 0 0 158 [(0, vR 40)] [] (σ, (g_up M 40 47 ((M 40 47) + (1 : Int32))), (g_up N 40 53 sy0)) _ _
  refine r_run J 1 (pc' := 96) (lv' := [(0, vR 40)]) (st' := []) rfl ?_
  exact H96 σ (g_up M 40 47 ((M 40 47) + (1 : Int32))) (g_up N 40 53 sy0) hL
set_option maxHeartbeats 4000000 in
set_option maxRecDepth 100000 in
theorem p_X12_next_96 {l : Launch} {E : gE} (J : J_X12_next E l) : ∀ (n : Nat) (σ : gS) (M : gM) (N : gN) (hL : g_layM σ), g_H E 0 0 96 [(0, vR 40)] [] (σ, M, N) (l_X12_next_96 n σ M N) (eVMN σ) := by
  intro n
  induction n with
  | zero => intros; exact h_none
  | succ n ih =>
    intro σ M N hL
    rw [l_X12_next_96]
    refine r_run J 1 (pc' := 97) (lv' := [(0, vR 40)]) (st' := [vR 40]) rfl ?_
    refine r_callV J (As := []) (st := []) (fun r hr => c_X12_isSmall σ M N hL r hr) cls12 (ly_40 hL) wm_12_265 wy_X12_isSmall wd_X12_isSmall ⟨by decide, by decide, by decide, by decide, Nat.le_of_ble_eq_true rfl⟩ rfl rfl (fun q97 hq97 => ?_)
    show g_H E 0 0 100 [(0, vR 40)] [vI q97] (σ, M, N) _ _
    refine r_if_eq J (tgt := 367) rfl (by decide) (fun c100 => ?_) (fun c100 => ?_)
    · exact r_vret J rfl rfl rfl (by decide) (by decide)
    · refine r_run J 2 (pc' := 105) (lv' := [(0, vR 40)]) (st' := [vR 40, vR 40]) rfl ?_
      refine r_getI J cls12 rfl (k := 47) (by decide) wf_12_249 rfl (ly_40 hL) ?_
      show g_H E 0 0 108 [(0, vR 40)] [vI (M 40 47), vR 40] (σ, M, N) _ _
      refine r_run J 1 (pc' := 109) (lv' := [(0, vR 40)]) (st' := [vR 40, vI (M 40 47), vR 40]) rfl ?_
      refine r_getI J cls12 rfl (k := 48) (by decide) wf_12_255 rfl (ly_40 hL) ?_
      show g_H E 0 0 112 [(0, vR 40)] [vI (M 40 48), vI (M 40 47), vR 40] (σ, M, N) _ _
      refine r_run J 2 (pc' := 115) (lv' := [(0, vR 40)]) (st' := [vI 7, vI ((M 40 47) - (M 40 48)), vR 40]) rfl ?_
      refine r_icmp_ge J (tgt := 144) rfl (by decide) (fun c115 => ?_) (fun c115 => ?_)
      · refine r_ldc2 J rfl wc_12_269 ?_
        refine r_run J 1 (pc' := 122) (lv' := [(0, vR 40)]) (st' := [vR 40, vL 27, vR 40]) rfl ?_
        refine r_getL J cls12 rfl (k := 53) (by decide) wf_12_258 rfl (ly_40 hL) ?_
        show g_H E 0 0 125 [(0, vR 40)] [vL (N 40 53), vL 27, vR 40] (σ, M, N) _ _
        refine r_run J 2 (pc' := 127) (lv' := [(0, vR 40)]) (st' := [vR 40, vL (27 * (N 40 53)), vR 40]) rfl ?_
        refine r_getR J cls12 rfl (k := 45) (t := 13) (by decide) wf_12_121 rfl rfl (ly_40 hL) (lr_40_45 hL) (fun _ => ?_)
        show g_H E 0 0 130 [(0, vR 40)] [vR 74, vL (27 * (N 40 53)), vR 40] (σ, M, N) _ _
        refine r_run J 1 (pc' := 131) (lv' := [(0, vR 40)]) (st' := [vR 40, vR 74, vL (27 * (N 40 53)), vR 40]) rfl ?_
        refine r_getI J cls12 rfl (k := 47) (by decide) wf_12_249 rfl (ly_40 hL) ?_
        show g_H E 0 0 134 [(0, vR 40)] [vI (M 40 47), vR 74, vL (27 * (N 40 53)), vR 40] (σ, M, N) _ _
        refine r_bald J rfl (ly_74 hL) (fun i134 => ?_)
        show g_H E 0 0 135 [(0, vR 40)] [vI (M 74 (M 40 47).toNatClampNeg), vL (27 * (N 40 53)), vR 40] (σ, M, N) _ _
        refine r_run J 2 (pc' := 137) (lv' := [(0, vR 40)]) (st' := [vL ((27 * (N 40 53)) + ((M 74 (M 40 47).toNatClampNeg).toInt64)), vR 40]) rfl ?_
        refine r_ldc2 J rfl wc_12_271 ?_
        refine r_run J 2 (pc' := 145) (lv' := [(0, vR 40)]) (st' := [vL (((27 * (N 40 53)) + ((M 74 (M 40 47).toNatClampNeg).toInt64)) - 96), vR 40]) rfl ?_
        exact p_X12_next_145 J ih (((27 * (N 40 53)) + ((M 74 (M 40 47).toNatClampNeg).toInt64)) - 96) σ M N hL
      · refine r_run J 1 (pc' := 145) (lv' := [(0, vR 40)]) (st' := [vL (Int64.ofNat 0), vR 40]) rfl ?_
        exact p_X12_next_145 J ih (Int64.ofNat 0) σ M N hL
set_option maxHeartbeats 4000000 in
set_option maxRecDepth 100000 in
theorem p_X12_next_52 {l : Launch} {E : gE} (J : J_X12_next E l) (σ : gS) (M : gM) (N : gN) (hL : g_layM σ) : g_H E 0 0 52 [(0, vR 40)] [] (σ, M, N) (b_X12_next_52 σ M N) (eVMN σ) := by
  unfold b_X12_next_52
  refine r_run J 2 (pc' := 54) (lv' := [(0, vR 40)]) (st' := [vR 40, vR 40]) rfl ?_
  refine r_getI J cls12 rfl (k := 47) (by decide) wf_12_249 rfl (ly_40 hL) ?_
  show g_H E 0 0 57 [(0, vR 40)] [vI (M 40 47), vR 40] (σ, M, N) _ _
  refine r_putI J cls12 rfl (k := 48) (by decide) wf_12_255 rfl (Or.inl rfl) ⟨rfl, rfl⟩ (ly_40 hL) ?_
  show g_H E 0 0 60 [(0, vR 40)] [] (σ, (g_up M 40 48 (M 40 47)), N) _ _
  refine r_run J 2 (pc' := 62) (lv' := [(0, vR 40)]) (st' := [vL (Int64.ofNat 0), vR 40]) rfl ?_
  refine r_putL J cls12 rfl (k := 53) (by decide) wf_12_258 rfl rfl (ly_40 hL) ?_
  show g_H E 0 0 65 [(0, vR 40)] [] (σ, (g_up M 40 48 (M 40 47)), (g_up N 40 53 (Int64.ofNat 0))) _ _
  refine r_run J 1 (pc' := 66) (lv' := [(0, vR 40)]) (st' := [vR 40]) rfl ?_
  refine r_getI J cls12 rfl (k := 47) (by decide) wf_12_249 rfl (ly_40 hL) ?_
  show g_H E 0 0 69 [(0, vR 40)] [vI ((g_up M 40 48 (M 40 47)) 40 47)] (σ, (g_up M 40 48 (M 40 47)), (g_up N 40 53 (Int64.ofNat 0))) _ _
  refine r_run J 1 (pc' := 70) (lv' := [(0, vR 40)]) (st' := [vR 40, vI ((g_up M 40 48 (M 40 47)) 40 47)]) rfl ?_
  refine r_getI J cls12 rfl (k := 46) (by decide) wf_12_252 rfl (ly_40 hL) ?_
  show g_H E 0 0 73 [(0, vR 40)] [vI ((g_up M 40 48 (M 40 47)) 40 46), vI ((g_up M 40 48 (M 40 47)) 40 47)] (σ, (g_up M 40 48 (M 40 47)), (g_up N 40 53 (Int64.ofNat 0))) _ _
  refine r_icmp_ne J (tgt := 84) rfl (by decide) (fun c73 => ?_) (fun c73 => ?_)
  · refine r_run J 2 (pc' := 78) (lv' := [(0, vR 40)]) (st' := [vI 0, vR 40]) rfl ?_
    refine r_putI J cls12 rfl (k := 49) (by decide) wf_12_262 rfl (Or.inl rfl) ⟨rfl, rfl⟩ (ly_40 hL) ?_
    show g_H E 0 0 81 [(0, vR 40)] [] (σ, (g_up (g_up M 40 48 (M 40 47)) 40 49 0), (g_up N 40 53 (Int64.ofNat 0))) _ _
    refine r_run J 1 (pc' := 367) (lv' := [(0, vR 40)]) (st' := []) rfl ?_
    exact r_vret J rfl rfl rfl (by decide) (by decide)
  · refine r_run J 1 (pc' := 85) (lv' := [(0, vR 40)]) (st' := [vR 40]) rfl ?_
    refine r_callV J (As := []) (st := []) (fun r hr => c_X12_isSmall σ (g_up M 40 48 (M 40 47)) (g_up N 40 53 (Int64.ofNat 0)) hL r hr) cls12 (ly_40 hL) wm_12_265 wy_X12_isSmall wd_X12_isSmall ⟨by decide, by decide, by decide, by decide, Nat.le_of_ble_eq_true rfl⟩ rfl rfl (fun q85 hq85 => ?_)
    show g_H E 0 0 88 [(0, vR 40)] [vI q85] (σ, (g_up M 40 48 (M 40 47)), (g_up N 40 53 (Int64.ofNat 0))) _ _
    refine r_if_eq J (tgt := 161) rfl (by decide) (fun c88 => ?_) (fun c88 => ?_)
    · refine r_run J 1 (pc' := 162) (lv' := [(0, vR 40)]) (st' := [vR 40]) rfl ?_
      refine r_callV J (As := []) (st := []) (fun r hr => c_X12_isDigit σ (g_up M 40 48 (M 40 47)) (g_up N 40 53 (Int64.ofNat 0)) hL r hr) cls12 (ly_40 hL) wm_12_273 wy_X12_isDigit wd_X12_isDigit ⟨by decide, by decide, by decide, by decide, Nat.le_of_ble_eq_true rfl⟩ rfl rfl (fun q162 hq162 => ?_)
      show g_H E 0 0 165 [(0, vR 40)] [vI q162] (σ, (g_up M 40 48 (M 40 47)), (g_up N 40 53 (Int64.ofNat 0))) _ _
      refine r_if_eq J (tgt := 257) rfl (by decide) (fun c165 => ?_) (fun c165 => ?_)
      · refine r_run J 2 (pc' := 259) (lv' := [(0, vR 40)]) (st' := [vR 40, vR 40]) rfl ?_
        refine r_getR J cls12 rfl (k := 45) (t := 13) (by decide) wf_12_121 rfl rfl (ly_40 hL) (lr_40_45 hL) (fun _ => ?_)
        show g_H E 0 0 262 [(0, vR 40)] [vR 74, vR 40] (σ, (g_up M 40 48 (M 40 47)), (g_up N 40 53 (Int64.ofNat 0))) _ _
        refine r_run J 1 (pc' := 263) (lv' := [(0, vR 40)]) (st' := [vR 40, vR 74, vR 40]) rfl ?_
        refine r_getI J cls12 rfl (k := 47) (by decide) wf_12_249 rfl (ly_40 hL) ?_
        show g_H E 0 0 266 [(0, vR 40)] [vI ((g_up M 40 48 (M 40 47)) 40 47), vR 74, vR 40] (σ, (g_up M 40 48 (M 40 47)), (g_up N 40 53 (Int64.ofNat 0))) _ _
        refine r_bald J rfl (ly_74 hL) (fun i266 => ?_)
        show g_H E 0 0 267 [(0, vR 40)] [vI ((g_up M 40 48 (M 40 47)) 74 ((g_up M 40 48 (M 40 47)) 40 47).toNatClampNeg), vR 40] (σ, (g_up M 40 48 (M 40 47)), (g_up N 40 53 (Int64.ofNat 0))) _ _
        refine r_run J 1 (pc' := 268) (lv' := [(0, vR 40)]) (st' := [vL ((g_up M 40 48 (M 40 47)) 74 ((g_up M 40 48 (M 40 47)) 40 47).toNatClampNeg).toInt64, vR 40]) rfl ?_
        refine r_putL J cls12 rfl (k := 53) (by decide) wf_12_258 rfl rfl (ly_40 hL) ?_
        show g_H E 0 0 271 [(0, vR 40)] [] (σ, (g_up M 40 48 (M 40 47)), (g_up (g_up N 40 53 (Int64.ofNat 0)) 40 53 (((g_up M 40 48 (M 40 47)) 74 ((g_up M 40 48 (M 40 47)) 40 47).toNatClampNeg).toInt64))) _ _
        refine r_run J 2 (pc' := 273) (lv' := [(0, vR 40)]) (st' := [vR 40, vR 40]) rfl ?_
        refine r_getL J cls12 rfl (k := 53) (by decide) wf_12_258 rfl (ly_40 hL) ?_
        show g_H E 0 0 276 [(0, vR 40)] [vL ((g_up (g_up N 40 53 (Int64.ofNat 0)) 40 53 (((g_up M 40 48 (M 40 47)) 74 ((g_up M 40 48 (M 40 47)) 40 47).toNatClampNeg).toInt64)) 40 53), vR 40] (σ, (g_up M 40 48 (M 40 47)), (g_up (g_up N 40 53 (Int64.ofNat 0)) 40 53 (((g_up M 40 48 (M 40 47)) 74 ((g_up M 40 48 (M 40 47)) 40 47).toNatClampNeg).toInt64))) _ _
        refine r_ldc2 J rfl wc_12_280 ?_
        refine r_run J 1 (pc' := 280) (lv' := [(0, vR 40)]) (st' := [vI (lg_cmp ((g_up (g_up N 40 53 (Int64.ofNat 0)) 40 53 (((g_up M 40 48 (M 40 47)) 74 ((g_up M 40 48 (M 40 47)) 40 47).toNatClampNeg).toInt64)) 40 53) 59), vR 40]) rfl ?_
        refine r_if_eq J (tgt := 349) rfl (by decide) (fun c280 => ?_) (fun c280 => ?_)
        · exact p_X12_next_349 J σ (g_up M 40 48 (M 40 47)) (g_up (g_up N 40 53 (Int64.ofNat 0)) 40 53 (((g_up M 40 48 (M 40 47)) 74 ((g_up M 40 48 (M 40 47)) 40 47).toNatClampNeg).toInt64)) hL
        · refine r_run J 1 (pc' := 284) (lv' := [(0, vR 40)]) (st' := [vR 40, vR 40]) rfl ?_
          refine r_getL J cls12 rfl (k := 53) (by decide) wf_12_258 rfl (ly_40 hL) ?_
          show g_H E 0 0 287 [(0, vR 40)] [vL ((g_up (g_up N 40 53 (Int64.ofNat 0)) 40 53 (((g_up M 40 48 (M 40 47)) 74 ((g_up M 40 48 (M 40 47)) 40 47).toNatClampNeg).toInt64)) 40 53), vR 40] (σ, (g_up M 40 48 (M 40 47)), (g_up (g_up N 40 53 (Int64.ofNat 0)) 40 53 (((g_up M 40 48 (M 40 47)) 74 ((g_up M 40 48 (M 40 47)) 40 47).toNatClampNeg).toInt64))) _ _
          refine r_ldc2 J rfl wc_12_282 ?_
          refine r_run J 1 (pc' := 291) (lv' := [(0, vR 40)]) (st' := [vI (lg_cmp ((g_up (g_up N 40 53 (Int64.ofNat 0)) 40 53 (((g_up M 40 48 (M 40 47)) 74 ((g_up M 40 48 (M 40 47)) 40 47).toNatClampNeg).toInt64)) 40 53) 40), vR 40]) rfl ?_
          refine r_if_eq J (tgt := 349) rfl (by decide) (fun c291 => ?_) (fun c291 => ?_)
          · exact p_X12_next_349 J σ (g_up M 40 48 (M 40 47)) (g_up (g_up N 40 53 (Int64.ofNat 0)) 40 53 (((g_up M 40 48 (M 40 47)) 74 ((g_up M 40 48 (M 40 47)) 40 47).toNatClampNeg).toInt64)) hL
          · refine r_run J 1 (pc' := 295) (lv' := [(0, vR 40)]) (st' := [vR 40, vR 40]) rfl ?_
            refine r_getL J cls12 rfl (k := 53) (by decide) wf_12_258 rfl (ly_40 hL) ?_
            show g_H E 0 0 298 [(0, vR 40)] [vL ((g_up (g_up N 40 53 (Int64.ofNat 0)) 40 53 (((g_up M 40 48 (M 40 47)) 74 ((g_up M 40 48 (M 40 47)) 40 47).toNatClampNeg).toInt64)) 40 53), vR 40] (σ, (g_up M 40 48 (M 40 47)), (g_up (g_up N 40 53 (Int64.ofNat 0)) 40 53 (((g_up M 40 48 (M 40 47)) 74 ((g_up M 40 48 (M 40 47)) 40 47).toNatClampNeg).toInt64))) _ _
            refine r_ldc2 J rfl wc_12_284 ?_
            refine r_run J 1 (pc' := 302) (lv' := [(0, vR 40)]) (st' := [vI (lg_cmp ((g_up (g_up N 40 53 (Int64.ofNat 0)) 40 53 (((g_up M 40 48 (M 40 47)) 74 ((g_up M 40 48 (M 40 47)) 40 47).toNatClampNeg).toInt64)) 40 53) 41), vR 40]) rfl ?_
            refine r_if_eq J (tgt := 349) rfl (by decide) (fun c302 => ?_) (fun c302 => ?_)
            · exact p_X12_next_349 J σ (g_up M 40 48 (M 40 47)) (g_up (g_up N 40 53 (Int64.ofNat 0)) 40 53 (((g_up M 40 48 (M 40 47)) 74 ((g_up M 40 48 (M 40 47)) 40 47).toNatClampNeg).toInt64)) hL
            · refine r_run J 1 (pc' := 306) (lv' := [(0, vR 40)]) (st' := [vR 40, vR 40]) rfl ?_
              refine r_getL J cls12 rfl (k := 53) (by decide) wf_12_258 rfl (ly_40 hL) ?_
              show g_H E 0 0 309 [(0, vR 40)] [vL ((g_up (g_up N 40 53 (Int64.ofNat 0)) 40 53 (((g_up M 40 48 (M 40 47)) 74 ((g_up M 40 48 (M 40 47)) 40 47).toNatClampNeg).toInt64)) 40 53), vR 40] (σ, (g_up M 40 48 (M 40 47)), (g_up (g_up N 40 53 (Int64.ofNat 0)) 40 53 (((g_up M 40 48 (M 40 47)) 74 ((g_up M 40 48 (M 40 47)) 40 47).toNatClampNeg).toInt64))) _ _
              refine r_ldc2 J rfl wc_12_286 ?_
              refine r_run J 1 (pc' := 313) (lv' := [(0, vR 40)]) (st' := [vI (lg_cmp ((g_up (g_up N 40 53 (Int64.ofNat 0)) 40 53 (((g_up M 40 48 (M 40 47)) 74 ((g_up M 40 48 (M 40 47)) 40 47).toNatClampNeg).toInt64)) 40 53) 60), vR 40]) rfl ?_
              refine r_if_eq J (tgt := 349) rfl (by decide) (fun c313 => ?_) (fun c313 => ?_)
              · exact p_X12_next_349 J σ (g_up M 40 48 (M 40 47)) (g_up (g_up N 40 53 (Int64.ofNat 0)) 40 53 (((g_up M 40 48 (M 40 47)) 74 ((g_up M 40 48 (M 40 47)) 40 47).toNatClampNeg).toInt64)) hL
              · refine r_run J 1 (pc' := 317) (lv' := [(0, vR 40)]) (st' := [vR 40, vR 40]) rfl ?_
                refine r_getL J cls12 rfl (k := 53) (by decide) wf_12_258 rfl (ly_40 hL) ?_
                show g_H E 0 0 320 [(0, vR 40)] [vL ((g_up (g_up N 40 53 (Int64.ofNat 0)) 40 53 (((g_up M 40 48 (M 40 47)) 74 ((g_up M 40 48 (M 40 47)) 40 47).toNatClampNeg).toInt64)) 40 53), vR 40] (σ, (g_up M 40 48 (M 40 47)), (g_up (g_up N 40 53 (Int64.ofNat 0)) 40 53 (((g_up M 40 48 (M 40 47)) 74 ((g_up M 40 48 (M 40 47)) 40 47).toNatClampNeg).toInt64))) _ _
                refine r_ldc2 J rfl wc_12_288 ?_
                refine r_run J 1 (pc' := 324) (lv' := [(0, vR 40)]) (st' := [vI (lg_cmp ((g_up (g_up N 40 53 (Int64.ofNat 0)) 40 53 (((g_up M 40 48 (M 40 47)) 74 ((g_up M 40 48 (M 40 47)) 40 47).toNatClampNeg).toInt64)) 40 53) 61), vR 40]) rfl ?_
                refine r_if_eq J (tgt := 349) rfl (by decide) (fun c324 => ?_) (fun c324 => ?_)
                · exact p_X12_next_349 J σ (g_up M 40 48 (M 40 47)) (g_up (g_up N 40 53 (Int64.ofNat 0)) 40 53 (((g_up M 40 48 (M 40 47)) 74 ((g_up M 40 48 (M 40 47)) 40 47).toNatClampNeg).toInt64)) hL
                · refine r_run J 1 (pc' := 328) (lv' := [(0, vR 40)]) (st' := [vR 40, vR 40]) rfl ?_
                  refine r_getL J cls12 rfl (k := 53) (by decide) wf_12_258 rfl (ly_40 hL) ?_
                  show g_H E 0 0 331 [(0, vR 40)] [vL ((g_up (g_up N 40 53 (Int64.ofNat 0)) 40 53 (((g_up M 40 48 (M 40 47)) 74 ((g_up M 40 48 (M 40 47)) 40 47).toNatClampNeg).toInt64)) 40 53), vR 40] (σ, (g_up M 40 48 (M 40 47)), (g_up (g_up N 40 53 (Int64.ofNat 0)) 40 53 (((g_up M 40 48 (M 40 47)) 74 ((g_up M 40 48 (M 40 47)) 40 47).toNatClampNeg).toInt64))) _ _
                  refine r_ldc2 J rfl wc_12_290 ?_
                  refine r_run J 1 (pc' := 335) (lv' := [(0, vR 40)]) (st' := [vI (lg_cmp ((g_up (g_up N 40 53 (Int64.ofNat 0)) 40 53 (((g_up M 40 48 (M 40 47)) 74 ((g_up M 40 48 (M 40 47)) 40 47).toNatClampNeg).toInt64)) 40 53) 43), vR 40]) rfl ?_
                  refine r_if_eq J (tgt := 349) rfl (by decide) (fun c335 => ?_) (fun c335 => ?_)
                  · exact p_X12_next_349 J σ (g_up M 40 48 (M 40 47)) (g_up (g_up N 40 53 (Int64.ofNat 0)) 40 53 (((g_up M 40 48 (M 40 47)) 74 ((g_up M 40 48 (M 40 47)) 40 47).toNatClampNeg).toInt64)) hL
                  · refine r_run J 1 (pc' := 339) (lv' := [(0, vR 40)]) (st' := [vR 40, vR 40]) rfl ?_
                    refine r_getL J cls12 rfl (k := 53) (by decide) wf_12_258 rfl (ly_40 hL) ?_
                    show g_H E 0 0 342 [(0, vR 40)] [vL ((g_up (g_up N 40 53 (Int64.ofNat 0)) 40 53 (((g_up M 40 48 (M 40 47)) 74 ((g_up M 40 48 (M 40 47)) 40 47).toNatClampNeg).toInt64)) 40 53), vR 40] (σ, (g_up M 40 48 (M 40 47)), (g_up (g_up N 40 53 (Int64.ofNat 0)) 40 53 (((g_up M 40 48 (M 40 47)) 74 ((g_up M 40 48 (M 40 47)) 40 47).toNatClampNeg).toInt64))) _ _
                    refine r_ldc2 J rfl wc_12_292 ?_
                    refine r_run J 1 (pc' := 346) (lv' := [(0, vR 40)]) (st' := [vI (lg_cmp ((g_up (g_up N 40 53 (Int64.ofNat 0)) 40 53 (((g_up M 40 48 (M 40 47)) 74 ((g_up M 40 48 (M 40 47)) 40 47).toNatClampNeg).toInt64)) 40 53) 45), vR 40]) rfl ?_
                    refine r_if_ne J (tgt := 353) rfl (by decide) (fun c346 => ?_) (fun c346 => ?_)
                    · exact p_X12_next_349 J σ (g_up M 40 48 (M 40 47)) (g_up (g_up N 40 53 (Int64.ofNat 0)) 40 53 (((g_up M 40 48 (M 40 47)) 74 ((g_up M 40 48 (M 40 47)) 40 47).toNatClampNeg).toInt64)) hL
                    · refine r_run J 1 (pc' := 354) (lv' := [(0, vR 40)]) (st' := [vI 4, vR 40]) rfl ?_
                      exact p_X12_next_354 J 4 σ (g_up M 40 48 (M 40 47)) (g_up (g_up N 40 53 (Int64.ofNat 0)) 40 53 (((g_up M 40 48 (M 40 47)) 74 ((g_up M 40 48 (M 40 47)) 40 47).toNatClampNeg).toInt64)) hL
      · exact p_X12_next_168 J g_FU σ (g_up M 40 48 (M 40 47)) (g_up N 40 53 (Int64.ofNat 0)) hL
    · refine r_run J 2 (pc' := 93) (lv' := [(0, vR 40)]) (st' := [vI 1, vR 40]) rfl ?_
      refine r_putI J cls12 rfl (k := 49) (by decide) wf_12_262 rfl (Or.inl rfl) ⟨rfl, rfl⟩ (ly_40 hL) ?_
      show g_H E 0 0 96 [(0, vR 40)] [] (σ, (g_up (g_up M 40 48 (M 40 47)) 40 49 1), (g_up N 40 53 (Int64.ofNat 0))) _ _
      exact p_X12_next_96 J g_FU σ (g_up (g_up M 40 48 (M 40 47)) 40 49 1) (g_up N 40 53 (Int64.ofNat 0)) hL
set_option maxHeartbeats 4000000 in
set_option maxRecDepth 100000 in
theorem p_X12_next_39 {l : Launch} {E : gE} (J : J_X12_next E l) {k0 : gS → gM → gN → Option (gM × gN)} (H0 : ∀ (σ : gS) (M : gM) (N : gN) (_ : g_layM σ), g_H E 0 0 0 [(0, vR 40)] [] (σ, M, N) (k0 σ M N) (eVMN σ)) (σ : gS) (M : gM) (N : gN) (hL : g_layM σ) : g_H E 0 0 39 [(0, vR 40)] [] (σ, M, N) (b_X12_next_39 k0 σ M N) (eVMN σ) := by
  unfold b_X12_next_39
  refine r_run J 2 (pc' := 41) (lv' := [(0, vR 40)]) (st' := [vR 40, vR 40]) rfl ?_
  refine r_getI J cls12 rfl (k := 47) (by decide) wf_12_249 rfl (ly_40 hL) ?_
  show g_H E 0 0 44 [(0, vR 40)] [vI (M 40 47), vR 40] (σ, M, N) _ _
  refine r_run J 2 (pc' := 46) (lv' := [(0, vR 40)]) (st' := [vI ((M 40 47) + (1 : Int32)), vR 40]) rfl ?_
  refine r_putI J cls12 rfl (k := 47) (by decide) wf_12_249 rfl (Or.inl rfl) ⟨rfl, rfl⟩ (ly_40 hL) ?_
  show g_H E 0 0 49 [(0, vR 40)] [] (σ, (g_up M 40 47 ((M 40 47) + (1 : Int32))), N) _ _
  refine r_run J 1 (pc' := 0) (lv' := [(0, vR 40)]) (st' := []) rfl ?_
  exact H0 σ (g_up M 40 47 ((M 40 47) + (1 : Int32))) N hL
set_option maxHeartbeats 4000000 in
set_option maxRecDepth 100000 in
theorem p_X12_next_0 {l : Launch} {E : gE} (J : J_X12_next E l) : ∀ (n : Nat) (σ : gS) (M : gM) (N : gN) (hL : g_layM σ), g_H E 0 0 0 [(0, vR 40)] [] (σ, M, N) (l_X12_next_0 n σ M N) (eVMN σ) := by
  intro n
  induction n with
  | zero => intros; exact h_none
  | succ n ih =>
    intro σ M N hL
    rw [l_X12_next_0]
    refine r_run J 1 (pc' := 1) (lv' := [(0, vR 40)]) (st' := [vR 40]) rfl ?_
    refine r_getI J cls12 rfl (k := 47) (by decide) wf_12_249 rfl (ly_40 hL) ?_
    show g_H E 0 0 4 [(0, vR 40)] [vI (M 40 47)] (σ, M, N) _ _
    refine r_run J 1 (pc' := 5) (lv' := [(0, vR 40)]) (st' := [vR 40, vI (M 40 47)]) rfl ?_
    refine r_getI J cls12 rfl (k := 46) (by decide) wf_12_252 rfl (ly_40 hL) ?_
    show g_H E 0 0 8 [(0, vR 40)] [vI (M 40 46), vI (M 40 47)] (σ, M, N) _ _
    refine r_icmp_ge J (tgt := 52) rfl (by decide) (fun c8 => ?_) (fun c8 => ?_)
    · refine r_run J 1 (pc' := 12) (lv' := [(0, vR 40)]) (st' := [vR 40]) rfl ?_
      refine r_getR J cls12 rfl (k := 45) (t := 13) (by decide) wf_12_121 rfl rfl (ly_40 hL) (lr_40_45 hL) (fun _ => ?_)
      show g_H E 0 0 15 [(0, vR 40)] [vR 74] (σ, M, N) _ _
      refine r_run J 1 (pc' := 16) (lv' := [(0, vR 40)]) (st' := [vR 40, vR 74]) rfl ?_
      refine r_getI J cls12 rfl (k := 47) (by decide) wf_12_249 rfl (ly_40 hL) ?_
      show g_H E 0 0 19 [(0, vR 40)] [vI (M 40 47), vR 74] (σ, M, N) _ _
      refine r_bald J rfl (ly_74 hL) (fun i19 => ?_)
      show g_H E 0 0 20 [(0, vR 40)] [vI (M 74 (M 40 47).toNatClampNeg)] (σ, M, N) _ _
      refine r_run J 1 (pc' := 22) (lv' := [(0, vR 40)]) (st' := [vI 32, vI (M 74 (M 40 47).toNatClampNeg)]) rfl ?_
      refine r_icmp_eq J (tgt := 39) rfl (by decide) (fun c22 => ?_) (fun c22 => ?_)
      · exact p_X12_next_39 J ih σ M N hL
      · refine r_run J 1 (pc' := 26) (lv' := [(0, vR 40)]) (st' := [vR 40]) rfl ?_
        refine r_getR J cls12 rfl (k := 45) (t := 13) (by decide) wf_12_121 rfl rfl (ly_40 hL) (lr_40_45 hL) (fun _ => ?_)
        show g_H E 0 0 29 [(0, vR 40)] [vR 74] (σ, M, N) _ _
        refine r_run J 1 (pc' := 30) (lv' := [(0, vR 40)]) (st' := [vR 40, vR 74]) rfl ?_
        refine r_getI J cls12 rfl (k := 47) (by decide) wf_12_249 rfl (ly_40 hL) ?_
        show g_H E 0 0 33 [(0, vR 40)] [vI (M 40 47), vR 74] (σ, M, N) _ _
        refine r_bald J rfl (ly_74 hL) (fun i33 => ?_)
        show g_H E 0 0 34 [(0, vR 40)] [vI (M 74 (M 40 47).toNatClampNeg)] (σ, M, N) _ _
        refine r_run J 1 (pc' := 36) (lv' := [(0, vR 40)]) (st' := [vI 10, vI (M 74 (M 40 47).toNatClampNeg)]) rfl ?_
        refine r_icmp_ne J (tgt := 52) rfl (by decide) (fun c36 => ?_) (fun c36 => ?_)
        · exact p_X12_next_39 J ih σ M N hL
        · exact p_X12_next_52 J σ M N hL
    · exact p_X12_next_52 J σ M N hL
theorem c_X12_next {l : Launch} (σ : gS) (M : gM) (N : gN) (hL : g_layM σ) (r : gM × gN) (h : f_X12_next σ M N = some r) : g_Ct l yX12_next cX12_next 1 none 2 0 0 [vR 40] (σ, M, N) (eVMN σ r) :=
  g_Ct.of tb_X12_next (by decide +kernel) tk_X12_next (Nat.le_of_ble_eq_true rfl) (fun E J => p_X12_next_0 J g_FU σ M N hL r h)
def tb_X12_isSign : gT := [(0, .aload_n 0, 1, 0), (1, .getfield 262, 3, 0), (4, .iconst 3, 1, 3), (5, .if_icmp .ne 17, 3, 0), (8, .aload_n 0, 1, 0), (9, .getfield 258, 3, 0), (12, .iload_n 1, 1, 0), (13, .i2l, 1, 0), (14, .lcmp, 1, 0), (15, .ifCond .ne 7, 3, 0), (18, .iconst 1, 1, 1), (19, .goto 4, 3, 0), (22, .iconst 0, 1, 0), (23, .ireturn, 1, 0)]
set_option maxRecDepth 100000 in
theorem tk_X12_isSign : g_okT cX12_isSign tb_X12_isSign = true := by decide +kernel
abbrev J_X12_isSign (E : gE) (l : Launch) : Prop := g_J E cX12_isSign RX12 "isSign" (some .boolean) 2 tb_X12_isSign 1 0 0 l
set_option maxHeartbeats 4000000 in
set_option maxRecDepth 100000 in
theorem p_X12_isSign_0 {l : Launch} {E : gE} (J : J_X12_isSign E l) (x1 : Int32) (σ : gS) (M : gM) (N : gN) (hL : g_layM σ) : g_H E 0 0 0 [(0, vR 40), (1, vI x1)] [] (σ, M, N) (b_X12_isSign_0 x1 σ M N) (eI σ M N) := by
  unfold b_X12_isSign_0
  refine r_run J 1 (pc' := 1) (lv' := [(0, vR 40), (1, vI x1)]) (st' := [vR 40]) rfl ?_
  refine r_getI J cls12 rfl (k := 49) (by decide) wf_12_262 rfl (ly_40 hL) ?_
  show g_H E 0 0 4 [(0, vR 40), (1, vI x1)] [vI (M 40 49)] (σ, M, N) _ _
  refine r_run J 1 (pc' := 5) (lv' := [(0, vR 40), (1, vI x1)]) (st' := [vI 3, vI (M 40 49)]) rfl ?_
  refine r_icmp_ne J (tgt := 22) rfl (by decide) (fun c5 => ?_) (fun c5 => ?_)
  · refine r_run J 1 (pc' := 9) (lv' := [(0, vR 40), (1, vI x1)]) (st' := [vR 40]) rfl ?_
    refine r_getL J cls12 rfl (k := 53) (by decide) wf_12_258 rfl (ly_40 hL) ?_
    show g_H E 0 0 12 [(0, vR 40), (1, vI x1)] [vL (N 40 53)] (σ, M, N) _ _
    refine r_run J 3 (pc' := 15) (lv' := [(0, vR 40), (1, vI x1)]) (st' := [vI (lg_cmp (N 40 53) x1.toInt64)]) rfl ?_
    refine r_if_ne J (tgt := 22) rfl (by decide) (fun c15 => ?_) (fun c15 => ?_)
    · refine r_run J 2 (pc' := 23) (lv' := [(0, vR 40), (1, vI x1)]) (st' := [vI 1]) rfl ?_
      exact r_iret J rfl rfl rfl rfl (by decide) (by decide)
    · refine r_run J 1 (pc' := 23) (lv' := [(0, vR 40), (1, vI x1)]) (st' := [vI 0]) rfl ?_
      exact r_iret J rfl rfl rfl rfl (by decide) (by decide)
  · refine r_run J 1 (pc' := 23) (lv' := [(0, vR 40), (1, vI x1)]) (st' := [vI 0]) rfl ?_
    exact r_iret J rfl rfl rfl rfl (by decide) (by decide)
theorem c_X12_isSign {l : Launch} (x1 : Int32) (σ : gS) (M : gM) (N : gN) (hL : g_layM σ) (r : Int32) (h : f_X12_isSign x1 σ M N = some r) : g_Ct l yX12_isSign cX12_isSign 2 (some .boolean) 1 0 0 [vR 40, vI x1] (σ, M, N) (eI σ M N r) :=
  g_Ct.of tb_X12_isSign (by decide +kernel) tk_X12_isSign (Nat.le_of_ble_eq_true rfl) (fun E J => p_X12_isSign_0 J x1 σ M N hL r h)
def tb_X12_isWord : gT := [(0, .aload_n 0, 1, 0), (1, .getfield 262, 3, 0), (4, .iconst 1, 1, 1), (5, .if_icmp .ne 16, 3, 0), (8, .aload_n 0, 1, 0), (9, .getfield 258, 3, 0), (12, .lload_n 1, 1, 0), (13, .lcmp, 1, 0), (14, .ifCond .ne 7, 3, 0), (17, .iconst 1, 1, 1), (18, .goto 4, 3, 0), (21, .iconst 0, 1, 0), (22, .ireturn, 1, 0)]
set_option maxRecDepth 100000 in
theorem tk_X12_isWord : g_okT cX12_isWord tb_X12_isWord = true := by decide +kernel
abbrev J_X12_isWord (E : gE) (l : Launch) : Prop := g_J E cX12_isWord RX12 "isWord" (some .boolean) 3 tb_X12_isWord 1 0 0 l
set_option maxHeartbeats 4000000 in
set_option maxRecDepth 100000 in
theorem p_X12_isWord_0 {l : Launch} {E : gE} (J : J_X12_isWord E l) (y1 : Int64) (σ : gS) (M : gM) (N : gN) (hL : g_layM σ) : g_H E 0 0 0 [(0, vR 40), (1, vL y1)] [] (σ, M, N) (b_X12_isWord_0 y1 σ M N) (eI σ M N) := by
  unfold b_X12_isWord_0
  refine r_run J 1 (pc' := 1) (lv' := [(0, vR 40), (1, vL y1)]) (st' := [vR 40]) rfl ?_
  refine r_getI J cls12 rfl (k := 49) (by decide) wf_12_262 rfl (ly_40 hL) ?_
  show g_H E 0 0 4 [(0, vR 40), (1, vL y1)] [vI (M 40 49)] (σ, M, N) _ _
  refine r_run J 1 (pc' := 5) (lv' := [(0, vR 40), (1, vL y1)]) (st' := [vI 1, vI (M 40 49)]) rfl ?_
  refine r_icmp_ne J (tgt := 21) rfl (by decide) (fun c5 => ?_) (fun c5 => ?_)
  · refine r_run J 1 (pc' := 9) (lv' := [(0, vR 40), (1, vL y1)]) (st' := [vR 40]) rfl ?_
    refine r_getL J cls12 rfl (k := 53) (by decide) wf_12_258 rfl (ly_40 hL) ?_
    show g_H E 0 0 12 [(0, vR 40), (1, vL y1)] [vL (N 40 53)] (σ, M, N) _ _
    refine r_run J 2 (pc' := 14) (lv' := [(0, vR 40), (1, vL y1)]) (st' := [vI (lg_cmp (N 40 53) y1)]) rfl ?_
    refine r_if_ne J (tgt := 21) rfl (by decide) (fun c14 => ?_) (fun c14 => ?_)
    · refine r_run J 2 (pc' := 22) (lv' := [(0, vR 40), (1, vL y1)]) (st' := [vI 1]) rfl ?_
      exact r_iret J rfl rfl rfl rfl (by decide) (by decide)
    · refine r_run J 1 (pc' := 22) (lv' := [(0, vR 40), (1, vL y1)]) (st' := [vI 0]) rfl ?_
      exact r_iret J rfl rfl rfl rfl (by decide) (by decide)
  · refine r_run J 1 (pc' := 22) (lv' := [(0, vR 40), (1, vL y1)]) (st' := [vI 0]) rfl ?_
    exact r_iret J rfl rfl rfl rfl (by decide) (by decide)
theorem c_X12_isWord {l : Launch} (y1 : Int64) (σ : gS) (M : gM) (N : gN) (hL : g_layM σ) (r : Int32) (h : f_X12_isWord y1 σ M N = some r) : g_Ct l yX12_isWord cX12_isWord 3 (some .boolean) 1 0 0 [vR 40, vL y1] (σ, M, N) (eI σ M N r) :=
  g_Ct.of tb_X12_isWord (by decide +kernel) tk_X12_isWord (Nat.le_of_ble_eq_true rfl) (fun E J => p_X12_isWord_0 J y1 σ M N hL r h)
def tb_X12_wrong : gT := [(0, .aload_n 0, 1, 0), (1, .getfield 294, 3, 0), (4, .ifCond .le 4, 3, 0), (7, .return_, 1, 0), (8, .aload_n 0, 1, 0), (9, .iload_n 1, 1, 0), (10, .putfield 294, 3, 0), (13, .aload_n 0, 1, 0), (14, .aload_n 0, 1, 0), (15, .getfield 255, 3, 0), (18, .putfield 297, 3, 0), (21, .aload_n 0, 1, 0), (22, .iconst 0, 1, 0), (23, .putfield 262, 3, 0), (26, .return_, 1, 0)]
set_option maxRecDepth 100000 in
theorem tk_X12_wrong : g_okT cX12_wrong tb_X12_wrong = true := by decide +kernel
abbrev J_X12_wrong (E : gE) (l : Launch) : Prop := g_J E cX12_wrong RX12 "wrong" none 2 tb_X12_wrong 1 0 0 l
set_option maxHeartbeats 4000000 in
set_option maxRecDepth 100000 in
theorem p_X12_wrong_0 {l : Launch} {E : gE} (J : J_X12_wrong E l) (x1 : Int32) (σ : gS) (M : gM) (N : gN) (hL : g_layM σ) : g_H E 0 0 0 [(0, vR 40), (1, vI x1)] [] (σ, M, N) (b_X12_wrong_0 x1 σ M) (eVM σ N) := by
  unfold b_X12_wrong_0
  refine r_run J 1 (pc' := 1) (lv' := [(0, vR 40), (1, vI x1)]) (st' := [vR 40]) rfl ?_
  refine r_getI J cls12 rfl (k := 51) (by decide) wf_12_294 rfl (ly_40 hL) ?_
  show g_H E 0 0 4 [(0, vR 40), (1, vI x1)] [vI (M 40 51)] (σ, M, N) _ _
  refine r_if_le J (tgt := 8) rfl (by decide) (fun c4 => ?_) (fun c4 => ?_)
  · exact r_vret J rfl rfl rfl (by decide) (by decide)
  · refine r_run J 2 (pc' := 10) (lv' := [(0, vR 40), (1, vI x1)]) (st' := [vI x1, vR 40]) rfl ?_
    refine r_putI J cls12 rfl (k := 51) (by decide) wf_12_294 rfl (Or.inl rfl) ⟨rfl, rfl⟩ (ly_40 hL) ?_
    show g_H E 0 0 13 [(0, vR 40), (1, vI x1)] [] (σ, (g_up M 40 51 x1), N) _ _
    refine r_run J 2 (pc' := 15) (lv' := [(0, vR 40), (1, vI x1)]) (st' := [vR 40, vR 40]) rfl ?_
    refine r_getI J cls12 rfl (k := 48) (by decide) wf_12_255 rfl (ly_40 hL) ?_
    show g_H E 0 0 18 [(0, vR 40), (1, vI x1)] [vI ((g_up M 40 51 x1) 40 48), vR 40] (σ, (g_up M 40 51 x1), N) _ _
    refine r_putI J cls12 rfl (k := 52) (by decide) wf_12_297 rfl (Or.inl rfl) ⟨rfl, rfl⟩ (ly_40 hL) ?_
    show g_H E 0 0 21 [(0, vR 40), (1, vI x1)] [] (σ, (g_up (g_up M 40 51 x1) 40 52 ((g_up M 40 51 x1) 40 48)), N) _ _
    refine r_run J 2 (pc' := 23) (lv' := [(0, vR 40), (1, vI x1)]) (st' := [vI 0, vR 40]) rfl ?_
    refine r_putI J cls12 rfl (k := 49) (by decide) wf_12_262 rfl (Or.inl rfl) ⟨rfl, rfl⟩ (ly_40 hL) ?_
    show g_H E 0 0 26 [(0, vR 40), (1, vI x1)] [] (σ, (g_up (g_up (g_up M 40 51 x1) 40 52 ((g_up M 40 51 x1) 40 48)) 40 49 0), N) _ _
    exact r_vret J rfl rfl rfl (by decide) (by decide)
theorem c_X12_wrong {l : Launch} (x1 : Int32) (σ : gS) (M : gM) (N : gN) (hL : g_layM σ) (r : gM) (h : f_X12_wrong x1 σ M = some r) : g_Ct l yX12_wrong cX12_wrong 2 none 1 0 0 [vR 40, vI x1] (σ, M, N) (eVM σ N r) :=
  g_Ct.of tb_X12_wrong (by decide +kernel) tk_X12_wrong (Nat.le_of_ble_eq_true rfl) (fun E J => p_X12_wrong_0 J x1 σ M N hL r h)
def tb_X12_part : gT := [(0, .aload_n 0, 1, 0), (1, .getfield 294, 3, 0), (4, .ifCond .le 5, 3, 0), (7, .iconst 0, 1, 0), (8, .ireturn, 1, 0), (9, .iconst 0, 1, 0), (10, .istore_n 1, 1, 0), (11, .aload_n 0, 1, 0), (12, .bipush 40, 2, 40), (14, .invokevirtual 300, 3, 0), (17, .ifCond .eq 72, 3, 0), (20, .aload_n 0, 1, 0), (21, .getfield 303, 3, 0), (24, .iconst 5, 1, 5), (25, .if_icmp .ne 10, 3, 0), (28, .aload_n 0, 1, 0), (29, .iconst 3, 1, 3), (30, .invokevirtual 306, 3, 0), (33, .iconst 0, 1, 0), (34, .ireturn, 1, 0), (35, .aload_n 0, 1, 0), (36, .dup, 1, 0), (37, .getfield 303, 3, 0), (40, .iconst 1, 1, 1), (41, .iadd, 1, 0), (42, .putfield 303, 3, 0), (45, .aload_n 0, 1, 0), (46, .invokevirtual 309, 3, 0), (49, .aload_n 0, 1, 0), (50, .invokevirtual 312, 3, 0), (53, .istore_n 1, 1, 0), (54, .aload_n 0, 1, 0), (55, .dup, 1, 0), (56, .getfield 303, 3, 0), (59, .iconst 1, 1, 1), (60, .isub, 1, 0), (61, .putfield 303, 3, 0), (64, .aload_n 0, 1, 0), (65, .getfield 294, 3, 0), (68, .ifCond .le 5, 3, 0), (71, .iconst 0, 1, 0), (72, .ireturn, 1, 0), (73, .aload_n 0, 1, 0), (74, .bipush 41, 2, 41), (76, .invokevirtual 300, 3, 0), (79, .ifCond .ne 124, 3, 0), (82, .aload_n 0, 1, 0), (83, .iconst 1, 1, 1), (84, .invokevirtual 306, 3, 0), (87, .iconst 0, 1, 0), (88, .ireturn, 1, 0), (89, .aload_n 0, 1, 0), (90, .getfield 262, 3, 0), (93, .iconst 2, 1, 2), (94, .if_icmp .ne 12, 3, 0), (97, .aload_n 0, 1, 0), (98, .getfield 258, 3, 0), (101, .l2i, 1, 0), (102, .istore_n 1, 1, 0), (103, .goto 100, 3, 0), (106, .aload_n 0, 1, 0), (107, .ldc2_w 316, 3, 0), (110, .invokevirtual 318, 3, 0), (113, .ifCond .eq 11, 3, 0), (116, .aload_n 0, 1, 0), (117, .getfield 322, 3, 0), (120, .istore_n 1, 1, 0), (121, .goto 82, 3, 0), (124, .aload_n 0, 1, 0), (125, .ldc2_w 325, 3, 0), (128, .invokevirtual 318, 3, 0), (131, .ifCond .eq 11, 3, 0), (134, .aload_n 0, 1, 0), (135, .getfield 327, 3, 0), (138, .istore_n 1, 1, 0), (139, .goto 64, 3, 0), (142, .aload_n 0, 1, 0), (143, .ldc2_w 330, 3, 0), (146, .invokevirtual 318, 3, 0), (149, .ifCond .eq 11, 3, 0), (152, .aload_n 0, 1, 0), (153, .getfield 332, 3, 0), (156, .istore_n 1, 1, 0), (157, .goto 46, 3, 0), (160, .aload_n 0, 1, 0), (161, .ldc2_w 335, 3, 0), (164, .invokevirtual 318, 3, 0), (167, .ifCond .eq 11, 3, 0), (170, .aload_n 0, 1, 0), (171, .getfield 337, 3, 0), (174, .istore_n 1, 1, 0), (175, .goto 28, 3, 0), (178, .aload_n 0, 1, 0), (179, .ldc2_w 340, 3, 0), (182, .invokevirtual 318, 3, 0), (185, .ifCond .eq 11, 3, 0), (188, .aload_n 0, 1, 0), (189, .getfield 195, 3, 0), (192, .istore_n 1, 1, 0), (193, .goto 10, 3, 0), (196, .aload_n 0, 1, 0), (197, .iconst 1, 1, 1), (198, .invokevirtual 306, 3, 0), (201, .iconst 0, 1, 0), (202, .ireturn, 1, 0), (203, .aload_n 0, 1, 0), (204, .invokevirtual 309, 3, 0), (207, .iload_n 1, 1, 0), (208, .ireturn, 1, 0)]
set_option maxRecDepth 100000 in
theorem tk_X12_part : g_okT cX12_part tb_X12_part = true := by decide +kernel
abbrev J_X12_part (d : Nat) (E : gE) (l : Launch) : Prop := g_J E cX12_part RX12 "part" (some .int) 2 tb_X12_part (3 + d) 0 0 l
set_option maxHeartbeats 4000000 in
set_option maxRecDepth 100000 in
theorem p_X12_part_203 {l : Launch} {E : gE} {d' : Nat}  {recX12_whole : gS → gM → gN → Option (Int32 × gM × gN)}(J : J_X12_part (d' + 1) E l) (hrecX12_whole : ∀ (σ : gS) (M : gM) (N : gN) (_ : g_layM σ) r, recX12_whole σ M N = some r → g_Ct l yX12_whole cX12_whole 3 (some .int) (3 + d') 0 0 [vR 40] (σ, M, N) (eIMN σ r)) (x1 : Int32) (σ : gS) (M : gM) (N : gN) (hL : g_layM σ) : g_H E 0 0 203 [(0, vR 40), (1, vI x1)] [] (σ, M, N) (b_X12_part_203 recX12_whole x1 σ M N) (eIMN σ) := by
  unfold b_X12_part_203
  refine r_run J 1 (pc' := 204) (lv' := [(0, vR 40), (1, vI x1)]) (st' := [vR 40]) rfl ?_
  refine r_callV J (As := []) (st := []) (fun r hr => c_X12_next σ M N hL r hr) cls12 (ly_40 hL) wm_12_309 wy_X12_next wd_X12_next ⟨by omega, by decide, by decide, by decide, Nat.le_of_ble_eq_true rfl⟩ rfl rfl (fun q204 hq204 => ?_)
  show g_H E 0 0 207 [(0, vR 40), (1, vI x1)] [] (σ, q204.1, q204.2) _ _
  refine r_run J 1 (pc' := 208) (lv' := [(0, vR 40), (1, vI x1)]) (st' := [vI x1]) rfl ?_
  exact r_iret J rfl rfl rfl rfl (by decide) (by decide)
set_option maxHeartbeats 4000000 in
set_option maxRecDepth 100000 in
theorem p_X12_part_0 {l : Launch} {E : gE} {d' : Nat}  {recX12_whole : gS → gM → gN → Option (Int32 × gM × gN)}(J : J_X12_part (d' + 1) E l) (hrecX12_whole : ∀ (σ : gS) (M : gM) (N : gN) (_ : g_layM σ) r, recX12_whole σ M N = some r → g_Ct l yX12_whole cX12_whole 3 (some .int) (3 + d') 0 0 [vR 40] (σ, M, N) (eIMN σ r)) (σ : gS) (M : gM) (N : gN) (hL : g_layM σ) : g_H E 0 0 0 [(0, vR 40)] [] (σ, M, N) (b_X12_part_0 recX12_whole σ M N) (eIMN σ) := by
  unfold b_X12_part_0
  refine r_run J 1 (pc' := 1) (lv' := [(0, vR 40)]) (st' := [vR 40]) rfl ?_
  refine r_getI J cls12 rfl (k := 51) (by decide) wf_12_294 rfl (ly_40 hL) ?_
  show g_H E 0 0 4 [(0, vR 40)] [vI (M 40 51)] (σ, M, N) _ _
  refine r_if_le J (tgt := 9) rfl (by decide) (fun c4 => ?_) (fun c4 => ?_)
  · refine r_run J 1 (pc' := 8) (lv' := [(0, vR 40)]) (st' := [vI 0]) rfl ?_
    exact r_iret J rfl rfl rfl rfl (by decide) (by decide)
  · refine r_run J 4 (pc' := 14) (lv' := [(1, vI 0), (0, vR 40)]) (st' := [vI 40, vR 40]) rfl ?_
    refine r_callV J (As := [vI 40]) (st := []) (fun r hr => c_X12_isSign 40 σ M N hL r hr) cls12 (ly_40 hL) wm_12_300 wy_X12_isSign wd_X12_isSign ⟨by omega, by decide, by decide, by decide, Nat.le_of_ble_eq_true rfl⟩ rfl rfl (fun q14 hq14 => ?_)
    show g_H E 0 0 17 [(1, vI 0), (0, vR 40)] [vI q14] (σ, M, N) _ _
    refine r_if_eq J (tgt := 89) rfl (by decide) (fun c17 => ?_) (fun c17 => ?_)
    · refine r_run J 1 (pc' := 90) (lv' := [(1, vI 0), (0, vR 40)]) (st' := [vR 40]) rfl ?_
      refine r_getI J cls12 rfl (k := 49) (by decide) wf_12_262 rfl (ly_40 hL) ?_
      show g_H E 0 0 93 [(1, vI 0), (0, vR 40)] [vI (M 40 49)] (σ, M, N) _ _
      refine r_run J 1 (pc' := 94) (lv' := [(1, vI 0), (0, vR 40)]) (st' := [vI 2, vI (M 40 49)]) rfl ?_
      refine r_icmp_ne J (tgt := 106) rfl (by decide) (fun c94 => ?_) (fun c94 => ?_)
      · refine r_run J 1 (pc' := 98) (lv' := [(1, vI 0), (0, vR 40)]) (st' := [vR 40]) rfl ?_
        refine r_getL J cls12 rfl (k := 53) (by decide) wf_12_258 rfl (ly_40 hL) ?_
        show g_H E 0 0 101 [(1, vI 0), (0, vR 40)] [vL (N 40 53)] (σ, M, N) _ _
        refine r_run J 3 (pc' := 203) (lv' := [(1, vI (N 40 53).toInt32), (0, vR 40)]) (st' := []) rfl ?_
        refine r_sub [1, 0] (lv' := [(0, vR 40), (1, vI (N 40 53).toInt32)]) rfl ?_
        exact p_X12_part_203 J hrecX12_whole ((N 40 53).toInt32) σ M N hL
      · refine r_run J 1 (pc' := 107) (lv' := [(1, vI 0), (0, vR 40)]) (st' := [vR 40]) rfl ?_
        refine r_ldc2 J rfl wc_12_316 ?_
        refine r_callV J (As := [vL 240023]) (st := []) (fun r hr => c_X12_isWord 240023 σ M N hL r hr) cls12 (ly_40 hL) wm_12_318 wy_X12_isWord wd_X12_isWord ⟨by omega, by decide, by decide, by decide, Nat.le_of_ble_eq_true rfl⟩ rfl rfl (fun q110 hq110 => ?_)
        show g_H E 0 0 113 [(1, vI 0), (0, vR 40)] [vI q110] (σ, M, N) _ _
        refine r_if_eq J (tgt := 124) rfl (by decide) (fun c113 => ?_) (fun c113 => ?_)
        · refine r_run J 1 (pc' := 125) (lv' := [(1, vI 0), (0, vR 40)]) (st' := [vR 40]) rfl ?_
          refine r_ldc2 J rfl wc_12_325 ?_
          refine r_callV J (As := [vL 161437]) (st := []) (fun r hr => c_X12_isWord 161437 σ M N hL r hr) cls12 (ly_40 hL) wm_12_318 wy_X12_isWord wd_X12_isWord ⟨by omega, by decide, by decide, by decide, Nat.le_of_ble_eq_true rfl⟩ rfl rfl (fun q128 hq128 => ?_)
          show g_H E 0 0 131 [(1, vI 0), (0, vR 40)] [vI q128] (σ, M, N) _ _
          refine r_if_eq J (tgt := 142) rfl (by decide) (fun c131 => ?_) (fun c131 => ?_)
          · refine r_run J 1 (pc' := 143) (lv' := [(1, vI 0), (0, vR 40)]) (st' := [vR 40]) rfl ?_
            refine r_ldc2 J rfl wc_12_330 ?_
            refine r_callV J (As := [vL 427333]) (st := []) (fun r hr => c_X12_isWord 427333 σ M N hL r hr) cls12 (ly_40 hL) wm_12_318 wy_X12_isWord wd_X12_isWord ⟨by omega, by decide, by decide, by decide, Nat.le_of_ble_eq_true rfl⟩ rfl rfl (fun q146 hq146 => ?_)
            show g_H E 0 0 149 [(1, vI 0), (0, vR 40)] [vI q146] (σ, M, N) _ _
            refine r_if_eq J (tgt := 160) rfl (by decide) (fun c149 => ?_) (fun c149 => ?_)
            · refine r_run J 1 (pc' := 161) (lv' := [(1, vI 0), (0, vR 40)]) (st' := [vR 40]) rfl ?_
              refine r_ldc2 J rfl wc_12_335 ?_
              refine r_callV J (As := [vL 232546955]) (st := []) (fun r hr => c_X12_isWord 232546955 σ M N hL r hr) cls12 (ly_40 hL) wm_12_318 wy_X12_isWord wd_X12_isWord ⟨by omega, by decide, by decide, by decide, Nat.le_of_ble_eq_true rfl⟩ rfl rfl (fun q164 hq164 => ?_)
              show g_H E 0 0 167 [(1, vI 0), (0, vR 40)] [vI q164] (σ, M, N) _ _
              refine r_if_eq J (tgt := 178) rfl (by decide) (fun c167 => ?_) (fun c167 => ?_)
              · refine r_run J 1 (pc' := 179) (lv' := [(1, vI 0), (0, vR 40)]) (st' := [vR 40]) rfl ?_
                refine r_ldc2 J rfl wc_12_340 ?_
                refine r_callV J (As := [vL 275320391]) (st := []) (fun r hr => c_X12_isWord 275320391 σ M N hL r hr) cls12 (ly_40 hL) wm_12_318 wy_X12_isWord wd_X12_isWord ⟨by omega, by decide, by decide, by decide, Nat.le_of_ble_eq_true rfl⟩ rfl rfl (fun q182 hq182 => ?_)
                show g_H E 0 0 185 [(1, vI 0), (0, vR 40)] [vI q182] (σ, M, N) _ _
                refine r_if_eq J (tgt := 196) rfl (by decide) (fun c185 => ?_) (fun c185 => ?_)
                · refine r_run J 2 (pc' := 198) (lv' := [(1, vI 0), (0, vR 40)]) (st' := [vI 1, vR 40]) rfl ?_
                  refine r_callV J (As := [vI 1]) (st := []) (fun r hr => c_X12_wrong 1 σ M N hL r hr) cls12 (ly_40 hL) wm_12_306 wy_X12_wrong wd_X12_wrong ⟨by omega, by decide, by decide, by decide, Nat.le_of_ble_eq_true rfl⟩ rfl rfl (fun q198 hq198 => ?_)
                  show g_H E 0 0 201 [(1, vI 0), (0, vR 40)] [] (σ, q198, N) _ _
                  refine r_run J 1 (pc' := 202) (lv' := [(1, vI 0), (0, vR 40)]) (st' := [vI 0]) rfl ?_
                  exact r_iret J rfl rfl rfl rfl (by decide) (by decide)
                · refine r_run J 1 (pc' := 189) (lv' := [(1, vI 0), (0, vR 40)]) (st' := [vR 40]) rfl ?_
                  refine r_getI J cls12 rfl (k := 16) (by decide) wf_12_195 rfl (ly_40 hL) ?_
                  show g_H E 0 0 192 [(1, vI 0), (0, vR 40)] [vI (M 40 16)] (σ, M, N) _ _
                  refine r_run J 2 (pc' := 203) (lv' := [(1, vI (M 40 16)), (0, vR 40)]) (st' := []) rfl ?_
                  refine r_sub [1, 0] (lv' := [(0, vR 40), (1, vI (M 40 16))]) rfl ?_
                  exact p_X12_part_203 J hrecX12_whole (M 40 16) σ M N hL
              · refine r_run J 1 (pc' := 171) (lv' := [(1, vI 0), (0, vR 40)]) (st' := [vR 40]) rfl ?_
                refine r_getI J cls12 rfl (k := 57) (by decide) wf_12_337 rfl (ly_40 hL) ?_
                show g_H E 0 0 174 [(1, vI 0), (0, vR 40)] [vI (M 40 57)] (σ, M, N) _ _
                refine r_run J 2 (pc' := 203) (lv' := [(1, vI (M 40 57)), (0, vR 40)]) (st' := []) rfl ?_
                refine r_sub [1, 0] (lv' := [(0, vR 40), (1, vI (M 40 57))]) rfl ?_
                exact p_X12_part_203 J hrecX12_whole (M 40 57) σ M N hL
            · refine r_run J 1 (pc' := 153) (lv' := [(1, vI 0), (0, vR 40)]) (st' := [vR 40]) rfl ?_
              refine r_getI J cls12 rfl (k := 56) (by decide) wf_12_332 rfl (ly_40 hL) ?_
              show g_H E 0 0 156 [(1, vI 0), (0, vR 40)] [vI (M 40 56)] (σ, M, N) _ _
              refine r_run J 2 (pc' := 203) (lv' := [(1, vI (M 40 56)), (0, vR 40)]) (st' := []) rfl ?_
              refine r_sub [1, 0] (lv' := [(0, vR 40), (1, vI (M 40 56))]) rfl ?_
              exact p_X12_part_203 J hrecX12_whole (M 40 56) σ M N hL
          · refine r_run J 1 (pc' := 135) (lv' := [(1, vI 0), (0, vR 40)]) (st' := [vR 40]) rfl ?_
            refine r_getI J cls12 rfl (k := 55) (by decide) wf_12_327 rfl (ly_40 hL) ?_
            show g_H E 0 0 138 [(1, vI 0), (0, vR 40)] [vI (M 40 55)] (σ, M, N) _ _
            refine r_run J 2 (pc' := 203) (lv' := [(1, vI (M 40 55)), (0, vR 40)]) (st' := []) rfl ?_
            refine r_sub [1, 0] (lv' := [(0, vR 40), (1, vI (M 40 55))]) rfl ?_
            exact p_X12_part_203 J hrecX12_whole (M 40 55) σ M N hL
        · refine r_run J 1 (pc' := 117) (lv' := [(1, vI 0), (0, vR 40)]) (st' := [vR 40]) rfl ?_
          refine r_getI J cls12 rfl (k := 54) (by decide) wf_12_322 rfl (ly_40 hL) ?_
          show g_H E 0 0 120 [(1, vI 0), (0, vR 40)] [vI (M 40 54)] (σ, M, N) _ _
          refine r_run J 2 (pc' := 203) (lv' := [(1, vI (M 40 54)), (0, vR 40)]) (st' := []) rfl ?_
          refine r_sub [1, 0] (lv' := [(0, vR 40), (1, vI (M 40 54))]) rfl ?_
          exact p_X12_part_203 J hrecX12_whole (M 40 54) σ M N hL
    · refine r_run J 1 (pc' := 21) (lv' := [(1, vI 0), (0, vR 40)]) (st' := [vR 40]) rfl ?_
      refine r_getI J cls12 rfl (k := 50) (by decide) wf_12_303 rfl (ly_40 hL) ?_
      show g_H E 0 0 24 [(1, vI 0), (0, vR 40)] [vI (M 40 50)] (σ, M, N) _ _
      refine r_run J 1 (pc' := 25) (lv' := [(1, vI 0), (0, vR 40)]) (st' := [vI 5, vI (M 40 50)]) rfl ?_
      refine r_icmp_ne J (tgt := 35) rfl (by decide) (fun c25 => ?_) (fun c25 => ?_)
      · refine r_run J 2 (pc' := 30) (lv' := [(1, vI 0), (0, vR 40)]) (st' := [vI 3, vR 40]) rfl ?_
        refine r_callV J (As := [vI 3]) (st := []) (fun r hr => c_X12_wrong 3 σ M N hL r hr) cls12 (ly_40 hL) wm_12_306 wy_X12_wrong wd_X12_wrong ⟨by omega, by decide, by decide, by decide, Nat.le_of_ble_eq_true rfl⟩ rfl rfl (fun q30 hq30 => ?_)
        show g_H E 0 0 33 [(1, vI 0), (0, vR 40)] [] (σ, q30, N) _ _
        refine r_run J 1 (pc' := 34) (lv' := [(1, vI 0), (0, vR 40)]) (st' := [vI 0]) rfl ?_
        exact r_iret J rfl rfl rfl rfl (by decide) (by decide)
      · refine r_run J 2 (pc' := 37) (lv' := [(1, vI 0), (0, vR 40)]) (st' := [vR 40, vR 40]) rfl ?_
        refine r_getI J cls12 rfl (k := 50) (by decide) wf_12_303 rfl (ly_40 hL) ?_
        show g_H E 0 0 40 [(1, vI 0), (0, vR 40)] [vI (M 40 50), vR 40] (σ, M, N) _ _
        refine r_run J 2 (pc' := 42) (lv' := [(1, vI 0), (0, vR 40)]) (st' := [vI ((M 40 50) + (1 : Int32)), vR 40]) rfl ?_
        refine r_putI J cls12 rfl (k := 50) (by decide) wf_12_303 rfl (Or.inl rfl) ⟨rfl, rfl⟩ (ly_40 hL) ?_
        show g_H E 0 0 45 [(1, vI 0), (0, vR 40)] [] (σ, (g_up M 40 50 ((M 40 50) + (1 : Int32))), N) _ _
        refine r_run J 1 (pc' := 46) (lv' := [(1, vI 0), (0, vR 40)]) (st' := [vR 40]) rfl ?_
        refine r_callV J (As := []) (st := []) (fun r hr => c_X12_next σ (g_up M 40 50 ((M 40 50) + (1 : Int32))) N hL r hr) cls12 (ly_40 hL) wm_12_309 wy_X12_next wd_X12_next ⟨by omega, by decide, by decide, by decide, Nat.le_of_ble_eq_true rfl⟩ rfl rfl (fun q46 hq46 => ?_)
        show g_H E 0 0 49 [(1, vI 0), (0, vR 40)] [] (σ, q46.1, q46.2) _ _
        refine r_run J 1 (pc' := 50) (lv' := [(1, vI 0), (0, vR 40)]) (st' := [vR 40]) rfl ?_
        refine r_callV J (As := []) (st := []) (fun r hr => hrecX12_whole σ q46.1 q46.2 hL r hr) cls12 (ly_40 hL) wm_12_312 wy_X12_whole wd_X12_whole ⟨by omega, by decide, by decide, by decide, Nat.le_of_ble_eq_true rfl⟩ rfl rfl (fun q50 hq50 => ?_)
        show g_H E 0 0 53 [(1, vI 0), (0, vR 40)] [vI q50.1] (σ, q50.2.1, q50.2.2) _ _
        refine r_run J 3 (pc' := 56) (lv' := [(1, vI q50.1), (0, vR 40)]) (st' := [vR 40, vR 40]) rfl ?_
        refine r_getI J cls12 rfl (k := 50) (by decide) wf_12_303 rfl (ly_40 hL) ?_
        show g_H E 0 0 59 [(1, vI q50.1), (0, vR 40)] [vI (q50.2.1 40 50), vR 40] (σ, q50.2.1, q50.2.2) _ _
        refine r_run J 2 (pc' := 61) (lv' := [(1, vI q50.1), (0, vR 40)]) (st' := [vI ((q50.2.1 40 50) - (1 : Int32)), vR 40]) rfl ?_
        refine r_putI J cls12 rfl (k := 50) (by decide) wf_12_303 rfl (Or.inl rfl) ⟨rfl, rfl⟩ (ly_40 hL) ?_
        show g_H E 0 0 64 [(1, vI q50.1), (0, vR 40)] [] (σ, (g_up q50.2.1 40 50 ((q50.2.1 40 50) - (1 : Int32))), q50.2.2) _ _
        refine r_run J 1 (pc' := 65) (lv' := [(1, vI q50.1), (0, vR 40)]) (st' := [vR 40]) rfl ?_
        refine r_getI J cls12 rfl (k := 51) (by decide) wf_12_294 rfl (ly_40 hL) ?_
        show g_H E 0 0 68 [(1, vI q50.1), (0, vR 40)] [vI ((g_up q50.2.1 40 50 ((q50.2.1 40 50) - (1 : Int32))) 40 51)] (σ, (g_up q50.2.1 40 50 ((q50.2.1 40 50) - (1 : Int32))), q50.2.2) _ _
        refine r_if_le J (tgt := 73) rfl (by decide) (fun c68 => ?_) (fun c68 => ?_)
        · refine r_run J 1 (pc' := 72) (lv' := [(1, vI q50.1), (0, vR 40)]) (st' := [vI 0]) rfl ?_
          exact r_iret J rfl rfl rfl rfl (by decide) (by decide)
        · refine r_run J 2 (pc' := 76) (lv' := [(1, vI q50.1), (0, vR 40)]) (st' := [vI 41, vR 40]) rfl ?_
          refine r_callV J (As := [vI 41]) (st := []) (fun r hr => c_X12_isSign 41 σ (g_up q50.2.1 40 50 ((q50.2.1 40 50) - (1 : Int32))) q50.2.2 hL r hr) cls12 (ly_40 hL) wm_12_300 wy_X12_isSign wd_X12_isSign ⟨by omega, by decide, by decide, by decide, Nat.le_of_ble_eq_true rfl⟩ rfl rfl (fun q76 hq76 => ?_)
          show g_H E 0 0 79 [(1, vI q50.1), (0, vR 40)] [vI q76] (σ, (g_up q50.2.1 40 50 ((q50.2.1 40 50) - (1 : Int32))), q50.2.2) _ _
          refine r_if_ne J (tgt := 203) rfl (by decide) (fun c79 => ?_) (fun c79 => ?_)
          · refine r_run J 2 (pc' := 84) (lv' := [(1, vI q50.1), (0, vR 40)]) (st' := [vI 1, vR 40]) rfl ?_
            refine r_callV J (As := [vI 1]) (st := []) (fun r hr => c_X12_wrong 1 σ (g_up q50.2.1 40 50 ((q50.2.1 40 50) - (1 : Int32))) q50.2.2 hL r hr) cls12 (ly_40 hL) wm_12_306 wy_X12_wrong wd_X12_wrong ⟨by omega, by decide, by decide, by decide, Nat.le_of_ble_eq_true rfl⟩ rfl rfl (fun q84 hq84 => ?_)
            show g_H E 0 0 87 [(1, vI q50.1), (0, vR 40)] [] (σ, q84, q50.2.2) _ _
            refine r_run J 1 (pc' := 88) (lv' := [(1, vI q50.1), (0, vR 40)]) (st' := [vI 0]) rfl ?_
            exact r_iret J rfl rfl rfl rfl (by decide) (by decide)
          · refine r_sub [1, 0] (lv' := [(0, vR 40), (1, vI q50.1)]) rfl ?_
            exact p_X12_part_203 J hrecX12_whole q50.1 σ (g_up q50.2.1 40 50 ((q50.2.1 40 50) - (1 : Int32))) q50.2.2 hL
def tb_X12_sum : gT := [(0, .aload_n 0, 1, 0), (1, .invokevirtual 342, 3, 0), (4, .istore_n 1, 1, 0), (5, .aload_n 0, 1, 0), (6, .getfield 294, 3, 0), (9, .ifCond .ne 54, 3, 0), (12, .aload_n 0, 1, 0), (13, .bipush 43, 2, 43), (15, .invokevirtual 300, 3, 0), (18, .ifCond .ne 12, 3, 0), (21, .aload_n 0, 1, 0), (22, .bipush 45, 2, 45), (24, .invokevirtual 300, 3, 0), (27, .ifCond .eq 36, 3, 0), (30, .aload_n 0, 1, 0), (31, .bipush 43, 2, 43), (33, .invokevirtual 300, 3, 0), (36, .istore_n 2, 1, 0), (37, .aload_n 0, 1, 0), (38, .invokevirtual 309, 3, 0), (41, .aload_n 0, 1, 0), (42, .invokevirtual 342, 3, 0), (45, .istore_n 3, 1, 0), (46, .iload_n 2, 1, 0), (47, .ifCond .eq 9, 3, 0), (50, .iload_n 1, 1, 0), (51, .iload_n 3, 1, 0), (52, .iadd, 1, 0), (53, .goto 6, 3, 0), (56, .iload_n 1, 1, 0), (57, .iload_n 3, 1, 0), (58, .isub, 1, 0), (59, .istore_n 1, 1, 0), (60, .goto (-55), 3, 0), (63, .iload_n 1, 1, 0), (64, .ireturn, 1, 0)]
set_option maxRecDepth 100000 in
theorem tk_X12_sum : g_okT cX12_sum tb_X12_sum = true := by decide +kernel
abbrev J_X12_sum (d : Nat) (E : gE) (l : Launch) : Prop := g_J E cX12_sum RX12 "sum" (some .int) 4 tb_X12_sum (3 + d) 0 0 l
set_option maxHeartbeats 4000000 in
set_option maxRecDepth 100000 in
theorem p_X12_sum_59 {l : Launch} {E : gE} {d' : Nat}  {recX12_part : gS → gM → gN → Option (Int32 × gM × gN)}(J : J_X12_sum (d' + 1) E l) (hrecX12_part : ∀ (σ : gS) (M : gM) (N : gN) (_ : g_layM σ) r, recX12_part σ M N = some r → g_Ct l yX12_part cX12_part 2 (some .int) (3 + d') 0 0 [vR 40] (σ, M, N) (eIMN σ r)) {k5 : Int32 → gS → gM → gN → Option (Int32 × gM × gN)} (H5 : ∀ (x1 : Int32) (σ : gS) (M : gM) (N : gN) (_ : g_layM σ), g_H E 0 0 5 [(0, vR 40), (1, vI x1)] [] (σ, M, N) (k5 x1 σ M N) (eIMN σ)) (sx0 : Int32) (σ : gS) (M : gM) (N : gN) (hL : g_layM σ) : g_H E 0 0 59 [(0, vR 40)] [vI sx0] (σ, M, N) (b_X12_sum_59 recX12_part k5 sx0 σ M N) (eIMN σ) := by
  unfold b_X12_sum_59
  refine r_run J 2 (pc' := 5) (lv' := [(1, vI sx0), (0, vR 40)]) (st' := []) rfl ?_
  refine r_sub [1, 0] (lv' := [(0, vR 40), (1, vI sx0)]) rfl ?_
  exact H5 sx0 σ M N hL
set_option maxHeartbeats 4000000 in
set_option maxRecDepth 100000 in
theorem p_X12_sum_30 {l : Launch} {E : gE} {d' : Nat}  {recX12_part : gS → gM → gN → Option (Int32 × gM × gN)}(J : J_X12_sum (d' + 1) E l) (hrecX12_part : ∀ (σ : gS) (M : gM) (N : gN) (_ : g_layM σ) r, recX12_part σ M N = some r → g_Ct l yX12_part cX12_part 2 (some .int) (3 + d') 0 0 [vR 40] (σ, M, N) (eIMN σ r)) {k5 : Int32 → gS → gM → gN → Option (Int32 × gM × gN)} (H5 : ∀ (x1 : Int32) (σ : gS) (M : gM) (N : gN) (_ : g_layM σ), g_H E 0 0 5 [(0, vR 40), (1, vI x1)] [] (σ, M, N) (k5 x1 σ M N) (eIMN σ)) (x1 : Int32) (σ : gS) (M : gM) (N : gN) (hL : g_layM σ) : g_H E 0 0 30 [(0, vR 40), (1, vI x1)] [] (σ, M, N) (b_X12_sum_30 recX12_part k5 x1 σ M N) (eIMN σ) := by
  unfold b_X12_sum_30
  refine r_run J 2 (pc' := 33) (lv' := [(0, vR 40), (1, vI x1)]) (st' := [vI 43, vR 40]) rfl ?_
  refine r_callV J (As := [vI 43]) (st := []) (fun r hr => c_X12_isSign 43 σ M N hL r hr) cls12 (ly_40 hL) wm_12_300 wy_X12_isSign wd_X12_isSign ⟨by omega, by decide, by decide, by decide, Nat.le_of_ble_eq_true rfl⟩ rfl rfl (fun q33 hq33 => ?_)
  show g_H E 0 0 36 [(0, vR 40), (1, vI x1)] [vI q33] (σ, M, N) _ _
  refine r_run J 2 (pc' := 38) (lv' := [(2, vI q33), (0, vR 40), (1, vI x1)]) (st' := [vR 40]) rfl ?_
  refine r_callV J (As := []) (st := []) (fun r hr => c_X12_next σ M N hL r hr) cls12 (ly_40 hL) wm_12_309 wy_X12_next wd_X12_next ⟨by omega, by decide, by decide, by decide, Nat.le_of_ble_eq_true rfl⟩ rfl rfl (fun q38 hq38 => ?_)
  show g_H E 0 0 41 [(2, vI q33), (0, vR 40), (1, vI x1)] [] (σ, q38.1, q38.2) _ _
  refine r_run J 1 (pc' := 42) (lv' := [(2, vI q33), (0, vR 40), (1, vI x1)]) (st' := [vR 40]) rfl ?_
  refine r_callV J (As := []) (st := []) (fun r hr => hrecX12_part σ q38.1 q38.2 hL r hr) cls12 (ly_40 hL) wm_12_342 wy_X12_part wd_X12_part ⟨by omega, by decide, by decide, by decide, Nat.le_of_ble_eq_true rfl⟩ rfl rfl (fun q42 hq42 => ?_)
  show g_H E 0 0 45 [(2, vI q33), (0, vR 40), (1, vI x1)] [vI q42.1] (σ, q42.2.1, q42.2.2) _ _
  refine r_run J 2 (pc' := 47) (lv' := [(3, vI q42.1), (2, vI q33), (0, vR 40), (1, vI x1)]) (st' := [vI q33]) rfl ?_
  refine r_if_eq J (tgt := 56) rfl (by decide) (fun c47 => ?_) (fun c47 => ?_)
  · refine r_run J 3 (pc' := 59) (lv' := [(3, vI q42.1), (2, vI q33), (0, vR 40), (1, vI x1)]) (st' := [vI (x1 - q42.1)]) rfl ?_
    refine r_sub [2] (lv' := [(0, vR 40)]) rfl ?_
    exact p_X12_sum_59 J hrecX12_part H5 (x1 - q42.1) σ q42.2.1 q42.2.2 hL
  · refine r_run J 4 (pc' := 59) (lv' := [(3, vI q42.1), (2, vI q33), (0, vR 40), (1, vI x1)]) (st' := [vI (x1 + q42.1)]) rfl ?_
    refine r_sub [2] (lv' := [(0, vR 40)]) rfl ?_
    exact p_X12_sum_59 J hrecX12_part H5 (x1 + q42.1) σ q42.2.1 q42.2.2 hL
set_option maxHeartbeats 4000000 in
set_option maxRecDepth 100000 in
theorem p_X12_sum_5 {l : Launch} {E : gE} {d' : Nat}  {recX12_part : gS → gM → gN → Option (Int32 × gM × gN)}(J : J_X12_sum (d' + 1) E l) (hrecX12_part : ∀ (σ : gS) (M : gM) (N : gN) (_ : g_layM σ) r, recX12_part σ M N = some r → g_Ct l yX12_part cX12_part 2 (some .int) (3 + d') 0 0 [vR 40] (σ, M, N) (eIMN σ r)) : ∀ (n : Nat) (x1 : Int32) (σ : gS) (M : gM) (N : gN) (hL : g_layM σ), g_H E 0 0 5 [(0, vR 40), (1, vI x1)] [] (σ, M, N) (l_X12_sum_5 recX12_part n x1 σ M N) (eIMN σ) := by
  intro n
  induction n with
  | zero => intros; exact h_none
  | succ n ih =>
    intro x1 σ M N hL
    rw [l_X12_sum_5]
    refine r_run J 1 (pc' := 6) (lv' := [(0, vR 40), (1, vI x1)]) (st' := [vR 40]) rfl ?_
    refine r_getI J cls12 rfl (k := 51) (by decide) wf_12_294 rfl (ly_40 hL) ?_
    show g_H E 0 0 9 [(0, vR 40), (1, vI x1)] [vI (M 40 51)] (σ, M, N) _ _
    refine r_if_ne J (tgt := 63) rfl (by decide) (fun c9 => ?_) (fun c9 => ?_)
    · refine r_run J 2 (pc' := 15) (lv' := [(0, vR 40), (1, vI x1)]) (st' := [vI 43, vR 40]) rfl ?_
      refine r_callV J (As := [vI 43]) (st := []) (fun r hr => c_X12_isSign 43 σ M N hL r hr) cls12 (ly_40 hL) wm_12_300 wy_X12_isSign wd_X12_isSign ⟨by omega, by decide, by decide, by decide, Nat.le_of_ble_eq_true rfl⟩ rfl rfl (fun q15 hq15 => ?_)
      show g_H E 0 0 18 [(0, vR 40), (1, vI x1)] [vI q15] (σ, M, N) _ _
      refine r_if_ne J (tgt := 30) rfl (by decide) (fun c18 => ?_) (fun c18 => ?_)
      · refine r_run J 2 (pc' := 24) (lv' := [(0, vR 40), (1, vI x1)]) (st' := [vI 45, vR 40]) rfl ?_
        refine r_callV J (As := [vI 45]) (st := []) (fun r hr => c_X12_isSign 45 σ M N hL r hr) cls12 (ly_40 hL) wm_12_300 wy_X12_isSign wd_X12_isSign ⟨by omega, by decide, by decide, by decide, Nat.le_of_ble_eq_true rfl⟩ rfl rfl (fun q24 hq24 => ?_)
        show g_H E 0 0 27 [(0, vR 40), (1, vI x1)] [vI q24] (σ, M, N) _ _
        refine r_if_eq J (tgt := 63) rfl (by decide) (fun c27 => ?_) (fun c27 => ?_)
        · refine r_run J 1 (pc' := 64) (lv' := [(0, vR 40), (1, vI x1)]) (st' := [vI x1]) rfl ?_
          exact r_iret J rfl rfl rfl rfl (by decide) (by decide)
        · exact p_X12_sum_30 J hrecX12_part ih x1 σ M N hL
      · exact p_X12_sum_30 J hrecX12_part ih x1 σ M N hL
    · refine r_run J 1 (pc' := 64) (lv' := [(0, vR 40), (1, vI x1)]) (st' := [vI x1]) rfl ?_
      exact r_iret J rfl rfl rfl rfl (by decide) (by decide)
set_option maxHeartbeats 4000000 in
set_option maxRecDepth 100000 in
theorem p_X12_sum_0 {l : Launch} {E : gE} {d' : Nat}  {recX12_part : gS → gM → gN → Option (Int32 × gM × gN)}(J : J_X12_sum (d' + 1) E l) (hrecX12_part : ∀ (σ : gS) (M : gM) (N : gN) (_ : g_layM σ) r, recX12_part σ M N = some r → g_Ct l yX12_part cX12_part 2 (some .int) (3 + d') 0 0 [vR 40] (σ, M, N) (eIMN σ r)) (σ : gS) (M : gM) (N : gN) (hL : g_layM σ) : g_H E 0 0 0 [(0, vR 40)] [] (σ, M, N) (b_X12_sum_0 recX12_part σ M N) (eIMN σ) := by
  unfold b_X12_sum_0
  refine r_run J 1 (pc' := 1) (lv' := [(0, vR 40)]) (st' := [vR 40]) rfl ?_
  refine r_callV J (As := []) (st := []) (fun r hr => hrecX12_part σ M N hL r hr) cls12 (ly_40 hL) wm_12_342 wy_X12_part wd_X12_part ⟨by omega, by decide, by decide, by decide, Nat.le_of_ble_eq_true rfl⟩ rfl rfl (fun q1 hq1 => ?_)
  show g_H E 0 0 4 [(0, vR 40)] [vI q1.1] (σ, q1.2.1, q1.2.2) _ _
  refine r_run J 1 (pc' := 5) (lv' := [(1, vI q1.1), (0, vR 40)]) (st' := []) rfl ?_
  refine r_sub [1, 0] (lv' := [(0, vR 40), (1, vI q1.1)]) rfl ?_
  exact p_X12_sum_5 J hrecX12_part g_FU q1.1 σ q1.2.1 q1.2.2 hL
def tb_X12_test : gT := [(0, .aload_n 0, 1, 0), (1, .invokevirtual 345, 3, 0), (4, .istore_n 1, 1, 0), (5, .aload_n 0, 1, 0), (6, .getfield 294, 3, 0), (9, .ifCond .gt 21, 3, 0), (12, .aload_n 0, 1, 0), (13, .bipush 60, 2, 60), (15, .invokevirtual 300, 3, 0), (18, .ifCond .ne 14, 3, 0), (21, .aload_n 0, 1, 0), (22, .bipush 61, 2, 61), (24, .invokevirtual 300, 3, 0), (27, .ifCond .ne 5, 3, 0), (30, .iload_n 1, 1, 0), (31, .ireturn, 1, 0), (32, .aload_n 0, 1, 0), (33, .bipush 60, 2, 60), (35, .invokevirtual 300, 3, 0), (38, .istore_n 2, 1, 0), (39, .aload_n 0, 1, 0), (40, .invokevirtual 309, 3, 0), (43, .aload_n 0, 1, 0), (44, .invokevirtual 345, 3, 0), (47, .istore_n 3, 1, 0), (48, .iload_n 2, 1, 0), (49, .ifCond .eq 11, 3, 0), (52, .iload_n 1, 1, 0), (53, .iload_n 3, 1, 0), (54, .if_icmp .ge 15, 3, 0), (57, .goto 8, 3, 0), (60, .iload_n 1, 1, 0), (61, .iload_n 3, 1, 0), (62, .if_icmp .ne 7, 3, 0), (65, .iconst 1, 1, 1), (66, .goto 4, 3, 0), (69, .iconst 0, 1, 0), (70, .ireturn, 1, 0)]
set_option maxRecDepth 100000 in
theorem tk_X12_test : g_okT cX12_test tb_X12_test = true := by decide +kernel
abbrev J_X12_test (d : Nat) (E : gE) (l : Launch) : Prop := g_J E cX12_test RX12 "test" (some .int) 4 tb_X12_test (3 + d) 0 0 l
set_option maxHeartbeats 4000000 in
set_option maxRecDepth 100000 in
theorem p_X12_test_65 {l : Launch} {E : gE} {d' : Nat}  {recX12_sum : gS → gM → gN → Option (Int32 × gM × gN)}(J : J_X12_test (d' + 1) E l) (hrecX12_sum : ∀ (σ : gS) (M : gM) (N : gN) (_ : g_layM σ) r, recX12_sum σ M N = some r → g_Ct l yX12_sum cX12_sum 4 (some .int) (3 + d') 0 0 [vR 40] (σ, M, N) (eIMN σ r)) (σ : gS) (M : gM) (N : gN) (hL : g_layM σ) : g_H E 0 0 65 [] [] (σ, M, N) (b_X12_test_65 recX12_sum σ M N) (eIMN σ) := by
  unfold b_X12_test_65
  refine r_run J 2 (pc' := 70) (lv' := []) (st' := [vI 1]) rfl ?_
  exact r_iret J rfl rfl rfl rfl (by decide) (by decide)
set_option maxHeartbeats 4000000 in
set_option maxRecDepth 100000 in
theorem p_X12_test_32 {l : Launch} {E : gE} {d' : Nat}  {recX12_sum : gS → gM → gN → Option (Int32 × gM × gN)}(J : J_X12_test (d' + 1) E l) (hrecX12_sum : ∀ (σ : gS) (M : gM) (N : gN) (_ : g_layM σ) r, recX12_sum σ M N = some r → g_Ct l yX12_sum cX12_sum 4 (some .int) (3 + d') 0 0 [vR 40] (σ, M, N) (eIMN σ r)) (x1 : Int32) (σ : gS) (M : gM) (N : gN) (hL : g_layM σ) : g_H E 0 0 32 [(0, vR 40), (1, vI x1)] [] (σ, M, N) (b_X12_test_32 recX12_sum x1 σ M N) (eIMN σ) := by
  unfold b_X12_test_32
  refine r_run J 2 (pc' := 35) (lv' := [(0, vR 40), (1, vI x1)]) (st' := [vI 60, vR 40]) rfl ?_
  refine r_callV J (As := [vI 60]) (st := []) (fun r hr => c_X12_isSign 60 σ M N hL r hr) cls12 (ly_40 hL) wm_12_300 wy_X12_isSign wd_X12_isSign ⟨by omega, by decide, by decide, by decide, Nat.le_of_ble_eq_true rfl⟩ rfl rfl (fun q35 hq35 => ?_)
  show g_H E 0 0 38 [(0, vR 40), (1, vI x1)] [vI q35] (σ, M, N) _ _
  refine r_run J 2 (pc' := 40) (lv' := [(2, vI q35), (0, vR 40), (1, vI x1)]) (st' := [vR 40]) rfl ?_
  refine r_callV J (As := []) (st := []) (fun r hr => c_X12_next σ M N hL r hr) cls12 (ly_40 hL) wm_12_309 wy_X12_next wd_X12_next ⟨by omega, by decide, by decide, by decide, Nat.le_of_ble_eq_true rfl⟩ rfl rfl (fun q40 hq40 => ?_)
  show g_H E 0 0 43 [(2, vI q35), (0, vR 40), (1, vI x1)] [] (σ, q40.1, q40.2) _ _
  refine r_run J 1 (pc' := 44) (lv' := [(2, vI q35), (0, vR 40), (1, vI x1)]) (st' := [vR 40]) rfl ?_
  refine r_callV J (As := []) (st := []) (fun r hr => hrecX12_sum σ q40.1 q40.2 hL r hr) cls12 (ly_40 hL) wm_12_345 wy_X12_sum wd_X12_sum ⟨by omega, by decide, by decide, by decide, Nat.le_of_ble_eq_true rfl⟩ rfl rfl (fun q44 hq44 => ?_)
  show g_H E 0 0 47 [(2, vI q35), (0, vR 40), (1, vI x1)] [vI q44.1] (σ, q44.2.1, q44.2.2) _ _
  refine r_run J 2 (pc' := 49) (lv' := [(3, vI q44.1), (2, vI q35), (0, vR 40), (1, vI x1)]) (st' := [vI q35]) rfl ?_
  refine r_if_eq J (tgt := 60) rfl (by decide) (fun c49 => ?_) (fun c49 => ?_)
  · refine r_run J 2 (pc' := 62) (lv' := [(3, vI q44.1), (2, vI q35), (0, vR 40), (1, vI x1)]) (st' := [vI q44.1, vI x1]) rfl ?_
    refine r_icmp_ne J (tgt := 69) rfl (by decide) (fun c62 => ?_) (fun c62 => ?_)
    · refine r_sub [] (lv' := []) rfl ?_
      exact p_X12_test_65 J hrecX12_sum σ q44.2.1 q44.2.2 hL
    · refine r_run J 1 (pc' := 70) (lv' := [(3, vI q44.1), (2, vI q35), (0, vR 40), (1, vI x1)]) (st' := [vI 0]) rfl ?_
      exact r_iret J rfl rfl rfl rfl (by decide) (by decide)
  · refine r_run J 2 (pc' := 54) (lv' := [(3, vI q44.1), (2, vI q35), (0, vR 40), (1, vI x1)]) (st' := [vI q44.1, vI x1]) rfl ?_
    refine r_icmp_ge J (tgt := 69) rfl (by decide) (fun c54 => ?_) (fun c54 => ?_)
    · refine r_run J 1 (pc' := 65) (lv' := [(3, vI q44.1), (2, vI q35), (0, vR 40), (1, vI x1)]) (st' := []) rfl ?_
      refine r_sub [] (lv' := []) rfl ?_
      exact p_X12_test_65 J hrecX12_sum σ q44.2.1 q44.2.2 hL
    · refine r_run J 1 (pc' := 70) (lv' := [(3, vI q44.1), (2, vI q35), (0, vR 40), (1, vI x1)]) (st' := [vI 0]) rfl ?_
      exact r_iret J rfl rfl rfl rfl (by decide) (by decide)
set_option maxHeartbeats 4000000 in
set_option maxRecDepth 100000 in
theorem p_X12_test_0 {l : Launch} {E : gE} {d' : Nat}  {recX12_sum : gS → gM → gN → Option (Int32 × gM × gN)}(J : J_X12_test (d' + 1) E l) (hrecX12_sum : ∀ (σ : gS) (M : gM) (N : gN) (_ : g_layM σ) r, recX12_sum σ M N = some r → g_Ct l yX12_sum cX12_sum 4 (some .int) (3 + d') 0 0 [vR 40] (σ, M, N) (eIMN σ r)) (σ : gS) (M : gM) (N : gN) (hL : g_layM σ) : g_H E 0 0 0 [(0, vR 40)] [] (σ, M, N) (b_X12_test_0 recX12_sum σ M N) (eIMN σ) := by
  unfold b_X12_test_0
  refine r_run J 1 (pc' := 1) (lv' := [(0, vR 40)]) (st' := [vR 40]) rfl ?_
  refine r_callV J (As := []) (st := []) (fun r hr => hrecX12_sum σ M N hL r hr) cls12 (ly_40 hL) wm_12_345 wy_X12_sum wd_X12_sum ⟨by omega, by decide, by decide, by decide, Nat.le_of_ble_eq_true rfl⟩ rfl rfl (fun q1 hq1 => ?_)
  show g_H E 0 0 4 [(0, vR 40)] [vI q1.1] (σ, q1.2.1, q1.2.2) _ _
  refine r_run J 2 (pc' := 6) (lv' := [(1, vI q1.1), (0, vR 40)]) (st' := [vR 40]) rfl ?_
  refine r_getI J cls12 rfl (k := 51) (by decide) wf_12_294 rfl (ly_40 hL) ?_
  show g_H E 0 0 9 [(1, vI q1.1), (0, vR 40)] [vI (q1.2.1 40 51)] (σ, q1.2.1, q1.2.2) _ _
  refine r_if_gt J (tgt := 30) rfl (by decide) (fun c9 => ?_) (fun c9 => ?_)
  · refine r_run J 1 (pc' := 31) (lv' := [(1, vI q1.1), (0, vR 40)]) (st' := [vI q1.1]) rfl ?_
    exact r_iret J rfl rfl rfl rfl (by decide) (by decide)
  · refine r_run J 2 (pc' := 15) (lv' := [(1, vI q1.1), (0, vR 40)]) (st' := [vI 60, vR 40]) rfl ?_
    refine r_callV J (As := [vI 60]) (st := []) (fun r hr => c_X12_isSign 60 σ q1.2.1 q1.2.2 hL r hr) cls12 (ly_40 hL) wm_12_300 wy_X12_isSign wd_X12_isSign ⟨by omega, by decide, by decide, by decide, Nat.le_of_ble_eq_true rfl⟩ rfl rfl (fun q15 hq15 => ?_)
    show g_H E 0 0 18 [(1, vI q1.1), (0, vR 40)] [vI q15] (σ, q1.2.1, q1.2.2) _ _
    refine r_if_ne J (tgt := 32) rfl (by decide) (fun c18 => ?_) (fun c18 => ?_)
    · refine r_run J 2 (pc' := 24) (lv' := [(1, vI q1.1), (0, vR 40)]) (st' := [vI 61, vR 40]) rfl ?_
      refine r_callV J (As := [vI 61]) (st := []) (fun r hr => c_X12_isSign 61 σ q1.2.1 q1.2.2 hL r hr) cls12 (ly_40 hL) wm_12_300 wy_X12_isSign wd_X12_isSign ⟨by omega, by decide, by decide, by decide, Nat.le_of_ble_eq_true rfl⟩ rfl rfl (fun q24 hq24 => ?_)
      show g_H E 0 0 27 [(1, vI q1.1), (0, vR 40)] [vI q24] (σ, q1.2.1, q1.2.2) _ _
      refine r_if_ne J (tgt := 32) rfl (by decide) (fun c27 => ?_) (fun c27 => ?_)
      · refine r_run J 1 (pc' := 31) (lv' := [(1, vI q1.1), (0, vR 40)]) (st' := [vI q1.1]) rfl ?_
        exact r_iret J rfl rfl rfl rfl (by decide) (by decide)
      · refine r_sub [1, 0] (lv' := [(0, vR 40), (1, vI q1.1)]) rfl ?_
        exact p_X12_test_32 J hrecX12_sum q1.1 σ q1.2.1 q1.2.2 hL
    · refine r_sub [1, 0] (lv' := [(0, vR 40), (1, vI q1.1)]) rfl ?_
      exact p_X12_test_32 J hrecX12_sum q1.1 σ q1.2.1 q1.2.2 hL
def tb_X12_whole : gT := [(0, .aload_n 0, 1, 0), (1, .invokevirtual 348, 3, 0), (4, .istore_n 1, 1, 0), (5, .aload_n 0, 1, 0), (6, .getfield 294, 3, 0), (9, .ifCond .ne 39, 3, 0), (12, .aload_n 0, 1, 0), (13, .ldc2_w 351, 3, 0), (16, .invokevirtual 318, 3, 0), (19, .ifCond .eq 29, 3, 0), (22, .aload_n 0, 1, 0), (23, .invokevirtual 309, 3, 0), (26, .aload_n 0, 1, 0), (27, .invokevirtual 348, 3, 0), (30, .istore_n 2, 1, 0), (31, .iload_n 1, 1, 0), (32, .ifCond .eq 11, 3, 0), (35, .iload_n 2, 1, 0), (36, .ifCond .eq 7, 3, 0), (39, .iconst 1, 1, 1), (40, .goto 4, 3, 0), (43, .iconst 0, 1, 0), (44, .istore_n 1, 1, 0), (45, .goto (-40), 3, 0), (48, .iload_n 1, 1, 0), (49, .ireturn, 1, 0)]
set_option maxRecDepth 100000 in
theorem tk_X12_whole : g_okT cX12_whole tb_X12_whole = true := by decide +kernel
abbrev J_X12_whole (d : Nat) (E : gE) (l : Launch) : Prop := g_J E cX12_whole RX12 "whole" (some .int) 3 tb_X12_whole (3 + d) 0 0 l
set_option maxHeartbeats 4000000 in
set_option maxRecDepth 100000 in
theorem p_X12_whole_44 {l : Launch} {E : gE} {d' : Nat}  {recX12_test : gS → gM → gN → Option (Int32 × gM × gN)}(J : J_X12_whole (d' + 1) E l) (hrecX12_test : ∀ (σ : gS) (M : gM) (N : gN) (_ : g_layM σ) r, recX12_test σ M N = some r → g_Ct l yX12_test cX12_test 4 (some .int) (3 + d') 0 0 [vR 40] (σ, M, N) (eIMN σ r)) {k5 : Int32 → gS → gM → gN → Option (Int32 × gM × gN)} (H5 : ∀ (x1 : Int32) (σ : gS) (M : gM) (N : gN) (_ : g_layM σ), g_H E 0 0 5 [(0, vR 40), (1, vI x1)] [] (σ, M, N) (k5 x1 σ M N) (eIMN σ)) (sx0 : Int32) (σ : gS) (M : gM) (N : gN) (hL : g_layM σ) : g_H E 0 0 44 [(0, vR 40)] [vI sx0] (σ, M, N) (b_X12_whole_44 recX12_test k5 sx0 σ M N) (eIMN σ) := by
  unfold b_X12_whole_44
  refine r_run J 2 (pc' := 5) (lv' := [(1, vI sx0), (0, vR 40)]) (st' := []) rfl ?_
  refine r_sub [1, 0] (lv' := [(0, vR 40), (1, vI sx0)]) rfl ?_
  exact H5 sx0 σ M N hL
set_option maxHeartbeats 4000000 in
set_option maxRecDepth 100000 in
theorem p_X12_whole_43 {l : Launch} {E : gE} {d' : Nat}  {recX12_test : gS → gM → gN → Option (Int32 × gM × gN)}(J : J_X12_whole (d' + 1) E l) (hrecX12_test : ∀ (σ : gS) (M : gM) (N : gN) (_ : g_layM σ) r, recX12_test σ M N = some r → g_Ct l yX12_test cX12_test 4 (some .int) (3 + d') 0 0 [vR 40] (σ, M, N) (eIMN σ r)) {k5 : Int32 → gS → gM → gN → Option (Int32 × gM × gN)} (H5 : ∀ (x1 : Int32) (σ : gS) (M : gM) (N : gN) (_ : g_layM σ), g_H E 0 0 5 [(0, vR 40), (1, vI x1)] [] (σ, M, N) (k5 x1 σ M N) (eIMN σ)) (σ : gS) (M : gM) (N : gN) (hL : g_layM σ) : g_H E 0 0 43 [(0, vR 40)] [] (σ, M, N) (b_X12_whole_43 recX12_test k5 σ M N) (eIMN σ) := by
  unfold b_X12_whole_43
  refine r_run J 1 (pc' := 44) (lv' := [(0, vR 40)]) (st' := [vI 0]) rfl ?_
  exact p_X12_whole_44 J hrecX12_test H5 0 σ M N hL
set_option maxHeartbeats 4000000 in
set_option maxRecDepth 100000 in
theorem p_X12_whole_5 {l : Launch} {E : gE} {d' : Nat}  {recX12_test : gS → gM → gN → Option (Int32 × gM × gN)}(J : J_X12_whole (d' + 1) E l) (hrecX12_test : ∀ (σ : gS) (M : gM) (N : gN) (_ : g_layM σ) r, recX12_test σ M N = some r → g_Ct l yX12_test cX12_test 4 (some .int) (3 + d') 0 0 [vR 40] (σ, M, N) (eIMN σ r)) : ∀ (n : Nat) (x1 : Int32) (σ : gS) (M : gM) (N : gN) (hL : g_layM σ), g_H E 0 0 5 [(0, vR 40), (1, vI x1)] [] (σ, M, N) (l_X12_whole_5 recX12_test n x1 σ M N) (eIMN σ) := by
  intro n
  induction n with
  | zero => intros; exact h_none
  | succ n ih =>
    intro x1 σ M N hL
    rw [l_X12_whole_5]
    refine r_run J 1 (pc' := 6) (lv' := [(0, vR 40), (1, vI x1)]) (st' := [vR 40]) rfl ?_
    refine r_getI J cls12 rfl (k := 51) (by decide) wf_12_294 rfl (ly_40 hL) ?_
    show g_H E 0 0 9 [(0, vR 40), (1, vI x1)] [vI (M 40 51)] (σ, M, N) _ _
    refine r_if_ne J (tgt := 48) rfl (by decide) (fun c9 => ?_) (fun c9 => ?_)
    · refine r_run J 1 (pc' := 13) (lv' := [(0, vR 40), (1, vI x1)]) (st' := [vR 40]) rfl ?_
      refine r_ldc2 J rfl wc_12_351 ?_
      refine r_callV J (As := [vL 1111]) (st := []) (fun r hr => c_X12_isWord 1111 σ M N hL r hr) cls12 (ly_40 hL) wm_12_318 wy_X12_isWord wd_X12_isWord ⟨by omega, by decide, by decide, by decide, Nat.le_of_ble_eq_true rfl⟩ rfl rfl (fun q16 hq16 => ?_)
      show g_H E 0 0 19 [(0, vR 40), (1, vI x1)] [vI q16] (σ, M, N) _ _
      refine r_if_eq J (tgt := 48) rfl (by decide) (fun c19 => ?_) (fun c19 => ?_)
      · refine r_run J 1 (pc' := 49) (lv' := [(0, vR 40), (1, vI x1)]) (st' := [vI x1]) rfl ?_
        exact r_iret J rfl rfl rfl rfl (by decide) (by decide)
      · refine r_run J 1 (pc' := 23) (lv' := [(0, vR 40), (1, vI x1)]) (st' := [vR 40]) rfl ?_
        refine r_callV J (As := []) (st := []) (fun r hr => c_X12_next σ M N hL r hr) cls12 (ly_40 hL) wm_12_309 wy_X12_next wd_X12_next ⟨by omega, by decide, by decide, by decide, Nat.le_of_ble_eq_true rfl⟩ rfl rfl (fun q23 hq23 => ?_)
        show g_H E 0 0 26 [(0, vR 40), (1, vI x1)] [] (σ, q23.1, q23.2) _ _
        refine r_run J 1 (pc' := 27) (lv' := [(0, vR 40), (1, vI x1)]) (st' := [vR 40]) rfl ?_
        refine r_callV J (As := []) (st := []) (fun r hr => hrecX12_test σ q23.1 q23.2 hL r hr) cls12 (ly_40 hL) wm_12_348 wy_X12_test wd_X12_test ⟨by omega, by decide, by decide, by decide, Nat.le_of_ble_eq_true rfl⟩ rfl rfl (fun q27 hq27 => ?_)
        show g_H E 0 0 30 [(0, vR 40), (1, vI x1)] [vI q27.1] (σ, q27.2.1, q27.2.2) _ _
        refine r_run J 2 (pc' := 32) (lv' := [(2, vI q27.1), (0, vR 40), (1, vI x1)]) (st' := [vI x1]) rfl ?_
        refine r_if_eq J (tgt := 43) rfl (by decide) (fun c32 => ?_) (fun c32 => ?_)
        · refine r_sub [1] (lv' := [(0, vR 40)]) rfl ?_
          exact p_X12_whole_43 J hrecX12_test ih σ q27.2.1 q27.2.2 hL
        · refine r_run J 1 (pc' := 36) (lv' := [(2, vI q27.1), (0, vR 40), (1, vI x1)]) (st' := [vI q27.1]) rfl ?_
          refine r_if_eq J (tgt := 43) rfl (by decide) (fun c36 => ?_) (fun c36 => ?_)
          · refine r_sub [1] (lv' := [(0, vR 40)]) rfl ?_
            exact p_X12_whole_43 J hrecX12_test ih σ q27.2.1 q27.2.2 hL
          · refine r_run J 2 (pc' := 44) (lv' := [(2, vI q27.1), (0, vR 40), (1, vI x1)]) (st' := [vI 1]) rfl ?_
            refine r_sub [1] (lv' := [(0, vR 40)]) rfl ?_
            exact p_X12_whole_44 J hrecX12_test ih 1 σ q27.2.1 q27.2.2 hL
    · refine r_run J 1 (pc' := 49) (lv' := [(0, vR 40), (1, vI x1)]) (st' := [vI x1]) rfl ?_
      exact r_iret J rfl rfl rfl rfl (by decide) (by decide)
set_option maxHeartbeats 4000000 in
set_option maxRecDepth 100000 in
theorem p_X12_whole_0 {l : Launch} {E : gE} {d' : Nat}  {recX12_test : gS → gM → gN → Option (Int32 × gM × gN)}(J : J_X12_whole (d' + 1) E l) (hrecX12_test : ∀ (σ : gS) (M : gM) (N : gN) (_ : g_layM σ) r, recX12_test σ M N = some r → g_Ct l yX12_test cX12_test 4 (some .int) (3 + d') 0 0 [vR 40] (σ, M, N) (eIMN σ r)) (σ : gS) (M : gM) (N : gN) (hL : g_layM σ) : g_H E 0 0 0 [(0, vR 40)] [] (σ, M, N) (b_X12_whole_0 recX12_test σ M N) (eIMN σ) := by
  unfold b_X12_whole_0
  refine r_run J 1 (pc' := 1) (lv' := [(0, vR 40)]) (st' := [vR 40]) rfl ?_
  refine r_callV J (As := []) (st := []) (fun r hr => hrecX12_test σ M N hL r hr) cls12 (ly_40 hL) wm_12_348 wy_X12_test wd_X12_test ⟨by omega, by decide, by decide, by decide, Nat.le_of_ble_eq_true rfl⟩ rfl rfl (fun q1 hq1 => ?_)
  show g_H E 0 0 4 [(0, vR 40)] [vI q1.1] (σ, q1.2.1, q1.2.2) _ _
  refine r_run J 1 (pc' := 5) (lv' := [(1, vI q1.1), (0, vR 40)]) (st' := []) rfl ?_
  refine r_sub [1, 0] (lv' := [(0, vR 40), (1, vI q1.1)]) rfl ?_
  exact p_X12_whole_5 J hrecX12_test g_FU q1.1 σ q1.2.1 q1.2.2 hL
set_option maxHeartbeats 4000000 in
theorem cg_X12_part {l : Launch} : ∀ d : Nat, (∀ (σ : gS) (M : gM) (N : gN) (_ : g_layM σ) r, f_X12_part d σ M N = some r → g_Ct l yX12_part cX12_part 2 (some .int) (3 + d) 0 0 [vR 40] (σ, M, N) (eIMN σ r)) ∧ (∀ (σ : gS) (M : gM) (N : gN) (_ : g_layM σ) r, f_X12_sum d σ M N = some r → g_Ct l yX12_sum cX12_sum 4 (some .int) (3 + d) 0 0 [vR 40] (σ, M, N) (eIMN σ r)) ∧ (∀ (σ : gS) (M : gM) (N : gN) (_ : g_layM σ) r, f_X12_test d σ M N = some r → g_Ct l yX12_test cX12_test 4 (some .int) (3 + d) 0 0 [vR 40] (σ, M, N) (eIMN σ r)) ∧ (∀ (σ : gS) (M : gM) (N : gN) (_ : g_layM σ) r, f_X12_whole d σ M N = some r → g_Ct l yX12_whole cX12_whole 3 (some .int) (3 + d) 0 0 [vR 40] (σ, M, N) (eIMN σ r)) := by
  intro d
  induction d with
  | zero =>
    exact ⟨(fun _ _ _ _ _ h => by cases h), (fun _ _ _ _ _ h => by cases h), (fun _ _ _ _ _ h => by cases h), (fun _ _ _ _ _ h => by cases h)⟩
  | succ d ih =>
    exact ⟨fun σ M N hL r h => g_Ct.of tb_X12_part (by decide +kernel) tk_X12_part (Nat.le_of_ble_eq_true rfl) (fun E J => p_X12_part_0 J ih.2.2.2 σ M N hL r h),
      fun σ M N hL r h => g_Ct.of tb_X12_sum (by decide +kernel) tk_X12_sum (Nat.le_of_ble_eq_true rfl) (fun E J => p_X12_sum_0 J ih.1 σ M N hL r h),
      fun σ M N hL r h => g_Ct.of tb_X12_test (by decide +kernel) tk_X12_test (Nat.le_of_ble_eq_true rfl) (fun E J => p_X12_test_0 J ih.2.1 σ M N hL r h),
      fun σ M N hL r h => g_Ct.of tb_X12_whole (by decide +kernel) tk_X12_whole (Nat.le_of_ble_eq_true rfl) (fun E J => p_X12_whole_0 J ih.2.2.1 σ M N hL r h)⟩
theorem c_X12_part {l : Launch} (d : Nat) : ∀ (σ : gS) (M : gM) (N : gN) (_ : g_layM σ) r, f_X12_part d σ M N = some r → g_Ct l yX12_part cX12_part 2 (some .int) (3 + d) 0 0 [vR 40] (σ, M, N) (eIMN σ r) := (cg_X12_part d).1
theorem c_X12_sum {l : Launch} (d : Nat) : ∀ (σ : gS) (M : gM) (N : gN) (_ : g_layM σ) r, f_X12_sum d σ M N = some r → g_Ct l yX12_sum cX12_sum 4 (some .int) (3 + d) 0 0 [vR 40] (σ, M, N) (eIMN σ r) := (cg_X12_part d).2.1
theorem c_X12_test {l : Launch} (d : Nat) : ∀ (σ : gS) (M : gM) (N : gN) (_ : g_layM σ) r, f_X12_test d σ M N = some r → g_Ct l yX12_test cX12_test 4 (some .int) (3 + d) 0 0 [vR 40] (σ, M, N) (eIMN σ r) := (cg_X12_part d).2.2.1
theorem c_X12_whole {l : Launch} (d : Nat) : ∀ (σ : gS) (M : gM) (N : gN) (_ : g_layM σ) r, f_X12_whole d σ M N = some r → g_Ct l yX12_whole cX12_whole 3 (some .int) (3 + d) 0 0 [vR 40] (σ, M, N) (eIMN σ r) := (cg_X12_part d).2.2.2
