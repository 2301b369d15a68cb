def tb_X12_goesOn : gT := [(0, .aload_n 0, 1, 0), (1, .iload_n 1, 1, 0), (2, .iload_n 2, 1, 0), (3, .iload 4, 2, 0), (5, .iload 5, 2, 0), (7, .iload 6, 2, 0), (9, .iload 7, 2, 0), (11, .invokevirtual 408, 3, 0), (14, .iconst 1, 1, 1), (15, .istore 8, 2, 0), (17, .iload 8, 2, 0), (19, .aload_n 0, 1, 0), (20, .getfield 405, 3, 0), (23, .if_icmp .gt 226, 3, 0), (26, .aload_n 0, 1, 0), (27, .getfield 139, 3, 0), (30, .bipush 7, 2, 7), (32, .iload_n 2, 1, 0), (33, .imul, 1, 0), (34, .iload 8, 2, 0), (36, .iadd, 1, 0), (37, .iaload, 1, 0), (38, .istore 9, 2, 0), (40, .iload_n 3, 1, 0), (41, .iload 8, 2, 0), (43, .ishr, 1, 0), (44, .iconst 1, 1, 1), (45, .iand, 1, 0), (46, .iconst 1, 1, 1), (47, .if_icmp .eq 196, 3, 0), (50, .iload 9, 2, 0), (52, .ifCond .eq 191, 3, 0), (55, .iload 6, 2, 0), (57, .iload 9, 2, 0), (59, .iadd, 1, 0), (60, .sipush 540, 3, 540), (63, .if_icmp .le 6, 3, 0), (66, .goto 177, 3, 0), (69, .iload 5, 2, 0), (71, .iload 9, 2, 0), (73, .iadd, 1, 0), (74, .sipush 270, 3, 270), (77, .if_icmp .le 7, 3, 0), (80, .iconst 1, 1, 1), (81, .goto 4, 3, 0), (84, .iconst 0, 1, 0), (85, .istore 10, 2, 0), (87, .iload 4, 2, 0), (89, .iload 9, 2, 0), (91, .iadd, 1, 0), (92, .iload 10, 2, 0), (94, .ifCond .eq 8, 3, 0), (97, .bipush 45, 2, 45), (99, .goto 4, 3, 0), (102, .iconst 0, 1, 0), (103, .iadd, 1, 0), (104, .istore 11, 2, 0), (106, .iload 11, 2, 0), (108, .aload_n 0, 1, 0), (109, .getfield 130, 3, 0), (112, .iload 8, 2, 0), (114, .iaload, 1, 0), (115, .if_icmp .ge 13, 3, 0), (118, .aload_n 0, 1, 0), (119, .getfield 130, 3, 0), (122, .iload 8, 2, 0), (124, .iaload, 1, 0), (125, .goto 5, 3, 0), (128, .iload 11, 2, 0), (130, .istore 12, 2, 0), (132, .iload 12, 2, 0), (134, .aload_n 0, 1, 0), (135, .getfield 136, 3, 0), (138, .iload 8, 2, 0), (140, .iaload, 1, 0), (141, .iadd, 1, 0), (142, .istore 13, 2, 0), (144, .iload 13, 2, 0), (146, .aload_n 0, 1, 0), (147, .getfield 133, 3, 0), (150, .iload 8, 2, 0), (152, .iaload, 1, 0), (153, .if_icmp .le 6, 3, 0), (156, .goto 87, 3, 0), (159, .aload_n 0, 1, 0), (160, .getfield 142, 3, 0), (163, .iload_n 1, 1, 0), (164, .iload 8, 2, 0), (166, .iastore, 1, 0), (167, .aload_n 0, 1, 0), (168, .getfield 145, 3, 0), (171, .iload_n 1, 1, 0), (172, .iload 12, 2, 0), (174, .iastore, 1, 0), (175, .iload 10, 2, 0), (177, .ifCond .eq 8, 3, 0), (180, .iload 9, 2, 0), (182, .goto 8, 3, 0), (185, .iload 5, 2, 0), (187, .iload 9, 2, 0), (189, .iadd, 1, 0), (190, .istore 14, 2, 0), (192, .aload_n 0, 1, 0), (193, .iload_n 1, 1, 0), (194, .iconst 1, 1, 1), (195, .iadd, 1, 0), (196, .iload 8, 2, 0), (198, .iload_n 3, 1, 0), (199, .iconst 1, 1, 1), (200, .iload 8, 2, 0), (202, .ishl, 1, 0), (203, .ior, 1, 0), (204, .iload 13, 2, 0), (206, .iload 13, 2, 0), (208, .iload 11, 2, 0), (210, .isub, 1, 0), (211, .bipush 45, 2, 45), (213, .if_icmp .lt 7, 3, 0), (216, .iconst 0, 1, 0), (217, .goto 5, 3, 0), (220, .iload 14, 2, 0), (222, .iload 6, 2, 0), (224, .iload 9, 2, 0), (226, .iadd, 1, 0), (227, .iload 7, 2, 0), (229, .iload 10, 2, 0), (231, .ifCond .eq 7, 3, 0), (234, .iconst 1, 1, 1), (235, .goto 4, 3, 0), (238, .iconst 0, 1, 0), (239, .iadd, 1, 0), (240, .invokevirtual 412, 3, 0), (243, .iinc 8 1, 3, 1), (246, .goto (-229), 3, 0), (249, .return_, 1, 0)]
set_option maxRecDepth 100000 in
theorem tk_X12_goesOn : g_okT cX12_goesOn tb_X12_goesOn = true := by decide +kernel
abbrev J_X12_goesOn (d : Nat) (E : gE) (l : Launch) : Prop := g_J E cX12_goesOn RX12 "goesOn" none 15 tb_X12_goesOn (2 + d) 0 0 l
set_option maxHeartbeats 4000000 in
set_option maxRecDepth 100000 in
theorem p_X12_goesOn_243 {l : Launch} {E : gE} {d' : Nat}  {recX12_goesOn : Int32 → Int32 → Int32 → Int32 → Int32 → Int32 → Int32 → gS → gM → Option (gM)}(J : J_X12_goesOn (d' + 1) E l) (hrecX12_goesOn : ∀ (x1 : Int32) (x2 : Int32) (x3 : Int32) (x4 : Int32) (x5 : Int32) (x6 : Int32) (x7 : Int32) (σ : gS) (M : gM) (N : gN) (_ : g_layM σ) r, recX12_goesOn x1 x2 x3 x4 x5 x6 x7 σ M = some r → g_Ct l yX12_goesOn cX12_goesOn 15 none (2 + d') 0 0 [vR 40, vI x1, vI x2, vI x3, vI x4, vI x5, vI x6, vI x7] (σ, M, N) (eVM σ N r)) {k17 : Int32 → Int32 → Int32 → Int32 → Int32 → Int32 → Int32 → Int32 → gS → gM → Option (gM)} (H17 : ∀ (x1 : Int32) (x2 : Int32) (x3 : Int32) (x4 : Int32) (x5 : Int32) (x6 : Int32) (x7 : Int32) (x8 : Int32) (σ : gS) (M : gM) (N : gN) (_ : g_layM σ), g_H E 0 0 17 [(0, vR 40), (1, vI x1), (2, vI x2), (3, vI x3), (4, vI x4), (5, vI x5), (6, vI x6), (7, vI x7), (8, vI x8)] [] (σ, M, N) (k17 x1 x2 x3 x4 x5 x6 x7 x8 σ M) (eVM σ N)) (x1 : Int32) (x2 : Int32) (x3 : Int32) (x4 : Int32) (x5 : Int32) (x6 : Int32) (x7 : Int32) (x8 : Int32) (σ : gS) (M : gM) (N : gN) (hL : g_layM σ) : g_H E 0 0 243 [(0, vR 40), (1, vI x1), (2, vI x2), (3, vI x3), (4, vI x4), (5, vI x5), (6, vI x6), (7, vI x7), (8, vI x8)] [] (σ, M, N) (b_X12_goesOn_243 recX12_goesOn k17 x1 x2 x3 x4 x5 x6 x7 x8 σ M) (eVM σ N) := by
  unfold b_X12_goesOn_243
  refine r_run J 2 (pc' := 17) (lv' := [(8, vI (x8 + 1)), (0, vR 40), (1, vI x1), (2, vI x2), (3, vI x3), (4, vI x4), (5, vI x5), (6, vI x6), (7, vI x7)]) (st' := []) rfl ?_
  refine r_sub [1, 2, 3, 4, 5, 6, 7, 8, 0] (lv' := [(0, vR 40), (1, vI x1), (2, vI x2), (3, vI x3), (4, vI x4), (5, vI x5), (6, vI x6), (7, vI x7), (8, vI (x8 + 1))]) rfl ?_
  exact H17 x1 x2 x3 x4 x5 x6 x7 (x8 + 1) σ M N hL
set_option maxHeartbeats 4000000 in
set_option maxRecDepth 100000 in
theorem p_X12_goesOn_239 {l : Launch} {E : gE} {d' : Nat}  {recX12_goesOn : Int32 → Int32 → Int32 → Int32 → Int32 → Int32 → Int32 → gS → gM → Option (gM)}(J : J_X12_goesOn (d' + 1) E l) (hrecX12_goesOn : ∀ (x1 : Int32) (x2 : Int32) (x3 : Int32) (x4 : Int32) (x5 : Int32) (x6 : Int32) (x7 : Int32) (σ : gS) (M : gM) (N : gN) (_ : g_layM σ) r, recX12_goesOn x1 x2 x3 x4 x5 x6 x7 σ M = some r → g_Ct l yX12_goesOn cX12_goesOn 15 none (2 + d') 0 0 [vR 40, vI x1, vI x2, vI x3, vI x4, vI x5, vI x6, vI x7] (σ, M, N) (eVM σ N r)) {k17 : Int32 → Int32 → Int32 → Int32 → Int32 → Int32 → Int32 → Int32 → gS → gM → Option (gM)} (H17 : ∀ (x1 : Int32) (x2 : Int32) (x3 : Int32) (x4 : Int32) (x5 : Int32) (x6 : Int32) (x7 : Int32) (x8 : Int32) (σ : gS) (M : gM) (N : gN) (_ : g_layM σ), g_H E 0 0 17 [(0, vR 40), (1, vI x1), (2, vI x2), (3, vI x3), (4, vI x4), (5, vI x5), (6, vI x6), (7, vI x7), (8, vI x8)] [] (σ, M, N) (k17 x1 x2 x3 x4 x5 x6 x7 x8 σ M) (eVM σ N)) (x1 : Int32) (x2 : Int32) (x3 : Int32) (x4 : Int32) (x5 : Int32) (x6 : Int32) (x7 : Int32) (x8 : Int32) (sx0 : Int32) (sx1 : Int32) (sx2 : Int32) (sx3 : Int32) (sx4 : Int32) (sx5 : Int32) (sx6 : Int32) (sx7 : Int32) (σ : gS) (M : gM) (N : gN) (hL : g_layM σ) : g_H E 0 0 239 [(0, vR 40), (1, vI x1), (2, vI x2), (3, vI x3), (4, vI x4), (5, vI x5), (6, vI x6), (7, vI x7), (8, vI x8)] [vI sx0, vI sx1, vI sx2, vI sx3, vI sx4, vI sx5, vI sx6, vI sx7, vR 40] (σ, M, N) (b_X12_goesOn_239 recX12_goesOn k17 x1 x2 x3 x4 x5 x6 x7 x8 sx0 sx1 sx2 sx3 sx4 sx5 sx6 sx7 σ M) (eVM σ N) := by
  unfold b_X12_goesOn_239
  refine r_run J 1 (pc' := 240) (lv' := [(0, vR 40), (1, vI x1), (2, vI x2), (3, vI x3), (4, vI x4), (5, vI x5), (6, vI x6), (7, vI x7), (8, vI x8)]) (st' := [vI (sx1 + sx0), vI sx2, vI sx3, vI sx4, vI sx5, vI sx6, vI sx7, vR 40]) rfl ?_
  refine r_callV J (As := [vI sx7, vI sx6, vI sx5, vI sx4, vI sx3, vI sx2, vI (sx1 + sx0)]) (st := []) (fun r hr => hrecX12_goesOn sx7 sx6 sx5 sx4 sx3 sx2 (sx1 + sx0) σ M N hL r hr) cls12 (ly_40 hL) wm_12_412 wy_X12_goesOn wd_X12_goesOn ⟨by omega, by decide, by decide, by decide, Nat.le_of_ble_eq_true rfl⟩ rfl rfl (fun q240 hq240 => ?_)
  show g_H E 0 0 243 [(0, vR 40), (1, vI x1), (2, vI x2), (3, vI x3), (4, vI x4), (5, vI x5), (6, vI x6), (7, vI x7), (8, vI x8)] [] (σ, q240, N) _ _
  exact p_X12_goesOn_243 J hrecX12_goesOn H17 x1 x2 x3 x4 x5 x6 x7 x8 σ q240 N hL
set_option maxHeartbeats 4000000 in
set_option maxRecDepth 100000 in
theorem p_X12_goesOn_222 {l : Launch} {E : gE} {d' : Nat}  {recX12_goesOn : Int32 → Int32 → Int32 → Int32 → Int32 → Int32 → Int32 → gS → gM → Option (gM)}(J : J_X12_goesOn (d' + 1) E l) (hrecX12_goesOn : ∀ (x1 : Int32) (x2 : Int32) (x3 : Int32) (x4 : Int32) (x5 : Int32) (x6 : Int32) (x7 : Int32) (σ : gS) (M : gM) (N : gN) (_ : g_layM σ) r, recX12_goesOn x1 x2 x3 x4 x5 x6 x7 σ M = some r → g_Ct l yX12_goesOn cX12_goesOn 15 none (2 + d') 0 0 [vR 40, vI x1, vI x2, vI x3, vI x4, vI x5, vI x6, vI x7] (σ, M, N) (eVM σ N r)) {k17 : Int32 → Int32 → Int32 → Int32 → Int32 → Int32 → Int32 → Int32 → gS → gM → Option (gM)} (H17 : ∀ (x1 : Int32) (x2 : Int32) (x3 : Int32) (x4 : Int32) (x5 : Int32) (x6 : Int32) (x7 : Int32) (x8 : Int32) (σ : gS) (M : gM) (N : gN) (_ : g_layM σ), g_H E 0 0 17 [(0, vR 40), (1, vI x1), (2, vI x2), (3, vI x3), (4, vI x4), (5, vI x5), (6, vI x6), (7, vI x7), (8, vI x8)] [] (σ, M, N) (k17 x1 x2 x3 x4 x5 x6 x7 x8 σ M) (eVM σ N)) (x1 : Int32) (x2 : Int32) (x3 : Int32) (x4 : Int32) (x5 : Int32) (x6 : Int32) (x7 : Int32) (x8 : Int32) (x9 : Int32) (x10 : Int32) (sx0 : Int32) (sx1 : Int32) (sx2 : Int32) (sx3 : Int32) (sx4 : Int32) (σ : gS) (M : gM) (N : gN) (hL : g_layM σ) : g_H E 0 0 222 [(0, vR 40), (1, vI x1), (2, vI x2), (3, vI x3), (4, vI x4), (5, vI x5), (6, vI x6), (7, vI x7), (8, vI x8), (9, vI x9), (10, vI x10)] [vI sx0, vI sx1, vI sx2, vI sx3, vI sx4, vR 40] (σ, M, N) (b_X12_goesOn_222 recX12_goesOn k17 x1 x2 x3 x4 x5 x6 x7 x8 x9 x10 sx0 sx1 sx2 sx3 sx4 σ M) (eVM σ N) := by
  unfold b_X12_goesOn_222
  refine r_run J 5 (pc' := 231) (lv' := [(0, vR 40), (1, vI x1), (2, vI x2), (3, vI x3), (4, vI x4), (5, vI x5), (6, vI x6), (7, vI x7), (8, vI x8), (9, vI x9), (10, vI x10)]) (st' := [vI x10, vI x7, vI (x6 + x9), vI sx0, vI sx1, vI sx2, vI sx3, vI sx4, vR 40]) rfl ?_
  refine r_if_eq J (tgt := 238) rfl (by decide) (fun c231 => ?_) (fun c231 => ?_)
  · refine r_run J 1 (pc' := 239) (lv' := [(0, vR 40), (1, vI x1), (2, vI x2), (3, vI x3), (4, vI x4), (5, vI x5), (6, vI x6), (7, vI x7), (8, vI x8), (9, vI x9), (10, vI x10)]) (st' := [vI 0, vI x7, vI (x6 + x9), vI sx0, vI sx1, vI sx2, vI sx3, vI sx4, vR 40]) rfl ?_
    refine r_sub [0, 1, 2, 3, 4, 5, 6, 7, 8] (lv' := [(0, vR 40), (1, vI x1), (2, vI x2), (3, vI x3), (4, vI x4), (5, vI x5), (6, vI x6), (7, vI x7), (8, vI x8)]) rfl ?_
    exact p_X12_goesOn_239 J hrecX12_goesOn H17 x1 x2 x3 x4 x5 x6 x7 x8 0 x7 (x6 + x9) sx0 sx1 sx2 sx3 sx4 σ M N hL
  · refine r_run J 2 (pc' := 239) (lv' := [(0, vR 40), (1, vI x1), (2, vI x2), (3, vI x3), (4, vI x4), (5, vI x5), (6, vI x6), (7, vI x7), (8, vI x8), (9, vI x9), (10, vI x10)]) (st' := [vI 1, vI x7, vI (x6 + x9), vI sx0, vI sx1, vI sx2, vI sx3, vI sx4, vR 40]) rfl ?_
    refine r_sub [0, 1, 2, 3, 4, 5, 6, 7, 8] (lv' := [(0, vR 40), (1, vI x1), (2, vI x2), (3, vI x3), (4, vI x4), (5, vI x5), (6, vI x6), (7, vI x7), (8, vI x8)]) rfl ?_
    exact p_X12_goesOn_239 J hrecX12_goesOn H17 x1 x2 x3 x4 x5 x6 x7 x8 1 x7 (x6 + x9) sx0 sx1 sx2 sx3 sx4 σ M N hL
set_option maxHeartbeats 4000000 in
set_option maxRecDepth 100000 in
theorem p_X12_goesOn_190 {l : Launch} {E : gE} {d' : Nat}  {recX12_goesOn : Int32 → Int32 → Int32 → Int32 → Int32 → Int32 → Int32 → gS → gM → Option (gM)}(J : J_X12_goesOn (d' + 1) E l) (hrecX12_goesOn : ∀ (x1 : Int32) (x2 : Int32) (x3 : Int32) (x4 : Int32) (x5 : Int32) (x6 : Int32) (x7 : Int32) (σ : gS) (M : gM) (N : gN) (_ : g_layM σ) r, recX12_goesOn x1 x2 x3 x4 x5 x6 x7 σ M = some r → g_Ct l yX12_goesOn cX12_goesOn 15 none (2 + d') 0 0 [vR 40, vI x1, vI x2, vI x3, vI x4, vI x5, vI x6, vI x7] (σ, M, N) (eVM σ N r)) {k17 : Int32 → Int32 → Int32 → Int32 → Int32 → Int32 → Int32 → Int32 → gS → gM → Option (gM)} (H17 : ∀ (x1 : Int32) (x2 : Int32) (x3 : Int32) (x4 : Int32) (x5 : Int32) (x6 : Int32) (x7 : Int32) (x8 : Int32) (σ : gS) (M : gM) (N : gN) (_ : g_layM σ), g_H E 0 0 17 [(0, vR 40), (1, vI x1), (2, vI x2), (3, vI x3), (4, vI x4), (5, vI x5), (6, vI x6), (7, vI x7), (8, vI x8)] [] (σ, M, N) (k17 x1 x2 x3 x4 x5 x6 x7 x8 σ M) (eVM σ N)) (x1 : Int32) (x2 : Int32) (x3 : Int32) (x4 : Int32) (x5 : Int32) (x6 : Int32) (x7 : Int32) (x8 : Int32) (x9 : Int32) (x10 : Int32) (x11 : Int32) (x13 : Int32) (sx0 : Int32) (σ : gS) (M : gM) (N : gN) (hL : g_layM σ) : g_H E 0 0 190 [(0, vR 40), (1, vI x1), (2, vI x2), (3, vI x3), (4, vI x4), (5, vI x5), (6, vI x6), (7, vI x7), (8, vI x8), (9, vI x9), (10, vI x10), (11, vI x11), (13, vI x13)] [vI sx0] (σ, M, N) (b_X12_goesOn_190 recX12_goesOn k17 x1 x2 x3 x4 x5 x6 x7 x8 x9 x10 x11 x13 sx0 σ M) (eVM σ N) := by
  unfold b_X12_goesOn_190
  refine r_run J 16 (pc' := 213) (lv' := [(14, vI sx0), (0, vR 40), (1, vI x1), (2, vI x2), (3, vI x3), (4, vI x4), (5, vI x5), (6, vI x6), (7, vI x7), (8, vI x8), (9, vI x9), (10, vI x10), (11, vI x11), (13, vI x13)]) (st' := [vI 45, vI (x13 - x11), vI x13, vI (x3 ||| ((1 : Int32) <<< (x8 &&& 31))), vI x8, vI (x1 + (1 : Int32)), vR 40]) rfl ?_
  refine r_icmp_lt J (tgt := 220) rfl (by decide) (fun c213 => ?_) (fun c213 => ?_)
  · refine r_run J 1 (pc' := 222) (lv' := [(14, vI sx0), (0, vR 40), (1, vI x1), (2, vI x2), (3, vI x3), (4, vI x4), (5, vI x5), (6, vI x6), (7, vI x7), (8, vI x8), (9, vI x9), (10, vI x10), (11, vI x11), (13, vI x13)]) (st' := [vI sx0, vI x13, vI (x3 ||| ((1 : Int32) <<< (x8 &&& 31))), vI x8, vI (x1 + (1 : Int32)), vR 40]) rfl ?_
    refine r_sub [1, 2, 3, 4, 5, 6, 7, 8, 9, 10, 11] (lv' := [(0, vR 40), (1, vI x1), (2, vI x2), (3, vI x3), (4, vI x4), (5, vI x5), (6, vI x6), (7, vI x7), (8, vI x8), (9, vI x9), (10, vI x10)]) rfl ?_
    exact p_X12_goesOn_222 J hrecX12_goesOn H17 x1 x2 x3 x4 x5 x6 x7 x8 x9 x10 sx0 x13 (x3 ||| ((1 : Int32) <<< (x8 &&& 31))) x8 (x1 + (1 : Int32)) σ M N hL
  · refine r_run J 2 (pc' := 222) (lv' := [(14, vI sx0), (0, vR 40), (1, vI x1), (2, vI x2), (3, vI x3), (4, vI x4), (5, vI x5), (6, vI x6), (7, vI x7), (8, vI x8), (9, vI x9), (10, vI x10), (11, vI x11), (13, vI x13)]) (st' := [vI 0, vI x13, vI (x3 ||| ((1 : Int32) <<< (x8 &&& 31))), vI x8, vI (x1 + (1 : Int32)), vR 40]) rfl ?_
    refine r_sub [1, 2, 3, 4, 5, 6, 7, 8, 9, 10, 11] (lv' := [(0, vR 40), (1, vI x1), (2, vI x2), (3, vI x3), (4, vI x4), (5, vI x5), (6, vI x6), (7, vI x7), (8, vI x8), (9, vI x9), (10, vI x10)]) rfl ?_
    exact p_X12_goesOn_222 J hrecX12_goesOn H17 x1 x2 x3 x4 x5 x6 x7 x8 x9 x10 0 x13 (x3 ||| ((1 : Int32) <<< (x8 &&& 31))) x8 (x1 + (1 : Int32)) σ M N hL
set_option maxHeartbeats 4000000 in
set_option maxRecDepth 100000 in
theorem p_X12_goesOn_130 {l : Launch} {E : gE} {d' : Nat}  {recX12_goesOn : Int32 → Int32 → Int32 → Int32 → Int32 → Int32 → Int32 → gS → gM → Option (gM)}(J : J_X12_goesOn (d' + 1) E l) (hrecX12_goesOn : ∀ (x1 : Int32) (x2 : Int32) (x3 : Int32) (x4 : Int32) (x5 : Int32) (x6 : Int32) (x7 : Int32) (σ : gS) (M : gM) (N : gN) (_ : g_layM σ) r, recX12_goesOn x1 x2 x3 x4 x5 x6 x7 σ M = some r → g_Ct l yX12_goesOn cX12_goesOn 15 none (2 + d') 0 0 [vR 40, vI x1, vI x2, vI x3, vI x4, vI x5, vI x6, vI x7] (σ, M, N) (eVM σ N r)) {k17 : Int32 → Int32 → Int32 → Int32 → Int32 → Int32 → Int32 → Int32 → gS → gM → Option (gM)} (H17 : ∀ (x1 : Int32) (x2 : Int32) (x3 : Int32) (x4 : Int32) (x5 : Int32) (x6 : Int32) (x7 : Int32) (x8 : Int32) (σ : gS) (M : gM) (N : gN) (_ : g_layM σ), g_H E 0 0 17 [(0, vR 40), (1, vI x1), (2, vI x2), (3, vI x3), (4, vI x4), (5, vI x5), (6, vI x6), (7, vI x7), (8, vI x8)] [] (σ, M, N) (k17 x1 x2 x3 x4 x5 x6 x7 x8 σ M) (eVM σ N)) (x1 : Int32) (x2 : Int32) (x3 : Int32) (x4 : Int32) (x5 : Int32) (x6 : Int32) (x7 : Int32) (x8 : Int32) (x9 : Int32) (x10 : Int32) (x11 : Int32) (sx0 : Int32) (σ : gS) (M : gM) (N : gN) (hL : g_layM σ) : g_H E 0 0 130 [(0, vR 40), (1, vI x1), (2, vI x2), (3, vI x3), (4, vI x4), (5, vI x5), (6, vI x6), (7, vI x7), (8, vI x8), (9, vI x9), (10, vI x10), (11, vI x11)] [vI sx0] (σ, M, N) (b_X12_goesOn_130 recX12_goesOn k17 x1 x2 x3 x4 x5 x6 x7 x8 x9 x10 x11 sx0 σ M) (eVM σ N) := by
  unfold b_X12_goesOn_130
  refine r_run J 3 (pc' := 135) (lv' := [(12, vI sx0), (0, vR 40), (1, vI x1), (2, vI x2), (3, vI x3), (4, vI x4), (5, vI x5), (6, vI x6), (7, vI x7), (8, vI x8), (9, vI x9), (10, vI x10), (11, vI x11)]) (st' := [vR 40, vI sx0]) rfl ?_
  refine r_getR J cls12 rfl (k := 66) (t := 14) (by decide) wf_12_136 rfl rfl (ly_40 hL) (lr_40_66 hL) (fun _ => ?_)
  show g_H E 0 0 138 [(12, vI sx0), (0, vR 40), (1, vI x1), (2, vI x2), (3, vI x3), (4, vI x4), (5, vI x5), (6, vI x6), (7, vI x7), (8, vI x8), (9, vI x9), (10, vI x10), (11, vI x11)] [vR 79, vI sx0] (σ, M, N) _ _
  refine r_run J 1 (pc' := 140) (lv' := [(12, vI sx0), (0, vR 40), (1, vI x1), (2, vI x2), (3, vI x3), (4, vI x4), (5, vI x5), (6, vI x6), (7, vI x7), (8, vI x8), (9, vI x9), (10, vI x10), (11, vI x11)]) (st' := [vI x8, vR 79, vI sx0]) rfl ?_
  refine r_iald J rfl (ly_79 hL) (fun i140 => ?_)
  show g_H E 0 0 141 [(12, vI sx0), (0, vR 40), (1, vI x1), (2, vI x2), (3, vI x3), (4, vI x4), (5, vI x5), (6, vI x6), (7, vI x7), (8, vI x8), (9, vI x9), (10, vI x10), (11, vI x11)] [vI (M 79 x8.toNatClampNeg), vI sx0] (σ, M, N) _ _
  refine r_run J 4 (pc' := 147) (lv' := [(13, vI (sx0 + (M 79 x8.toNatClampNeg))), (12, vI sx0), (0, vR 40), (1, vI x1), (2, vI x2), (3, vI x3), (4, vI x4), (5, vI x5), (6, vI x6), (7, vI x7), (8, vI x8), (9, vI x9), (10, vI x10), (11, vI x11)]) (st' := [vR 40, vI (sx0 + (M 79 x8.toNatClampNeg))]) rfl ?_
  refine r_getR J cls12 rfl (k := 65) (t := 14) (by decide) wf_12_133 rfl rfl (ly_40 hL) (lr_40_65 hL) (fun _ => ?_)
  show g_H E 0 0 150 [(13, vI (sx0 + (M 79 x8.toNatClampNeg))), (12, vI sx0), (0, vR 40), (1, vI x1), (2, vI x2), (3, vI x3), (4, vI x4), (5, vI x5), (6, vI x6), (7, vI x7), (8, vI x8), (9, vI x9), (10, vI x10), (11, vI x11)] [vR 78, vI (sx0 + (M 79 x8.toNatClampNeg))] (σ, M, N) _ _
  refine r_run J 1 (pc' := 152) (lv' := [(13, vI (sx0 + (M 79 x8.toNatClampNeg))), (12, vI sx0), (0, vR 40), (1, vI x1), (2, vI x2), (3, vI x3), (4, vI x4), (5, vI x5), (6, vI x6), (7, vI x7), (8, vI x8), (9, vI x9), (10, vI x10), (11, vI x11)]) (st' := [vI x8, vR 78, vI (sx0 + (M 79 x8.toNatClampNeg))]) rfl ?_
  refine r_iald J rfl (ly_78 hL) (fun i152 => ?_)
  show g_H E 0 0 153 [(13, vI (sx0 + (M 79 x8.toNatClampNeg))), (12, vI sx0), (0, vR 40), (1, vI x1), (2, vI x2), (3, vI x3), (4, vI x4), (5, vI x5), (6, vI x6), (7, vI x7), (8, vI x8), (9, vI x9), (10, vI x10), (11, vI x11)] [vI (M 78 x8.toNatClampNeg), vI (sx0 + (M 79 x8.toNatClampNeg))] (σ, M, N) _ _
  refine r_icmp_le J (tgt := 159) rfl (by decide) (fun c153 => ?_) (fun c153 => ?_)
  · refine r_run J 1 (pc' := 243) (lv' := [(13, vI (sx0 + (M 79 x8.toNatClampNeg))), (12, vI sx0), (0, vR 40), (1, vI x1), (2, vI x2), (3, vI x3), (4, vI x4), (5, vI x5), (6, vI x6), (7, vI x7), (8, vI x8), (9, vI x9), (10, vI x10), (11, vI x11)]) (st' := []) rfl ?_
    refine r_sub [2, 3, 4, 5, 6, 7, 8, 9, 10] (lv' := [(0, vR 40), (1, vI x1), (2, vI x2), (3, vI x3), (4, vI x4), (5, vI x5), (6, vI x6), (7, vI x7), (8, vI x8)]) rfl ?_
    exact p_X12_goesOn_243 J hrecX12_goesOn H17 x1 x2 x3 x4 x5 x6 x7 x8 σ M N hL
  · refine r_run J 1 (pc' := 160) (lv' := [(13, vI (sx0 + (M 79 x8.toNatClampNeg))), (12, vI sx0), (0, vR 40), (1, vI x1), (2, vI x2), (3, vI x3), (4, vI x4), (5, vI x5), (6, vI x6), (7, vI x7), (8, vI x8), (9, vI x9), (10, vI x10), (11, vI x11)]) (st' := [vR 40]) rfl ?_
    refine r_getR J cls12 rfl (k := 68) (t := 14) (by decide) wf_12_142 rfl rfl (ly_40 hL) (lr_40_68 hL) (fun _ => ?_)
    show g_H E 0 0 163 [(13, vI (sx0 + (M 79 x8.toNatClampNeg))), (12, vI sx0), (0, vR 40), (1, vI x1), (2, vI x2), (3, vI x3), (4, vI x4), (5, vI x5), (6, vI x6), (7, vI x7), (8, vI x8), (9, vI x9), (10, vI x10), (11, vI x11)] [vR 81] (σ, M, N) _ _
    refine r_run J 2 (pc' := 166) (lv' := [(13, vI (sx0 + (M 79 x8.toNatClampNeg))), (12, vI sx0), (0, vR 40), (1, vI x1), (2, vI x2), (3, vI x3), (4, vI x4), (5, vI x5), (6, vI x6), (7, vI x7), (8, vI x8), (9, vI x9), (10, vI x10), (11, vI x11)]) (st' := [vI x8, vI x1, vR 81]) rfl ?_
    refine r_iast J rfl (ly_81 hL) (fun i166 => ?_)
    show g_H E 0 0 167 [(13, vI (sx0 + (M 79 x8.toNatClampNeg))), (12, vI sx0), (0, vR 40), (1, vI x1), (2, vI x2), (3, vI x3), (4, vI x4), (5, vI x5), (6, vI x6), (7, vI x7), (8, vI x8), (9, vI x9), (10, vI x10), (11, vI x11)] [] (σ, (g_up M 81 (x1.toNatClampNeg) x8), N) _ _
    refine r_run J 1 (pc' := 168) (lv' := [(13, vI (sx0 + (M 79 x8.toNatClampNeg))), (12, vI sx0), (0, vR 40), (1, vI x1), (2, vI x2), (3, vI x3), (4, vI x4), (5, vI x5), (6, vI x6), (7, vI x7), (8, vI x8), (9, vI x9), (10, vI x10), (11, vI x11)]) (st' := [vR 40]) rfl ?_
    refine r_getR J cls12 rfl (k := 69) (t := 14) (by decide) wf_12_145 rfl rfl (ly_40 hL) (lr_40_69 hL) (fun _ => ?_)
    show g_H E 0 0 171 [(13, vI (sx0 + (M 79 x8.toNatClampNeg))), (12, vI sx0), (0, vR 40), (1, vI x1), (2, vI x2), (3, vI x3), (4, vI x4), (5, vI x5), (6, vI x6), (7, vI x7), (8, vI x8), (9, vI x9), (10, vI x10), (11, vI x11)] [vR 82] (σ, (g_up M 81 (x1.toNatClampNeg) x8), N) _ _
    refine r_run J 2 (pc' := 174) (lv' := [(13, vI (sx0 + (M 79 x8.toNatClampNeg))), (12, vI sx0), (0, vR 40), (1, vI x1), (2, vI x2), (3, vI x3), (4, vI x4), (5, vI x5), (6, vI x6), (7, vI x7), (8, vI x8), (9, vI x9), (10, vI x10), (11, vI x11)]) (st' := [vI sx0, vI x1, vR 82]) rfl ?_
    refine r_iast J rfl (ly_82 hL) (fun i174 => ?_)
    show g_H E 0 0 175 [(13, vI (sx0 + (M 79 x8.toNatClampNeg))), (12, vI sx0), (0, vR 40), (1, vI x1), (2, vI x2), (3, vI x3), (4, vI x4), (5, vI x5), (6, vI x6), (7, vI x7), (8, vI x8), (9, vI x9), (10, vI x10), (11, vI x11)] [] (σ, (g_up (g_up M 81 (x1.toNatClampNeg) x8) 82 (x1.toNatClampNeg) sx0), N) _ _
    refine r_run J 1 (pc' := 177) (lv' := [(13, vI (sx0 + (M 79 x8.toNatClampNeg))), (12, vI sx0), (0, vR 40), (1, vI x1), (2, vI x2), (3, vI x3), (4, vI x4), (5, vI x5), (6, vI x6), (7, vI x7), (8, vI x8), (9, vI x9), (10, vI x10), (11, vI x11)]) (st' := [vI x10]) rfl ?_
    refine r_if_eq J (tgt := 185) rfl (by decide) (fun c177 => ?_) (fun c177 => ?_)
    · refine r_run J 3 (pc' := 190) (lv' := [(13, vI (sx0 + (M 79 x8.toNatClampNeg))), (12, vI sx0), (0, vR 40), (1, vI x1), (2, vI x2), (3, vI x3), (4, vI x4), (5, vI x5), (6, vI x6), (7, vI x7), (8, vI x8), (9, vI x9), (10, vI x10), (11, vI x11)]) (st' := [vI (x5 + x9)]) rfl ?_
      refine r_sub [2, 3, 4, 5, 6, 7, 8, 9, 10, 11, 12, 13, 0] (lv' := [(0, vR 40), (1, vI x1), (2, vI x2), (3, vI x3), (4, vI x4), (5, vI x5), (6, vI x6), (7, vI x7), (8, vI x8), (9, vI x9), (10, vI x10), (11, vI x11), (13, vI (sx0 + (M 79 x8.toNatClampNeg)))]) rfl ?_
      exact p_X12_goesOn_190 J hrecX12_goesOn H17 x1 x2 x3 x4 x5 x6 x7 x8 x9 x10 x11 (sx0 + (M 79 x8.toNatClampNeg)) (x5 + x9) σ (g_up (g_up M 81 (x1.toNatClampNeg) x8) 82 (x1.toNatClampNeg) sx0) N hL
    · refine r_run J 2 (pc' := 190) (lv' := [(13, vI (sx0 + (M 79 x8.toNatClampNeg))), (12, vI sx0), (0, vR 40), (1, vI x1), (2, vI x2), (3, vI x3), (4, vI x4), (5, vI x5), (6, vI x6), (7, vI x7), (8, vI x8), (9, vI x9), (10, vI x10), (11, vI x11)]) (st' := [vI x9]) rfl ?_
      refine r_sub [2, 3, 4, 5, 6, 7, 8, 9, 10, 11, 12, 13, 0] (lv' := [(0, vR 40), (1, vI x1), (2, vI x2), (3, vI x3), (4, vI x4), (5, vI x5), (6, vI x6), (7, vI x7), (8, vI x8), (9, vI x9), (10, vI x10), (11, vI x11), (13, vI (sx0 + (M 79 x8.toNatClampNeg)))]) rfl ?_
      exact p_X12_goesOn_190 J hrecX12_goesOn H17 x1 x2 x3 x4 x5 x6 x7 x8 x9 x10 x11 (sx0 + (M 79 x8.toNatClampNeg)) x9 σ (g_up (g_up M 81 (x1.toNatClampNeg) x8) 82 (x1.toNatClampNeg) sx0) N hL
set_option maxHeartbeats 4000000 in
set_option maxRecDepth 100000 in
theorem p_X12_goesOn_103 {l : Launch} {E : gE} {d' : Nat}  {recX12_goesOn : Int32 → Int32 → Int32 → Int32 → Int32 → Int32 → Int32 → gS → gM → Option (gM)}(J : J_X12_goesOn (d' + 1) E l) (hrecX12_goesOn : ∀ (x1 : Int32) (x2 : Int32) (x3 : Int32) (x4 : Int32) (x5 : Int32) (x6 : Int32) (x7 : Int32) (σ : gS) (M : gM) (N : gN) (_ : g_layM σ) r, recX12_goesOn x1 x2 x3 x4 x5 x6 x7 σ M = some r → g_Ct l yX12_goesOn cX12_goesOn 15 none (2 + d') 0 0 [vR 40, vI x1, vI x2, vI x3, vI x4, vI x5, vI x6, vI x7] (σ, M, N) (eVM σ N r)) {k17 : Int32 → Int32 → Int32 → Int32 → Int32 → Int32 → Int32 → Int32 → gS → gM → Option (gM)} (H17 : ∀ (x1 : Int32) (x2 : Int32) (x3 : Int32) (x4 : Int32) (x5 : Int32) (x6 : Int32) (x7 : Int32) (x8 : Int32) (σ : gS) (M : gM) (N : gN) (_ : g_layM σ), g_H E 0 0 17 [(0, vR 40), (1, vI x1), (2, vI x2), (3, vI x3), (4, vI x4), (5, vI x5), (6, vI x6), (7, vI x7), (8, vI x8)] [] (σ, M, N) (k17 x1 x2 x3 x4 x5 x6 x7 x8 σ M) (eVM σ N)) (x1 : Int32) (x2 : Int32) (x3 : Int32) (x4 : Int32) (x5 : Int32) (x6 : Int32) (x7 : Int32) (x8 : Int32) (x9 : Int32) (x10 : Int32) (sx0 : Int32) (sx1 : Int32) (σ : gS) (M : gM) (N : gN) (hL : g_layM σ) : g_H E 0 0 103 [(0, vR 40), (1, vI x1), (2, vI x2), (3, vI x3), (4, vI x4), (5, vI x5), (6, vI x6), (7, vI x7), (8, vI x8), (9, vI x9), (10, vI x10)] [vI sx0, vI sx1] (σ, M, N) (b_X12_goesOn_103 recX12_goesOn k17 x1 x2 x3 x4 x5 x6 x7 x8 x9 x10 sx0 sx1 σ M) (eVM σ N) := by
  unfold b_X12_goesOn_103
  refine r_run J 4 (pc' := 109) (lv' := [(11, vI (sx1 + sx0)), (0, vR 40), (1, vI x1), (2, vI x2), (3, vI x3), (4, vI x4), (5, vI x5), (6, vI x6), (7, vI x7), (8, vI x8), (9, vI x9), (10, vI x10)]) (st' := [vR 40, vI (sx1 + sx0)]) rfl ?_
  refine r_getR J cls12 rfl (k := 64) (t := 14) (by decide) wf_12_130 rfl rfl (ly_40 hL) (lr_40_64 hL) (fun _ => ?_)
  show g_H E 0 0 112 [(11, vI (sx1 + sx0)), (0, vR 40), (1, vI x1), (2, vI x2), (3, vI x3), (4, vI x4), (5, vI x5), (6, vI x6), (7, vI x7), (8, vI x8), (9, vI x9), (10, vI x10)] [vR 77, vI (sx1 + sx0)] (σ, M, N) _ _
  refine r_run J 1 (pc' := 114) (lv' := [(11, vI (sx1 + sx0)), (0, vR 40), (1, vI x1), (2, vI x2), (3, vI x3), (4, vI x4), (5, vI x5), (6, vI x6), (7, vI x7), (8, vI x8), (9, vI x9), (10, vI x10)]) (st' := [vI x8, vR 77, vI (sx1 + sx0)]) rfl ?_
  refine r_iald J rfl (ly_77 hL) (fun i114 => ?_)
  show g_H E 0 0 115 [(11, vI (sx1 + sx0)), (0, vR 40), (1, vI x1), (2, vI x2), (3, vI x3), (4, vI x4), (5, vI x5), (6, vI x6), (7, vI x7), (8, vI x8), (9, vI x9), (10, vI x10)] [vI (M 77 x8.toNatClampNeg), vI (sx1 + sx0)] (σ, M, N) _ _
  refine r_icmp_ge J (tgt := 128) rfl (by decide) (fun c115 => ?_) (fun c115 => ?_)
  · refine r_run J 1 (pc' := 119) (lv' := [(11, vI (sx1 + sx0)), (0, vR 40), (1, vI x1), (2, vI x2), (3, vI x3), (4, vI x4), (5, vI x5), (6, vI x6), (7, vI x7), (8, vI x8), (9, vI x9), (10, vI x10)]) (st' := [vR 40]) rfl ?_
    refine r_getR J cls12 rfl (k := 64) (t := 14) (by decide) wf_12_130 rfl rfl (ly_40 hL) (lr_40_64 hL) (fun _ => ?_)
    show g_H E 0 0 122 [(11, vI (sx1 + sx0)), (0, vR 40), (1, vI x1), (2, vI x2), (3, vI x3), (4, vI x4), (5, vI x5), (6, vI x6), (7, vI x7), (8, vI x8), (9, vI x9), (10, vI x10)] [vR 77] (σ, M, N) _ _
    refine r_run J 1 (pc' := 124) (lv' := [(11, vI (sx1 + sx0)), (0, vR 40), (1, vI x1), (2, vI x2), (3, vI x3), (4, vI x4), (5, vI x5), (6, vI x6), (7, vI x7), (8, vI x8), (9, vI x9), (10, vI x10)]) (st' := [vI x8, vR 77]) rfl ?_
    refine r_iald J rfl (ly_77 hL) (fun i124 => ?_)
    show g_H E 0 0 125 [(11, vI (sx1 + sx0)), (0, vR 40), (1, vI x1), (2, vI x2), (3, vI x3), (4, vI x4), (5, vI x5), (6, vI x6), (7, vI x7), (8, vI x8), (9, vI x9), (10, vI x10)] [vI (M 77 x8.toNatClampNeg)] (σ, M, N) _ _
    refine r_run J 1 (pc' := 130) (lv' := [(11, vI (sx1 + sx0)), (0, vR 40), (1, vI x1), (2, vI x2), (3, vI x3), (4, vI x4), (5, vI x5), (6, vI x6), (7, vI x7), (8, vI x8), (9, vI x9), (10, vI x10)]) (st' := [vI (M 77 x8.toNatClampNeg)]) rfl ?_
    refine r_sub [1, 2, 3, 4, 5, 6, 7, 8, 9, 10, 11, 0] (lv' := [(0, vR 40), (1, vI x1), (2, vI x2), (3, vI x3), (4, vI x4), (5, vI x5), (6, vI x6), (7, vI x7), (8, vI x8), (9, vI x9), (10, vI x10), (11, vI (sx1 + sx0))]) rfl ?_
    exact p_X12_goesOn_130 J hrecX12_goesOn H17 x1 x2 x3 x4 x5 x6 x7 x8 x9 x10 (sx1 + sx0) (M 77 x8.toNatClampNeg) σ M N hL
  · refine r_run J 1 (pc' := 130) (lv' := [(11, vI (sx1 + sx0)), (0, vR 40), (1, vI x1), (2, vI x2), (3, vI x3), (4, vI x4), (5, vI x5), (6, vI x6), (7, vI x7), (8, vI x8), (9, vI x9), (10, vI x10)]) (st' := [vI (sx1 + sx0)]) rfl ?_
    refine r_sub [1, 2, 3, 4, 5, 6, 7, 8, 9, 10, 11, 0] (lv' := [(0, vR 40), (1, vI x1), (2, vI x2), (3, vI x3), (4, vI x4), (5, vI x5), (6, vI x6), (7, vI x7), (8, vI x8), (9, vI x9), (10, vI x10), (11, vI (sx1 + sx0))]) rfl ?_
    exact p_X12_goesOn_130 J hrecX12_goesOn H17 x1 x2 x3 x4 x5 x6 x7 x8 x9 x10 (sx1 + sx0) (sx1 + sx0) σ M N hL
set_option maxHeartbeats 4000000 in
set_option maxRecDepth 100000 in
theorem p_X12_goesOn_85 {l : Launch} {E : gE} {d' : Nat}  {recX12_goesOn : Int32 → Int32 → Int32 → Int32 → Int32 → Int32 → Int32 → gS → gM → Option (gM)}(J : J_X12_goesOn (d' + 1) E l) (hrecX12_goesOn : ∀ (x1 : Int32) (x2 : Int32) (x3 : Int32) (x4 : Int32) (x5 : Int32) (x6 : Int32) (x7 : Int32) (σ : gS) (M : gM) (N : gN) (_ : g_layM σ) r, recX12_goesOn x1 x2 x3 x4 x5 x6 x7 σ M = some r → g_Ct l yX12_goesOn cX12_goesOn 15 none (2 + d') 0 0 [vR 40, vI x1, vI x2, vI x3, vI x4, vI x5, vI x6, vI x7] (σ, M, N) (eVM σ N r)) {k17 : Int32 → Int32 → Int32 → Int32 → Int32 → Int32 → Int32 → Int32 → gS → gM → Option (gM)} (H17 : ∀ (x1 : Int32) (x2 : Int32) (x3 : Int32) (x4 : Int32) (x5 : Int32) (x6 : Int32) (x7 : Int32) (x8 : Int32) (σ : gS) (M : gM) (N : gN) (_ : g_layM σ), g_H E 0 0 17 [(0, vR 40), (1, vI x1), (2, vI x2), (3, vI x3), (4, vI x4), (5, vI x5), (6, vI x6), (7, vI x7), (8, vI x8)] [] (σ, M, N) (k17 x1 x2 x3 x4 x5 x6 x7 x8 σ M) (eVM σ N)) (x1 : Int32) (x2 : Int32) (x3 : Int32) (x4 : Int32) (x5 : Int32) (x6 : Int32) (x7 : Int32) (x8 : Int32) (x9 : Int32) (sx0 : Int32) (σ : gS) (M : gM) (N : gN) (hL : g_layM σ) : g_H E 0 0 85 [(0, vR 40), (1, vI x1), (2, vI x2), (3, vI x3), (4, vI x4), (5, vI x5), (6, vI x6), (7, vI x7), (8, vI x8), (9, vI x9)] [vI sx0] (σ, M, N) (b_X12_goesOn_85 recX12_goesOn k17 x1 x2 x3 x4 x5 x6 x7 x8 x9 sx0 σ M) (eVM σ N) := by
  unfold b_X12_goesOn_85
  refine r_run J 5 (pc' := 94) (lv' := [(10, vI sx0), (0, vR 40), (1, vI x1), (2, vI x2), (3, vI x3), (4, vI x4), (5, vI x5), (6, vI x6), (7, vI x7), (8, vI x8), (9, vI x9)]) (st' := [vI sx0, vI (x4 + x9)]) rfl ?_
  refine r_if_eq J (tgt := 102) rfl (by decide) (fun c94 => ?_) (fun c94 => ?_)
  · refine r_run J 1 (pc' := 103) (lv' := [(10, vI sx0), (0, vR 40), (1, vI x1), (2, vI x2), (3, vI x3), (4, vI x4), (5, vI x5), (6, vI x6), (7, vI x7), (8, vI x8), (9, vI x9)]) (st' := [vI 0, vI (x4 + x9)]) rfl ?_
    refine r_sub [1, 2, 3, 4, 5, 6, 7, 8, 9, 10, 0] (lv' := [(0, vR 40), (1, vI x1), (2, vI x2), (3, vI x3), (4, vI x4), (5, vI x5), (6, vI x6), (7, vI x7), (8, vI x8), (9, vI x9), (10, vI sx0)]) rfl ?_
    exact p_X12_goesOn_103 J hrecX12_goesOn H17 x1 x2 x3 x4 x5 x6 x7 x8 x9 sx0 0 (x4 + x9) σ M N hL
  · refine r_run J 2 (pc' := 103) (lv' := [(10, vI sx0), (0, vR 40), (1, vI x1), (2, vI x2), (3, vI x3), (4, vI x4), (5, vI x5), (6, vI x6), (7, vI x7), (8, vI x8), (9, vI x9)]) (st' := [vI 45, vI (x4 + x9)]) rfl ?_
    refine r_sub [1, 2, 3, 4, 5, 6, 7, 8, 9, 10, 0] (lv' := [(0, vR 40), (1, vI x1), (2, vI x2), (3, vI x3), (4, vI x4), (5, vI x5), (6, vI x6), (7, vI x7), (8, vI x8), (9, vI x9), (10, vI sx0)]) rfl ?_
    exact p_X12_goesOn_103 J hrecX12_goesOn H17 x1 x2 x3 x4 x5 x6 x7 x8 x9 sx0 45 (x4 + x9) σ M N hL
set_option maxHeartbeats 4000000 in
set_option maxRecDepth 100000 in
theorem p_X12_goesOn_17 {l : Launch} {E : gE} {d' : Nat}  {recX12_goesOn : Int32 → Int32 → Int32 → Int32 → Int32 → Int32 → Int32 → gS → gM → Option (gM)}(J : J_X12_goesOn (d' + 1) E l) (hrecX12_goesOn : ∀ (x1 : Int32) (x2 : Int32) (x3 : Int32) (x4 : Int32) (x5 : Int32) (x6 : Int32) (x7 : Int32) (σ : gS) (M : gM) (N : gN) (_ : g_layM σ) r, recX12_goesOn x1 x2 x3 x4 x5 x6 x7 σ M = some r → g_Ct l yX12_goesOn cX12_goesOn 15 none (2 + d') 0 0 [vR 40, vI x1, vI x2, vI x3, vI x4, vI x5, vI x6, vI x7] (σ, M, N) (eVM σ N r)) : ∀ (n : Nat) (x1 : Int32) (x2 : Int32) (x3 : Int32) (x4 : Int32) (x5 : Int32) (x6 : Int32) (x7 : Int32) (x8 : Int32) (σ : gS) (M : gM) (N : gN) (hL : g_layM σ), g_H E 0 0 17 [(0, vR 40), (1, vI x1), (2, vI x2), (3, vI x3), (4, vI x4), (5, vI x5), (6, vI x6), (7, vI x7), (8, vI x8)] [] (σ, M, N) (l_X12_goesOn_17 recX12_goesOn n x1 x2 x3 x4 x5 x6 x7 x8 σ M) (eVM σ N) := by
  intro n
  induction n with
  | zero => intros; exact h_none
  | succ n ih =>
    intro x1 x2 x3 x4 x5 x6 x7 x8 σ M N hL
    rw [l_X12_goesOn_17]
    refine r_run J 2 (pc' := 20) (lv' := [(0, vR 40), (1, vI x1), (2, vI x2), (3, vI x3), (4, vI x4), (5, vI x5), (6, vI x6), (7, vI x7), (8, vI x8)]) (st' := [vR 40, vI x8]) rfl ?_
    refine r_getI J cls12 rfl (k := 63) (by decide) wf_12_405 rfl (ly_40 hL) ?_
    show g_H E 0 0 23 [(0, vR 40), (1, vI x1), (2, vI x2), (3, vI x3), (4, vI x4), (5, vI x5), (6, vI x6), (7, vI x7), (8, vI x8)] [vI (M 40 63), vI x8] (σ, M, N) _ _
    refine r_icmp_gt J (tgt := 249) rfl (by decide) (fun c23 => ?_) (fun c23 => ?_)
    · exact r_vret J rfl rfl rfl (by decide) (by decide)
    · refine r_run J 1 (pc' := 27) (lv' := [(0, vR 40), (1, vI x1), (2, vI x2), (3, vI x3), (4, vI x4), (5, vI x5), (6, vI x6), (7, vI x7), (8, vI x8)]) (st' := [vR 40]) rfl ?_
      refine r_getR J cls12 rfl (k := 67) (t := 14) (by decide) wf_12_139 rfl rfl (ly_40 hL) (lr_40_67 hL) (fun _ => ?_)
      show g_H E 0 0 30 [(0, vR 40), (1, vI x1), (2, vI x2), (3, vI x3), (4, vI x4), (5, vI x5), (6, vI x6), (7, vI x7), (8, vI x8)] [vR 80] (σ, M, N) _ _
      refine r_run J 5 (pc' := 37) (lv' := [(0, vR 40), (1, vI x1), (2, vI x2), (3, vI x3), (4, vI x4), (5, vI x5), (6, vI x6), (7, vI x7), (8, vI x8)]) (st' := [vI (((7 : Int32) * x2) + x8), vR 80]) rfl ?_
      refine r_iald J rfl (ly_80 hL) (fun i37 => ?_)
      show g_H E 0 0 38 [(0, vR 40), (1, vI x1), (2, vI x2), (3, vI x3), (4, vI x4), (5, vI x5), (6, vI x6), (7, vI x7), (8, vI x8)] [vI (M 80 (((7 : Int32) * x2) + x8).toNatClampNeg)] (σ, M, N) _ _
      refine r_run J 7 (pc' := 47) (lv' := [(9, vI (M 80 (((7 : Int32) * x2) + x8).toNatClampNeg)), (0, vR 40), (1, vI x1), (2, vI x2), (3, vI x3), (4, vI x4), (5, vI x5), (6, vI x6), (7, vI x7), (8, vI x8)]) (st' := [vI 1, vI ((x3 >>> (x8 &&& 31)) &&& (1 : Int32))]) rfl ?_
      refine r_icmp_eq J (tgt := 243) rfl (by decide) (fun c47 => ?_) (fun c47 => ?_)
      · refine r_sub [1, 2, 3, 4, 5, 6, 7, 8, 9] (lv' := [(0, vR 40), (1, vI x1), (2, vI x2), (3, vI x3), (4, vI x4), (5, vI x5), (6, vI x6), (7, vI x7), (8, vI x8)]) rfl ?_
        exact p_X12_goesOn_243 J hrecX12_goesOn ih x1 x2 x3 x4 x5 x6 x7 x8 σ M N hL
      · refine r_run J 1 (pc' := 52) (lv' := [(9, vI (M 80 (((7 : Int32) * x2) + x8).toNatClampNeg)), (0, vR 40), (1, vI x1), (2, vI x2), (3, vI x3), (4, vI x4), (5, vI x5), (6, vI x6), (7, vI x7), (8, vI x8)]) (st' := [vI (M 80 (((7 : Int32) * x2) + x8).toNatClampNeg)]) rfl ?_
        refine r_if_eq J (tgt := 243) rfl (by decide) (fun c52 => ?_) (fun c52 => ?_)
        · refine r_sub [1, 2, 3, 4, 5, 6, 7, 8, 9] (lv' := [(0, vR 40), (1, vI x1), (2, vI x2), (3, vI x3), (4, vI x4), (5, vI x5), (6, vI x6), (7, vI x7), (8, vI x8)]) rfl ?_
          exact p_X12_goesOn_243 J hrecX12_goesOn ih x1 x2 x3 x4 x5 x6 x7 x8 σ M N hL
        · refine r_run J 4 (pc' := 63) (lv' := [(9, vI (M 80 (((7 : Int32) * x2) + x8).toNatClampNeg)), (0, vR 40), (1, vI x1), (2, vI x2), (3, vI x3), (4, vI x4), (5, vI x5), (6, vI x6), (7, vI x7), (8, vI x8)]) (st' := [vI 540, vI (x6 + (M 80 (((7 : Int32) * x2) + x8).toNatClampNeg))]) rfl ?_
          refine r_icmp_le J (tgt := 69) rfl (by decide) (fun c63 => ?_) (fun c63 => ?_)
          · refine r_run J 1 (pc' := 243) (lv' := [(9, vI (M 80 (((7 : Int32) * x2) + x8).toNatClampNeg)), (0, vR 40), (1, vI x1), (2, vI x2), (3, vI x3), (4, vI x4), (5, vI x5), (6, vI x6), (7, vI x7), (8, vI x8)]) (st' := []) rfl ?_
            refine r_sub [1, 2, 3, 4, 5, 6, 7, 8, 9] (lv' := [(0, vR 40), (1, vI x1), (2, vI x2), (3, vI x3), (4, vI x4), (5, vI x5), (6, vI x6), (7, vI x7), (8, vI x8)]) rfl ?_
            exact p_X12_goesOn_243 J hrecX12_goesOn ih x1 x2 x3 x4 x5 x6 x7 x8 σ M N hL
          · refine r_run J 4 (pc' := 77) (lv' := [(9, vI (M 80 (((7 : Int32) * x2) + x8).toNatClampNeg)), (0, vR 40), (1, vI x1), (2, vI x2), (3, vI x3), (4, vI x4), (5, vI x5), (6, vI x6), (7, vI x7), (8, vI x8)]) (st' := [vI 270, vI (x5 + (M 80 (((7 : Int32) * x2) + x8).toNatClampNeg))]) rfl ?_
            refine r_icmp_le J (tgt := 84) rfl (by decide) (fun c77 => ?_) (fun c77 => ?_)
            · refine r_run J 2 (pc' := 85) (lv' := [(9, vI (M 80 (((7 : Int32) * x2) + x8).toNatClampNeg)), (0, vR 40), (1, vI x1), (2, vI x2), (3, vI x3), (4, vI x4), (5, vI x5), (6, vI x6), (7, vI x7), (8, vI x8)]) (st' := [vI 1]) rfl ?_
              refine r_sub [1, 2, 3, 4, 5, 6, 7, 8, 9, 0] (lv' := [(0, vR 40), (1, vI x1), (2, vI x2), (3, vI x3), (4, vI x4), (5, vI x5), (6, vI x6), (7, vI x7), (8, vI x8), (9, vI (M 80 (((7 : Int32) * x2) + x8).toNatClampNeg))]) rfl ?_
              exact p_X12_goesOn_85 J hrecX12_goesOn ih x1 x2 x3 x4 x5 x6 x7 x8 (M 80 (((7 : Int32) * x2) + x8).toNatClampNeg) 1 σ M N hL
            · refine r_run J 1 (pc' := 85) (lv' := [(9, vI (M 80 (((7 : Int32) * x2) + x8).toNatClampNeg)), (0, vR 40), (1, vI x1), (2, vI x2), (3, vI x3), (4, vI x4), (5, vI x5), (6, vI x6), (7, vI x7), (8, vI x8)]) (st' := [vI 0]) rfl ?_
              refine r_sub [1, 2, 3, 4, 5, 6, 7, 8, 9, 0] (lv' := [(0, vR 40), (1, vI x1), (2, vI x2), (3, vI x3), (4, vI x4), (5, vI x5), (6, vI x6), (7, vI x7), (8, vI x8), (9, vI (M 80 (((7 : Int32) * x2) + x8).toNatClampNeg))]) rfl ?_
              exact p_X12_goesOn_85 J hrecX12_goesOn ih x1 x2 x3 x4 x5 x6 x7 x8 (M 80 (((7 : Int32) * x2) + x8).toNatClampNeg) 0 σ M N hL
set_option maxHeartbeats 4000000 in
set_option maxRecDepth 100000 in
theorem p_X12_goesOn_0 {l : Launch} {E : gE} {d' : Nat}  {recX12_goesOn : Int32 → Int32 → Int32 → Int32 → Int32 → Int32 → Int32 → gS → gM → Option (gM)}(J : J_X12_goesOn (d' + 1) E l) (hrecX12_goesOn : ∀ (x1 : Int32) (x2 : Int32) (x3 : Int32) (x4 : Int32) (x5 : Int32) (x6 : Int32) (x7 : Int32) (σ : gS) (M : gM) (N : gN) (_ : g_layM σ) r, recX12_goesOn x1 x2 x3 x4 x5 x6 x7 σ M = some r → g_Ct l yX12_goesOn cX12_goesOn 15 none (2 + d') 0 0 [vR 40, vI x1, vI x2, vI x3, vI x4, vI x5, vI x6, vI x7] (σ, M, N) (eVM σ N r)) (x1 : Int32) (x2 : Int32) (x3 : Int32) (x4 : Int32) (x5 : Int32) (x6 : Int32) (x7 : Int32) (σ : gS) (M : gM) (N : gN) (hL : g_layM σ) : g_H E 0 0 0 [(0, vR 40), (1, vI x1), (2, vI x2), (3, vI x3), (4, vI x4), (5, vI x5), (6, vI x6), (7, vI x7)] [] (σ, M, N) (b_X12_goesOn_0 recX12_goesOn x1 x2 x3 x4 x5 x6 x7 σ M) (eVM σ N) := by
  unfold b_X12_goesOn_0
  refine r_run J 7 (pc' := 11) (lv' := [(0, vR 40), (1, vI x1), (2, vI x2), (3, vI x3), (4, vI x4), (5, vI x5), (6, vI x6), (7, vI x7)]) (st' := [vI x7, vI x6, vI x5, vI x4, vI x2, vI x1, vR 40]) rfl ?_
  refine r_callV J (As := [vI x1, vI x2, vI x4, vI x5, vI x6, vI x7]) (st := []) (fun r hr => c_X12_home x1 x2 x4 x5 x6 x7 σ M N hL r hr) cls12 (ly_40 hL) wm_12_408 wy_X12_home wd_X12_home ⟨by omega, by decide, by decide, by decide, Nat.le_of_ble_eq_true rfl⟩ rfl rfl (fun q11 hq11 => ?_)
  show g_H E 0 0 14 [(0, vR 40), (1, vI x1), (2, vI x2), (3, vI x3), (4, vI x4), (5, vI x5), (6, vI x6), (7, vI x7)] [] (σ, q11, N) _ _
  refine r_run J 2 (pc' := 17) (lv' := [(8, vI 1), (0, vR 40), (1, vI x1), (2, vI x2), (3, vI x3), (4, vI x4), (5, vI x5), (6, vI x6), (7, vI x7)]) (st' := []) rfl ?_
  refine r_sub [1, 2, 3, 4, 5, 6, 7, 8, 0] (lv' := [(0, vR 40), (1, vI x1), (2, vI x2), (3, vI x3), (4, vI x4), (5, vI x5), (6, vI x6), (7, vI x7), (8, vI 1)]) rfl ?_
  exact p_X12_goesOn_17 J hrecX12_goesOn g_FU x1 x2 x3 x4 x5 x6 x7 1 σ q11 N hL
set_option maxHeartbeats 4000000 in
theorem cg_X12_goesOn {l : Launch} : ∀ d : Nat, (∀ (x1 : Int32) (x2 : Int32) (x3 : Int32) (x4 : Int32) (x5 : Int32) (x6 : Int32) (x7 : Int32) (σ : gS) (M : gM) (N : gN) (_ : g_layM σ) r, f_X12_goesOn d x1 x2 x3 x4 x5 x6 x7 σ M = some r → g_Ct l yX12_goesOn cX12_goesOn 15 none (2 + d) 0 0 [vR 40, vI x1, vI x2, vI x3, vI x4, vI x5, vI x6, vI x7] (σ, M, N) (eVM σ N r)) := by
  intro d
  induction d with
  | zero =>
    exact (fun _ _ _ _ _ _ _ _ _ _ _ _ h => by cases h)
  | succ d ih =>
    exact fun x1 x2 x3 x4 x5 x6 x7 σ M N hL r h => g_Ct.of tb_X12_goesOn (by decide +kernel) tk_X12_goesOn (Nat.le_of_ble_eq_true rfl) (fun E J => p_X12_goesOn_0 J ih x1 x2 x3 x4 x5 x6 x7 σ M N hL r h)
theorem c_X12_goesOn {l : Launch} (d : Nat) : ∀ (x1 : Int32) (x2 : Int32) (x3 : Int32) (x4 : Int32) (x5 : Int32) (x6 : Int32) (x7 : Int32) (σ : gS) (M : gM) (N : gN) (_ : g_layM σ) r, f_X12_goesOn d x1 x2 x3 x4 x5 x6 x7 σ M = some r → g_Ct l yX12_goesOn cX12_goesOn 15 none (2 + d) 0 0 [vR 40, vI x1, vI x2, vI x3, vI x4, vI x5, vI x6, vI x7] (σ, M, N) (eVM σ N r) := (cg_X12_goesOn d)
def tb_X12_trip : gT := [(0, .iload_n 1, 1, 0), (1, .iconst 0, 1, 0), (2, .sipush 1440, 3, 1440), (5, .invokestatic 160, 3, 0), (8, .ifCond .ne 5, 3, 0), (11, .iconst (-1), 1, (-1)), (12, .ireturn, 1, 0), (13, .aload_n 0, 1, 0), (14, .iconst 1, 1, 1), (15, .putfield 428, 3, 0), (18, .aload_n 0, 1, 0), (19, .iconst 0, 1, 0), (20, .putfield 416, 3, 0), (23, .aload_n 0, 1, 0), (24, .iload_n 1, 1, 0), (25, .putfield 419, 3, 0), (28, .aload_n 0, 1, 0), (29, .iconst 0, 1, 0), (30, .putfield 422, 3, 0), (33, .aload_n 0, 1, 0), (34, .iconst 0, 1, 0), (35, .putfield 425, 3, 0), (38, .aload_n 0, 1, 0), (39, .iconst 0, 1, 0), (40, .iconst 0, 1, 0), (41, .iconst 0, 1, 0), (42, .iload_n 1, 1, 0), (43, .iconst 0, 1, 0), (44, .iconst 0, 1, 0), (45, .iconst 0, 1, 0), (46, .invokevirtual 412, 3, 0), (49, .aload_n 0, 1, 0), (50, .getfield 416, 3, 0), (53, .ireturn, 1, 0)]
set_option maxRecDepth 100000 in
theorem tk_X12_trip : g_okT cX12_trip tb_X12_trip = true := by decide +kernel
abbrev J_X12_trip (E : gE) (l : Launch) : Prop := g_J E cX12_trip RX12 "trip" (some .int) 2 tb_X12_trip 67 0 0 l
set_option maxHeartbeats 4000000 in
set_option maxRecDepth 100000 in
theorem p_X12_trip_28 {l : Launch} {E : gE} (J : J_X12_trip E l) (x1 : Int32) (σ : gS) (M : gM) (N : gN) (hL : g_layM σ) : g_H E 0 0 28 [(0, vR 40), (1, vI x1)] [] (σ, M, N) (b_X12_trip_28 x1 σ M) (eIM σ N) := by
  unfold b_X12_trip_28
  refine r_run J 2 (pc' := 30) (lv' := [(0, vR 40), (1, vI x1)]) (st' := [vI 0, vR 40]) rfl ?_
  refine r_putI J cls12 rfl (k := 73) (by decide) wf_12_422 rfl (Or.inl rfl) ⟨rfl, rfl⟩ (ly_40 hL) ?_
  show g_H E 0 0 33 [(0, vR 40), (1, vI x1)] [] (σ, (g_up M 40 73 0), N) _ _
  refine r_run J 2 (pc' := 35) (lv' := [(0, vR 40), (1, vI x1)]) (st' := [vI 0, vR 40]) rfl ?_
  refine r_putI J cls12 rfl (k := 74) (by decide) wf_12_425 rfl (Or.inl rfl) ⟨rfl, rfl⟩ (ly_40 hL) ?_
  show g_H E 0 0 38 [(0, vR 40), (1, vI x1)] [] (σ, (g_up (g_up M 40 73 0) 40 74 0), N) _ _
  refine r_run J 8 (pc' := 46) (lv' := [(0, vR 40), (1, vI x1)]) (st' := [vI 0, vI 0, vI 0, vI x1, vI 0, vI 0, vI 0, vR 40]) rfl ?_
  refine r_callV J (As := [vI 0, vI 0, vI 0, vI x1, vI 0, vI 0, vI 0]) (st := []) (fun r hr => c_X12_goesOn 64 0 0 0 x1 0 0 0 σ (g_up (g_up M 40 73 0) 40 74 0) N hL r hr) cls12 (ly_40 hL) wm_12_412 wy_X12_goesOn wd_X12_goesOn ⟨by omega, by decide, by decide, by decide, Nat.le_of_ble_eq_true rfl⟩ rfl rfl (fun q46 hq46 => ?_)
  show g_H E 0 0 49 [(0, vR 40), (1, vI x1)] [] (σ, q46, N) _ _
  refine r_run J 1 (pc' := 50) (lv' := [(0, vR 40), (1, vI x1)]) (st' := [vR 40]) rfl ?_
  refine r_getI J cls12 rfl (k := 71) (by decide) wf_12_416 rfl (ly_40 hL) ?_
  show g_H E 0 0 53 [(0, vR 40), (1, vI x1)] [vI (q46 40 71)] (σ, q46, N) _ _
  exact r_iret J rfl rfl rfl rfl (by decide) (by decide)
set_option maxHeartbeats 4000000 in
set_option maxRecDepth 100000 in
theorem p_X12_trip_0 {l : Launch} {E : gE} (J : J_X12_trip E l) (x1 : Int32) (σ : gS) (M : gM) (N : gN) (hL : g_layM σ) : g_H E 0 0 0 [(0, vR 40), (1, vI x1)] [] (σ, M, N) (b_X12_trip_0 x1 σ M) (eIM σ N) := by
  unfold b_X12_trip_0
  refine r_run J 3 (pc' := 5) (lv' := [(0, vR 40), (1, vI x1)]) (st' := [vI 1440, vI 0, vI x1]) rfl ?_
  refine r_callS J (As := [vI x1, vI 0, vI 1440]) (st := []) (fun r hr => c_X12_in x1 0 1440 σ M N hL r hr) wm_12_160 wy_X12_in wd_X12_in ⟨by decide, by decide, by decide, by decide, Nat.le_of_ble_eq_true rfl⟩ rfl rfl (fun q5 hq5 => ?_)
  show g_H E 0 0 8 [(0, vR 40), (1, vI x1)] [vI q5] (σ, M, N) _ _
  refine r_if_ne J (tgt := 13) rfl (by decide) (fun c8 => ?_) (fun c8 => ?_)
  · refine r_run J 1 (pc' := 12) (lv' := [(0, vR 40), (1, vI x1)]) (st' := [vI (-1)]) rfl ?_
    exact r_iret J rfl rfl rfl rfl (by decide) (by decide)
  · refine r_run J 2 (pc' := 15) (lv' := [(0, vR 40), (1, vI x1)]) (st' := [vI 1, vR 40]) rfl ?_
    refine r_putI J cls12 rfl (k := 70) (by decide) wf_12_428 rfl (Or.inl rfl) ⟨rfl, rfl⟩ (ly_40 hL) ?_
    show g_H E 0 0 18 [(0, vR 40), (1, vI x1)] [] (σ, (g_up M 40 70 1), N) _ _
    refine r_run J 2 (pc' := 20) (lv' := [(0, vR 40), (1, vI x1)]) (st' := [vI 0, vR 40]) rfl ?_
    refine r_putI J cls12 rfl (k := 71) (by decide) wf_12_416 rfl (Or.inl rfl) ⟨rfl, rfl⟩ (ly_40 hL) ?_
    show g_H E 0 0 23 [(0, vR 40), (1, vI x1)] [] (σ, (g_up (g_up M 40 70 1) 40 71 0), N) _ _
    refine r_run J 2 (pc' := 25) (lv' := [(0, vR 40), (1, vI x1)]) (st' := [vI x1, vR 40]) rfl ?_
    refine r_putI J cls12 rfl (k := 72) (by decide) wf_12_419 rfl (Or.inl rfl) ⟨rfl, rfl⟩ (ly_40 hL) ?_
    show g_H E 0 0 28 [(0, vR 40), (1, vI x1)] [] (σ, (g_up (g_up (g_up M 40 70 1) 40 71 0) 40 72 x1), N) _ _
    exact p_X12_trip_28 J x1 σ (g_up (g_up (g_up M 40 70 1) 40 71 0) 40 72 x1) N hL
theorem c_X12_trip {l : Launch} (x1 : Int32) (σ : gS) (M : gM) (N : gN) (hL : g_layM σ) (r : Int32 × gM) (h : f_X12_trip x1 σ M = some r) : g_Ct l yX12_trip cX12_trip 2 (some .int) 67 0 0 [vR 40, vI x1] (σ, M, N) (eIM σ N r) :=
  g_Ct.of tb_X12_trip (by decide +kernel) tk_X12_trip (Nat.le_of_ble_eq_true rfl) (fun E J => p_X12_trip_0 J x1 σ M N hL r h)
def tb_X12_tripOf : gT := [(0, .aload_n 0, 1, 0), (1, .getfield 428, 3, 0), (4, .ifCond .ne 5, 3, 0), (7, .iconst (-1), 1, (-1)), (8, .ireturn, 1, 0), (9, .iload_n 1, 1, 0), (10, .bipush 10, 2, 10), (12, .bipush 9, 2, 9), (14, .aload_n 0, 1, 0), (15, .getfield 416, 3, 0), (18, .iadd, 1, 0), (19, .invokestatic 160, 3, 0), (22, .ifCond .eq 13, 3, 0), (25, .aload_n 0, 1, 0), (26, .getfield 148, 3, 0), (29, .iload_n 1, 1, 0), (30, .bipush 10, 2, 10), (32, .isub, 1, 0), (33, .iaload, 1, 0), (34, .ireturn, 1, 0), (35, .iload_n 1, 1, 0), (36, .bipush 20, 2, 20), (38, .bipush 19, 2, 19), (40, .aload_n 0, 1, 0), (41, .getfield 416, 3, 0), (44, .iadd, 1, 0), (45, .invokestatic 160, 3, 0), (48, .ifCond .eq 13, 3, 0), (51, .aload_n 0, 1, 0), (52, .getfield 151, 3, 0), (55, .iload_n 1, 1, 0), (56, .bipush 20, 2, 20), (58, .isub, 1, 0), (59, .iaload, 1, 0), (60, .ireturn, 1, 0), (61, .iload_n 1, 1, 0), (62, .ifCond .ne 10, 3, 0), (65, .aload_n 0, 1, 0), (66, .getfield 419, 3, 0), (69, .goto 28, 3, 0), (72, .iload_n 1, 1, 0), (73, .iconst 1, 1, 1), (74, .if_icmp .ne 10, 3, 0), (77, .aload_n 0, 1, 0), (78, .getfield 422, 3, 0), (81, .goto 16, 3, 0), (84, .iload_n 1, 1, 0), (85, .iconst 2, 1, 2), (86, .if_icmp .ne 10, 3, 0), (89, .aload_n 0, 1, 0), (90, .getfield 425, 3, 0), (93, .goto 4, 3, 0), (96, .iconst (-1), 1, (-1)), (97, .ireturn, 1, 0)]
set_option maxRecDepth 100000 in
theorem tk_X12_tripOf : g_okT cX12_tripOf tb_X12_tripOf = true := by decide +kernel
abbrev J_X12_tripOf (E : gE) (l : Launch) : Prop := g_J E cX12_tripOf RX12 "tripOf" (some .int) 2 tb_X12_tripOf 2 0 0 l
set_option maxHeartbeats 4000000 in
set_option maxRecDepth 100000 in
theorem p_X12_tripOf_0 {l : Launch} {E : gE} (J : J_X12_tripOf E l) (x1 : Int32) (σ : gS) (M : gM) (N : gN) (hL : g_layM σ) : g_H E 0 0 0 [(0, vR 40), (1, vI x1)] [] (σ, M, N) (b_X12_tripOf_0 x1 σ M) (eI σ M N) := by
  unfold b_X12_tripOf_0
  refine r_run J 1 (pc' := 1) (lv' := [(0, vR 40), (1, vI x1)]) (st' := [vR 40]) rfl ?_
  refine r_getI J cls12 rfl (k := 70) (by decide) wf_12_428 rfl (ly_40 hL) ?_
  show g_H E 0 0 4 [(0, vR 40), (1, vI x1)] [vI (M 40 70)] (σ, M, N) _ _
  refine r_if_ne J (tgt := 9) rfl (by decide) (fun c4 => ?_) (fun c4 => ?_)
  · refine r_run J 1 (pc' := 8) (lv' := [(0, vR 40), (1, vI x1)]) (st' := [vI (-1)]) rfl ?_
    exact r_iret J rfl rfl rfl rfl (by decide) (by decide)
  · refine r_run J 4 (pc' := 15) (lv' := [(0, vR 40), (1, vI x1)]) (st' := [vR 40, vI 9, vI 10, vI x1]) rfl ?_
    refine r_getI J cls12 rfl (k := 71) (by decide) wf_12_416 rfl (ly_40 hL) ?_
    show g_H E 0 0 18 [(0, vR 40), (1, vI x1)] [vI (M 40 71), vI 9, vI 10, vI x1] (σ, M, N) _ _
    refine r_run J 1 (pc' := 19) (lv' := [(0, vR 40), (1, vI x1)]) (st' := [vI ((9 : Int32) + (M 40 71)), vI 10, vI x1]) rfl ?_
    refine r_callS J (As := [vI x1, vI 10, vI ((9 : Int32) + (M 40 71))]) (st := []) (fun r hr => c_X12_in x1 10 ((9 : Int32) + (M 40 71)) σ M N hL r hr) wm_12_160 wy_X12_in wd_X12_in ⟨by decide, by decide, by decide, by decide, Nat.le_of_ble_eq_true rfl⟩ rfl rfl (fun q19 hq19 => ?_)
    show g_H E 0 0 22 [(0, vR 40), (1, vI x1)] [vI q19] (σ, M, N) _ _
    refine r_if_eq J (tgt := 35) rfl (by decide) (fun c22 => ?_) (fun c22 => ?_)
    · refine r_run J 4 (pc' := 41) (lv' := [(0, vR 40), (1, vI x1)]) (st' := [vR 40, vI 19, vI 20, vI x1]) rfl ?_
      refine r_getI J cls12 rfl (k := 71) (by decide) wf_12_416 rfl (ly_40 hL) ?_
      show g_H E 0 0 44 [(0, vR 40), (1, vI x1)] [vI (M 40 71), vI 19, vI 20, vI x1] (σ, M, N) _ _
      refine r_run J 1 (pc' := 45) (lv' := [(0, vR 40), (1, vI x1)]) (st' := [vI ((19 : Int32) + (M 40 71)), vI 20, vI x1]) rfl ?_
      refine r_callS J (As := [vI x1, vI 20, vI ((19 : Int32) + (M 40 71))]) (st := []) (fun r hr => c_X12_in x1 20 ((19 : Int32) + (M 40 71)) σ M N hL r hr) wm_12_160 wy_X12_in wd_X12_in ⟨by decide, by decide, by decide, by decide, Nat.le_of_ble_eq_true rfl⟩ rfl rfl (fun q45 hq45 => ?_)
      show g_H E 0 0 48 [(0, vR 40), (1, vI x1)] [vI q45] (σ, M, N) _ _
      refine r_if_eq J (tgt := 61) rfl (by decide) (fun c48 => ?_) (fun c48 => ?_)
      · refine r_run J 1 (pc' := 62) (lv' := [(0, vR 40), (1, vI x1)]) (st' := [vI x1]) rfl ?_
        refine r_if_ne J (tgt := 72) rfl (by decide) (fun c62 => ?_) (fun c62 => ?_)
        · refine r_run J 1 (pc' := 66) (lv' := [(0, vR 40), (1, vI x1)]) (st' := [vR 40]) rfl ?_
          refine r_getI J cls12 rfl (k := 72) (by decide) wf_12_419 rfl (ly_40 hL) ?_
          show g_H E 0 0 69 [(0, vR 40), (1, vI x1)] [vI (M 40 72)] (σ, M, N) _ _
          refine r_run J 1 (pc' := 97) (lv' := [(0, vR 40), (1, vI x1)]) (st' := [vI (M 40 72)]) rfl ?_
          exact r_iret J rfl rfl rfl rfl (by decide) (by decide)
        · refine r_run J 2 (pc' := 74) (lv' := [(0, vR 40), (1, vI x1)]) (st' := [vI 1, vI x1]) rfl ?_
          refine r_icmp_ne J (tgt := 84) rfl (by decide) (fun c74 => ?_) (fun c74 => ?_)
          · refine r_run J 1 (pc' := 78) (lv' := [(0, vR 40), (1, vI x1)]) (st' := [vR 40]) rfl ?_
            refine r_getI J cls12 rfl (k := 73) (by decide) wf_12_422 rfl (ly_40 hL) ?_
            show g_H E 0 0 81 [(0, vR 40), (1, vI x1)] [vI (M 40 73)] (σ, M, N) _ _
            refine r_run J 1 (pc' := 97) (lv' := [(0, vR 40), (1, vI x1)]) (st' := [vI (M 40 73)]) rfl ?_
            exact r_iret J rfl rfl rfl rfl (by decide) (by decide)
          · refine r_run J 2 (pc' := 86) (lv' := [(0, vR 40), (1, vI x1)]) (st' := [vI 2, vI x1]) rfl ?_
            refine r_icmp_ne J (tgt := 96) rfl (by decide) (fun c86 => ?_) (fun c86 => ?_)
            · refine r_run J 1 (pc' := 90) (lv' := [(0, vR 40), (1, vI x1)]) (st' := [vR 40]) rfl ?_
              refine r_getI J cls12 rfl (k := 74) (by decide) wf_12_425 rfl (ly_40 hL) ?_
              show g_H E 0 0 93 [(0, vR 40), (1, vI x1)] [vI (M 40 74)] (σ, M, N) _ _
              refine r_run J 1 (pc' := 97) (lv' := [(0, vR 40), (1, vI x1)]) (st' := [vI (M 40 74)]) rfl ?_
              exact r_iret J rfl rfl rfl rfl (by decide) (by decide)
            · refine r_run J 1 (pc' := 97) (lv' := [(0, vR 40), (1, vI x1)]) (st' := [vI (-1)]) rfl ?_
              exact r_iret J rfl rfl rfl rfl (by decide) (by decide)
      · refine r_run J 1 (pc' := 52) (lv' := [(0, vR 40), (1, vI x1)]) (st' := [vR 40]) rfl ?_
        refine r_getR J cls12 rfl (k := 76) (t := 14) (by decide) wf_12_151 rfl rfl (ly_40 hL) (lr_40_76 hL) (fun _ => ?_)
        show g_H E 0 0 55 [(0, vR 40), (1, vI x1)] [vR 84] (σ, M, N) _ _
        refine r_run J 3 (pc' := 59) (lv' := [(0, vR 40), (1, vI x1)]) (st' := [vI (x1 - (20 : Int32)), vR 84]) rfl ?_
        refine r_iald J rfl (ly_84 hL) (fun i59 => ?_)
        show g_H E 0 0 60 [(0, vR 40), (1, vI x1)] [vI (M 84 (x1 - (20 : Int32)).toNatClampNeg)] (σ, M, N) _ _
        exact r_iret J rfl rfl rfl rfl (by decide) (by decide)
    · refine r_run J 1 (pc' := 26) (lv' := [(0, vR 40), (1, vI x1)]) (st' := [vR 40]) rfl ?_
      refine r_getR J cls12 rfl (k := 75) (t := 14) (by decide) wf_12_148 rfl rfl (ly_40 hL) (lr_40_75 hL) (fun _ => ?_)
      show g_H E 0 0 29 [(0, vR 40), (1, vI x1)] [vR 83] (σ, M, N) _ _
      refine r_run J 3 (pc' := 33) (lv' := [(0, vR 40), (1, vI x1)]) (st' := [vI (x1 - (10 : Int32)), vR 83]) rfl ?_
      refine r_iald J rfl (ly_83 hL) (fun i33 => ?_)
      show g_H E 0 0 34 [(0, vR 40), (1, vI x1)] [vI (M 83 (x1 - (10 : Int32)).toNatClampNeg)] (σ, M, N) _ _
      exact r_iret J rfl rfl rfl rfl (by decide) (by decide)
theorem c_X12_tripOf {l : Launch} (x1 : Int32) (σ : gS) (M : gM) (N : gN) (hL : g_layM σ) (r : Int32) (h : f_X12_tripOf x1 σ M = some r) : g_Ct l yX12_tripOf cX12_tripOf 2 (some .int) 2 0 0 [vR 40, vI x1] (σ, M, N) (eI σ M N r) :=
  g_Ct.of tb_X12_tripOf (by decide +kernel) tk_X12_tripOf (Nat.le_of_ble_eq_true rfl) (fun E J => p_X12_tripOf_0 J x1 σ M N hL r h)
def tb_X12_townAt : gT := [(0, .iconst 0, 1, 0), (1, .istore_n 2, 1, 0), (2, .iload_n 1, 1, 0), (3, .aload_n 0, 1, 0), (4, .getfield 48, 3, 0), (7, .iload_n 2, 1, 0), (8, .iaload, 1, 0), (9, .aload_n 0, 1, 0), (10, .getfield 45, 3, 0), (13, .iload_n 2, 1, 0), (14, .iaload, 1, 0), (15, .iadd, 1, 0), (16, .if_icmp .lt 9, 3, 0), (19, .iinc 2 1, 3, 1), (22, .goto (-20), 3, 0), (25, .iload_n 2, 1, 0), (26, .ireturn, 1, 0)]
set_option maxRecDepth 100000 in
theorem tk_X12_townAt : g_okT cX12_townAt tb_X12_townAt = true := by decide +kernel
abbrev J_X12_townAt (E : gE) (l : Launch) : Prop := g_J E cX12_townAt RX12 "townAt" (some .int) 3 tb_X12_townAt 1 0 0 l
set_option maxHeartbeats 4000000 in
set_option maxRecDepth 100000 in
theorem p_X12_townAt_2 {l : Launch} {E : gE} (J : J_X12_townAt E l) : ∀ (n : Nat) (x1 : Int32) (x2 : Int32) (σ : gS) (M : gM) (N : gN) (hL : g_layM σ), g_H E 0 0 2 [(0, vR 40), (1, vI x1), (2, vI x2)] [] (σ, M, N) (l_X12_townAt_2 n x1 x2 σ M) (eI σ M N) := by
  intro n
  induction n with
  | zero => intros; exact h_none
  | succ n ih =>
    intro x1 x2 σ M N hL
    rw [l_X12_townAt_2]
    refine r_run J 2 (pc' := 4) (lv' := [(0, vR 40), (1, vI x1), (2, vI x2)]) (st' := [vR 40, vI x1]) rfl ?_
    refine r_getR J cls12 rfl (k := 19) (t := 14) (by decide) wf_12_48 rfl rfl (ly_40 hL) (lr_40_19 hL) (fun _ => ?_)
    show g_H E 0 0 7 [(0, vR 40), (1, vI x1), (2, vI x2)] [vR 51, vI x1] (σ, M, N) _ _
    refine r_run J 1 (pc' := 8) (lv' := [(0, vR 40), (1, vI x1), (2, vI x2)]) (st' := [vI x2, vR 51, vI x1]) rfl ?_
    refine r_iald J rfl (ly_51 hL) (fun i8 => ?_)
    show g_H E 0 0 9 [(0, vR 40), (1, vI x1), (2, vI x2)] [vI (M 51 x2.toNatClampNeg), vI x1] (σ, M, N) _ _
    refine r_run J 1 (pc' := 10) (lv' := [(0, vR 40), (1, vI x1), (2, vI x2)]) (st' := [vR 40, vI (M 51 x2.toNatClampNeg), vI x1]) rfl ?_
    refine r_getR J cls12 rfl (k := 18) (t := 14) (by decide) wf_12_45 rfl rfl (ly_40 hL) (lr_40_18 hL) (fun _ => ?_)
    show g_H E 0 0 13 [(0, vR 40), (1, vI x1), (2, vI x2)] [vR 50, vI (M 51 x2.toNatClampNeg), vI x1] (σ, M, N) _ _
    refine r_run J 1 (pc' := 14) (lv' := [(0, vR 40), (1, vI x1), (2, vI x2)]) (st' := [vI x2, vR 50, vI (M 51 x2.toNatClampNeg), vI x1]) rfl ?_
    refine r_iald J rfl (ly_50 hL) (fun i14 => ?_)
    show g_H E 0 0 15 [(0, vR 40), (1, vI x1), (2, vI x2)] [vI (M 50 x2.toNatClampNeg), vI (M 51 x2.toNatClampNeg), vI x1] (σ, M, N) _ _
    refine r_run J 1 (pc' := 16) (lv' := [(0, vR 40), (1, vI x1), (2, vI x2)]) (st' := [vI ((M 51 x2.toNatClampNeg) + (M 50 x2.toNatClampNeg)), vI x1]) rfl ?_
    refine r_icmp_lt J (tgt := 25) rfl (by decide) (fun c16 => ?_) (fun c16 => ?_)
    · refine r_run J 1 (pc' := 26) (lv' := [(0, vR 40), (1, vI x1), (2, vI x2)]) (st' := [vI x2]) rfl ?_
      exact r_iret J rfl rfl rfl rfl (by decide) (by decide)
    · refine r_run J 2 (pc' := 2) (lv' := [(2, vI (x2 + 1)), (0, vR 40), (1, vI x1)]) (st' := []) rfl ?_
      refine r_sub [1, 2, 0] (lv' := [(0, vR 40), (1, vI x1), (2, vI (x2 + 1))]) rfl ?_
      exact ih x1 (x2 + 1) σ M N hL
set_option maxHeartbeats 4000000 in
set_option maxRecDepth 100000 in
theorem p_X12_townAt_0 {l : Launch} {E : gE} (J : J_X12_townAt E l) (x1 : Int32) (σ : gS) (M : gM) (N : gN) (hL : g_layM σ) : g_H E 0 0 0 [(0, vR 40), (1, vI x1)] [] (σ, M, N) (b_X12_townAt_0 x1 σ M) (eI σ M N) := by
  unfold b_X12_townAt_0
  refine r_run J 2 (pc' := 2) (lv' := [(2, vI 0), (0, vR 40), (1, vI x1)]) (st' := []) rfl ?_
  refine r_sub [1, 2, 0] (lv' := [(0, vR 40), (1, vI x1), (2, vI 0)]) rfl ?_
  exact p_X12_townAt_2 J g_FU x1 0 σ M N hL
theorem c_X12_townAt {l : Launch} (x1 : Int32) (σ : gS) (M : gM) (N : gN) (hL : g_layM σ) (r : Int32) (h : f_X12_townAt x1 σ M = some r) : g_Ct l yX12_townAt cX12_townAt 3 (some .int) 1 0 0 [vR 40, vI x1] (σ, M, N) (eI σ M N r) :=
  g_Ct.of tb_X12_townAt (by decide +kernel) tk_X12_townAt (Nat.le_of_ble_eq_true rfl) (fun E J => p_X12_townAt_0 J x1 σ M N hL r h)
def tb_X12_owes : gT := [(0, .aload_n 0, 1, 0), (1, .getfield 87, 3, 0), (4, .iload_n 2, 1, 0), (5, .dup2, 1, 0), (6, .iaload, 1, 0), (7, .aload_n 0, 1, 0), (8, .getfield 78, 3, 0), (11, .bipush 10, 2, 10), (13, .iload_n 1, 1, 0), (14, .imul, 1, 0), (15, .iload_n 2, 1, 0), (16, .iadd, 1, 0), (17, .baload, 1, 0), (18, .ifCond .eq 15, 3, 0), (21, .iload_n 3, 1, 0), (22, .iload_n 3, 1, 0), (23, .iload 4, 2, 0), (25, .imul, 1, 0), (26, .bipush 100, 2, 100), (28, .idiv, 1, 0), (29, .isub, 1, 0), (30, .goto 4, 3, 0), (33, .iload_n 3, 1, 0), (34, .iadd, 1, 0), (35, .iastore, 1, 0), (36, .return_, 1, 0)]
set_option maxRecDepth 100000 in
theorem tk_X12_owes : g_okT cX12_owes tb_X12_owes = true := by decide +kernel
abbrev J_X12_owes (E : gE) (l : Launch) : Prop := g_J E cX12_owes RX12 "owes" none 5 tb_X12_owes 1 0 0 l
set_option maxHeartbeats 4000000 in
set_option maxRecDepth 100000 in
theorem p_X12_owes_34 {l : Launch} {E : gE} (J : J_X12_owes E l) (sx0 : Int32) (sx1 : Int32) (sx2 : Int32) (σ : gS) (M : gM) (N : gN) (hL : g_layM σ) : g_H E 0 0 34 [] [vI sx0, vI sx1, vI sx2, vR 64] (σ, M, N) (b_X12_owes_34 sx0 sx1 sx2 σ M) (eVM σ N) := by
  unfold b_X12_owes_34
  refine r_run J 1 (pc' := 35) (lv' := []) (st' := [vI (sx1 + sx0), vI sx2, vR 64]) rfl ?_
  refine r_iast J rfl (ly_64 hL) (fun i35 => ?_)
  show g_H E 0 0 36 [] [] (σ, (g_up M 64 (sx2.toNatClampNeg) (sx1 + sx0)), N) _ _
  exact r_vret J rfl rfl rfl (by decide) (by decide)
set_option maxHeartbeats 4000000 in
set_option maxRecDepth 100000 in
theorem p_X12_owes_0 {l : Launch} {E : gE} (J : J_X12_owes E l) (x1 : Int32) (x2 : Int32) (x3 : Int32) (x4 : Int32) (σ : gS) (M : gM) (N : gN) (hL : g_layM σ) : g_H E 0 0 0 [(0, vR 40), (1, vI x1), (2, vI x2), (3, vI x3), (4, vI x4)] [] (σ, M, N) (b_X12_owes_0 x1 x2 x3 x4 σ M) (eVM σ N) := by
  unfold b_X12_owes_0
  refine r_run J 1 (pc' := 1) (lv' := [(0, vR 40), (1, vI x1), (2, vI x2), (3, vI x3), (4, vI x4)]) (st' := [vR 40]) rfl ?_
  refine r_getR J cls12 rfl (k := 33) (t := 14) (by decide) wf_12_87 rfl rfl (ly_40 hL) (lr_40_33 hL) (fun _ => ?_)
  show g_H E 0 0 4 [(0, vR 40), (1, vI x1), (2, vI x2), (3, vI x3), (4, vI x4)] [vR 64] (σ, M, N) _ _
  refine r_run J 2 (pc' := 6) (lv' := [(0, vR 40), (1, vI x1), (2, vI x2), (3, vI x3), (4, vI x4)]) (st' := [vI x2, vR 64, vI x2, vR 64]) rfl ?_
  refine r_iald J rfl (ly_64 hL) (fun i6 => ?_)
  show g_H E 0 0 7 [(0, vR 40), (1, vI x1), (2, vI x2), (3, vI x3), (4, vI x4)] [vI (M 64 x2.toNatClampNeg), vI x2, vR 64] (σ, M, N) _ _
  refine r_run J 1 (pc' := 8) (lv' := [(0, vR 40), (1, vI x1), (2, vI x2), (3, vI x3), (4, vI x4)]) (st' := [vR 40, vI (M 64 x2.toNatClampNeg), vI x2, vR 64]) rfl ?_
  refine r_getR J cls12 rfl (k := 30) (t := 15) (by decide) wf_12_78 rfl rfl (ly_40 hL) (lr_40_30 hL) (fun _ => ?_)
  show g_H E 0 0 11 [(0, vR 40), (1, vI x1), (2, vI x2), (3, vI x3), (4, vI x4)] [vR 61, vI (M 64 x2.toNatClampNeg), vI x2, vR 64] (σ, M, N) _ _
  refine r_run J 5 (pc' := 17) (lv' := [(0, vR 40), (1, vI x1), (2, vI x2), (3, vI x3), (4, vI x4)]) (st' := [vI (((10 : Int32) * x1) + x2), vR 61, vI (M 64 x2.toNatClampNeg), vI x2, vR 64]) rfl ?_
  refine r_zald J rfl (ly_61 hL) (fun i17 => ?_)
  show g_H E 0 0 18 [(0, vR 40), (1, vI x1), (2, vI x2), (3, vI x3), (4, vI x4)] [vI (M 61 (((10 : Int32) * x1) + x2).toNatClampNeg), vI (M 64 x2.toNatClampNeg), vI x2, vR 64] (σ, M, N) _ _
  refine r_if_eq J (tgt := 33) rfl (by decide) (fun c18 => ?_) (fun c18 => ?_)
  · refine r_run J 1 (pc' := 34) (lv' := [(0, vR 40), (1, vI x1), (2, vI x2), (3, vI x3), (4, vI x4)]) (st' := [vI x3, vI (M 64 x2.toNatClampNeg), vI x2, vR 64]) rfl ?_
    refine r_sub [] (lv' := []) rfl ?_
    exact p_X12_owes_34 J x3 (M 64 x2.toNatClampNeg) x2 σ M N hL
  · refine r_run J 5 (pc' := 28) (lv' := [(0, vR 40), (1, vI x1), (2, vI x2), (3, vI x3), (4, vI x4)]) (st' := [vI 100, vI (x3 * x4), vI x3, vI (M 64 x2.toNatClampNeg), vI x2, vR 64]) rfl ?_
    refine r_idiv J rfl (fun c28 => ?_)
    refine r_run J 2 (pc' := 34) (lv' := [(0, vR 40), (1, vI x1), (2, vI x2), (3, vI x3), (4, vI x4)]) (st' := [vI (x3 - ((x3 * x4) / (100 : Int32))), vI (M 64 x2.toNatClampNeg), vI x2, vR 64]) rfl ?_
    refine r_sub [] (lv' := []) rfl ?_
    exact p_X12_owes_34 J (x3 - ((x3 * x4) / (100 : Int32))) (M 64 x2.toNatClampNeg) x2 σ M N hL
theorem c_X12_owes {l : Launch} (x1 : Int32) (x2 : Int32) (x3 : Int32) (x4 : Int32) (σ : gS) (M : gM) (N : gN) (hL : g_layM σ) (r : gM) (h : f_X12_owes x1 x2 x3 x4 σ M = some r) : g_Ct l yX12_owes cX12_owes 5 none 1 0 0 [vR 40, vI x1, vI x2, vI x3, vI x4] (σ, M, N) (eVM σ N r) :=
  g_Ct.of tb_X12_owes (by decide +kernel) tk_X12_owes (Nat.le_of_ble_eq_true rfl) (fun E J => p_X12_owes_0 J x1 x2 x3 x4 σ M N hL r h)
def tb_X12_billOf : gT := [(0, .aload_n 0, 1, 0), (1, .iload_n 1, 1, 0), (2, .iconst 3, 1, 3), (3, .invokevirtual 387, 3, 0), (6, .istore_n 2, 1, 0), (7, .iconst 0, 1, 0), (8, .istore_n 3, 1, 0), (9, .iconst 0, 1, 0), (10, .istore 4, 2, 0), (12, .iload 4, 2, 0), (14, .aload_n 0, 1, 0), (15, .getfield 51, 3, 0), (18, .iload_n 1, 1, 0), (19, .iaload, 1, 0), (20, .if_icmp .ge 31, 3, 0), (23, .aload_n 0, 1, 0), (24, .getfield 154, 3, 0), (27, .iload 4, 2, 0), (29, .aload_n 0, 1, 0), (30, .iload_n 1, 1, 0), (31, .iload 4, 2, 0), (33, .invokevirtual 211, 3, 0), (36, .ifCond .ne 7, 3, 0), (39, .iconst 1, 1, 1), (40, .goto 4, 3, 0), (43, .iconst 0, 1, 0), (44, .bastore, 1, 0), (45, .iinc 4 1, 3, 1), (48, .goto (-36), 3, 0), (51, .iconst 0, 1, 0), (52, .istore 4, 2, 0), (54, .iload 4, 2, 0), (56, .iload_n 2, 1, 0), (57, .if_icmp .ge 96, 3, 0), (60, .iconst (-1), 1, (-1)), (61, .istore 5, 2, 0), (63, .iconst 0, 1, 0), (64, .istore 6, 2, 0), (66, .iload 6, 2, 0), (68, .aload_n 0, 1, 0), (69, .getfield 51, 3, 0), (72, .iload_n 1, 1, 0), (73, .iaload, 1, 0), (74, .if_icmp .ge 56, 3, 0), (77, .aload_n 0, 1, 0), (78, .getfield 154, 3, 0), (81, .iload 6, 2, 0), (83, .baload, 1, 0), (84, .ifCond .ne 40, 3, 0), (87, .iload 5, 2, 0), (89, .iconst (-1), 1, (-1)), (90, .if_icmp .eq 30, 3, 0), (93, .aload_n 0, 1, 0), (94, .getfield 60, 3, 0), (97, .bipush 10, 2, 10), (99, .iload_n 1, 1, 0), (100, .imul, 1, 0), (101, .iload 6, 2, 0), (103, .iadd, 1, 0), (104, .iaload, 1, 0), (105, .aload_n 0, 1, 0), (106, .getfield 60, 3, 0), (109, .bipush 10, 2, 10), (111, .iload_n 1, 1, 0), (112, .imul, 1, 0), (113, .iload 5, 2, 0), (115, .iadd, 1, 0), (116, .iaload, 1, 0), (117, .if_icmp .ge 7, 3, 0), (120, .iload 6, 2, 0), (122, .istore 5, 2, 0), (124, .iinc 6 1, 3, 1), (127, .goto (-61), 3, 0), (130, .iload 5, 2, 0), (132, .iconst (-1), 1, (-1)), (133, .if_icmp .ne 6, 3, 0), (136, .goto 17, 3, 0), (139, .aload_n 0, 1, 0), (140, .getfield 154, 3, 0), (143, .iload 5, 2, 0), (145, .iconst 1, 1, 1), (146, .bastore, 1, 0), (147, .iinc 4 1, 3, 1), (150, .goto (-96), 3, 0), (153, .iconst 0, 1, 0), (154, .istore 4, 2, 0), (156, .iload 4, 2, 0), (158, .aload_n 0, 1, 0), (159, .getfield 51, 3, 0), (162, .iload_n 1, 1, 0), (163, .iaload, 1, 0), (164, .if_icmp .ge 38, 3, 0), (167, .iload_n 3, 1, 0), (168, .aload_n 0, 1, 0), (169, .getfield 154, 3, 0), (172, .iload 4, 2, 0), (174, .baload, 1, 0), (175, .ifCond .eq 7, 3, 0), (178, .iconst 0, 1, 0), (179, .goto 15, 3, 0), (182, .aload_n 0, 1, 0), (183, .getfield 60, 3, 0), (186, .bipush 10, 2, 10), (188, .iload_n 1, 1, 0), (189, .imul, 1, 0), (190, .iload 4, 2, 0), (192, .iadd, 1, 0), (193, .iaload, 1, 0), (194, .iadd, 1, 0), (195, .istore_n 3, 1, 0), (196, .iinc 4 1, 3, 1), (199, .goto (-43), 3, 0), (202, .iload_n 3, 1, 0), (203, .ireturn, 1, 0)]
set_option maxRecDepth 100000 in
theorem tk_X12_billOf : g_okT cX12_billOf tb_X12_billOf = true := by decide +kernel
abbrev J_X12_billOf (E : gE) (l : Launch) : Prop := g_J E cX12_billOf RX12 "billOf" (some .int) 7 tb_X12_billOf 71 0 0 l
set_option maxHeartbeats 4000000 in
set_option maxRecDepth 100000 in
theorem p_X12_billOf_194 {l : Launch} {E : gE} (J : J_X12_billOf E l) {k156 : Int32 → Int32 → Int32 → gS → gM → gN → Option (Int32 × gM × gN)} (H156 : ∀ (x1 : Int32) (x3 : Int32) (x4 : Int32) (σ : gS) (M : gM) (N : gN) (_ : g_layM σ), g_H E 0 0 156 [(0, vR 40), (1, vI x1), (3, vI x3), (4, vI x4)] [] (σ, M, N) (k156 x1 x3 x4 σ M N) (eIMN σ)) (x1 : Int32) (x4 : Int32) (sx0 : Int32) (sx1 : Int32) (σ : gS) (M : gM) (N : gN) (hL : g_layM σ) : g_H E 0 0 194 [(0, vR 40), (1, vI x1), (4, vI x4)] [vI sx0, vI sx1] (σ, M, N) (b_X12_billOf_194 k156 x1 x4 sx0 sx1 σ M N) (eIMN σ) := by
  unfold b_X12_billOf_194
  refine r_run J 4 (pc' := 156) (lv' := [(4, vI (x4 + 1)), (3, vI (sx1 + sx0)), (0, vR 40), (1, vI x1)]) (st' := []) rfl ?_
  refine r_sub [2, 3, 1, 0] (lv' := [(0, vR 40), (1, vI x1), (3, vI (sx1 + sx0)), (4, vI (x4 + 1))]) rfl ?_
  exact H156 x1 (sx1 + sx0) (x4 + 1) σ M N hL
set_option maxHeartbeats 4000000 in
set_option maxRecDepth 100000 in
theorem p_X12_billOf_156 {l : Launch} {E : gE} (J : J_X12_billOf E l) : ∀ (n : Nat) (x1 : Int32) (x3 : Int32) (x4 : Int32) (σ : gS) (M : gM) (N : gN) (hL : g_layM σ), g_H E 0 0 156 [(0, vR 40), (1, vI x1), (3, vI x3), (4, vI x4)] [] (σ, M, N) (l_X12_billOf_156 n x1 x3 x4 σ M N) (eIMN σ) := by
  intro n
  induction n with
  | zero => intros; exact h_none
  | succ n ih =>
    intro x1 x3 x4 σ M N hL
    rw [l_X12_billOf_156]
    refine r_run J 2 (pc' := 159) (lv' := [(0, vR 40), (1, vI x1), (3, vI x3), (4, vI x4)]) (st' := [vR 40, vI x4]) rfl ?_
    refine r_getR J cls12 rfl (k := 20) (t := 14) (by decide) wf_12_51 rfl rfl (ly_40 hL) (lr_40_20 hL) (fun _ => ?_)
    show g_H E 0 0 162 [(0, vR 40), (1, vI x1), (3, vI x3), (4, vI x4)] [vR 52, vI x4] (σ, M, N) _ _
    refine r_run J 1 (pc' := 163) (lv' := [(0, vR 40), (1, vI x1), (3, vI x3), (4, vI x4)]) (st' := [vI x1, vR 52, vI x4]) rfl ?_
    refine r_iald J rfl (ly_52 hL) (fun i163 => ?_)
    show g_H E 0 0 164 [(0, vR 40), (1, vI x1), (3, vI x3), (4, vI x4)] [vI (M 52 x1.toNatClampNeg), vI x4] (σ, M, N) _ _
    refine r_icmp_ge J (tgt := 202) rfl (by decide) (fun c164 => ?_) (fun c164 => ?_)
    · refine r_run J 2 (pc' := 169) (lv' := [(0, vR 40), (1, vI x1), (3, vI x3), (4, vI x4)]) (st' := [vR 40, vI x3]) rfl ?_
      refine r_getR J cls12 rfl (k := 77) (t := 15) (by decide) wf_12_154 rfl rfl (ly_40 hL) (lr_40_77 hL) (fun _ => ?_)
      show g_H E 0 0 172 [(0, vR 40), (1, vI x1), (3, vI x3), (4, vI x4)] [vR 85, vI x3] (σ, M, N) _ _
      refine r_run J 1 (pc' := 174) (lv' := [(0, vR 40), (1, vI x1), (3, vI x3), (4, vI x4)]) (st' := [vI x4, vR 85, vI x3]) rfl ?_
      refine r_zald J rfl (ly_85 hL) (fun i174 => ?_)
      show g_H E 0 0 175 [(0, vR 40), (1, vI x1), (3, vI x3), (4, vI x4)] [vI (M 85 x4.toNatClampNeg), vI x3] (σ, M, N) _ _
      refine r_if_eq J (tgt := 182) rfl (by decide) (fun c175 => ?_) (fun c175 => ?_)
      · refine r_run J 1 (pc' := 183) (lv' := [(0, vR 40), (1, vI x1), (3, vI x3), (4, vI x4)]) (st' := [vR 40, vI x3]) rfl ?_
        refine r_getR J cls12 rfl (k := 23) (t := 14) (by decide) wf_12_60 rfl rfl (ly_40 hL) (lr_40_23 hL) (fun _ => ?_)
        show g_H E 0 0 186 [(0, vR 40), (1, vI x1), (3, vI x3), (4, vI x4)] [vR 55, vI x3] (σ, M, N) _ _
        refine r_run J 5 (pc' := 193) (lv' := [(0, vR 40), (1, vI x1), (3, vI x3), (4, vI x4)]) (st' := [vI (((10 : Int32) * x1) + x4), vR 55, vI x3]) rfl ?_
        refine r_iald J rfl (ly_55 hL) (fun i193 => ?_)
        show g_H E 0 0 194 [(0, vR 40), (1, vI x1), (3, vI x3), (4, vI x4)] [vI (M 55 (((10 : Int32) * x1) + x4).toNatClampNeg), vI x3] (σ, M, N) _ _
        refine r_sub [0, 1, 3] (lv' := [(0, vR 40), (1, vI x1), (4, vI x4)]) rfl ?_
        exact p_X12_billOf_194 J ih x1 x4 (M 55 (((10 : Int32) * x1) + x4).toNatClampNeg) x3 σ M N hL
      · refine r_run J 2 (pc' := 194) (lv' := [(0, vR 40), (1, vI x1), (3, vI x3), (4, vI x4)]) (st' := [vI 0, vI x3]) rfl ?_
        refine r_sub [0, 1, 3] (lv' := [(0, vR 40), (1, vI x1), (4, vI x4)]) rfl ?_
        exact p_X12_billOf_194 J ih x1 x4 0 x3 σ M N hL
    · refine r_run J 1 (pc' := 203) (lv' := [(0, vR 40), (1, vI x1), (3, vI x3), (4, vI x4)]) (st' := [vI x3]) rfl ?_
      exact r_iret J rfl rfl rfl rfl (by decide) (by decide)
set_option maxHeartbeats 4000000 in
set_option maxRecDepth 100000 in
theorem p_X12_billOf_153 {l : Launch} {E : gE} (J : J_X12_billOf E l) (x1 : Int32) (x3 : Int32) (σ : gS) (M : gM) (N : gN) (hL : g_layM σ) : g_H E 0 0 153 [(0, vR 40), (1, vI x1), (3, vI x3)] [] (σ, M, N) (b_X12_billOf_153 x1 x3 σ M N) (eIMN σ) := by
  unfold b_X12_billOf_153
  refine r_run J 2 (pc' := 156) (lv' := [(4, vI 0), (0, vR 40), (1, vI x1), (3, vI x3)]) (st' := []) rfl ?_
  refine r_sub [1, 2, 3, 0] (lv' := [(0, vR 40), (1, vI x1), (3, vI x3), (4, vI 0)]) rfl ?_
  exact p_X12_billOf_156 J g_FU x1 x3 0 σ M N hL
set_option maxHeartbeats 4000000 in
set_option maxRecDepth 100000 in
theorem p_X12_billOf_124 {l : Launch} {E : gE} (J : J_X12_billOf E l) {k54 : Int32 → Int32 → Int32 → Int32 → gS → gM → gN → Option (Int32 × gM × gN)} (H54 : ∀ (x1 : Int32) (x2 : Int32) (x3 : Int32) (x4 : Int32) (σ : gS) (M : gM) (N : gN) (_ : g_layM σ), g_H E 0 0 54 [(0, vR 40), (1, vI x1), (2, vI x2), (3, vI x3), (4, vI x4)] [] (σ, M, N) (k54 x1 x2 x3 x4 σ M N) (eIMN σ)) {k66 : Int32 → Int32 → Int32 → Int32 → Int32 → Int32 → gS → gM → gN → Option (Int32 × gM × gN)} (H66 : ∀ (x1 : Int32) (x2 : Int32) (x3 : Int32) (x4 : Int32) (x5 : Int32) (x6 : Int32) (σ : gS) (M : gM) (N : gN) (_ : g_layM σ), g_H E 0 0 66 [(0, vR 40), (1, vI x1), (2, vI x2), (3, vI x3), (4, vI x4), (5, vI x5), (6, vI x6)] [] (σ, M, N) (k66 x1 x2 x3 x4 x5 x6 σ M N) (eIMN σ)) (x1 : Int32) (x2 : Int32) (x3 : Int32) (x4 : Int32) (x5 : Int32) (x6 : Int32) (σ : gS) (M : gM) (N : gN) (hL : g_layM σ) : g_H E 0 0 124 [(0, vR 40), (1, vI x1), (2, vI x2), (3, vI x3), (4, vI x4), (5, vI x5), (6, vI x6)] [] (σ, M, N) (b_X12_billOf_124 k54 k66 x1 x2 x3 x4 x5 x6 σ M N) (eIMN σ) := by
  unfold b_X12_billOf_124
  refine r_run J 2 (pc' := 66) (lv' := [(6, vI (x6 + 1)), (0, vR 40), (1, vI x1), (2, vI x2), (3, vI x3), (4, vI x4), (5, vI x5)]) (st' := []) rfl ?_
  refine r_sub [1, 2, 3, 4, 5, 6, 0] (lv' := [(0, vR 40), (1, vI x1), (2, vI x2), (3, vI x3), (4, vI x4), (5, vI x5), (6, vI (x6 + 1))]) rfl ?_
  exact H66 x1 x2 x3 x4 x5 (x6 + 1) σ M N hL
set_option maxHeartbeats 4000000 in
set_option maxRecDepth 100000 in
theorem p_X12_billOf_120 {l : Launch} {E : gE} (J : J_X12_billOf E l) {k54 : Int32 → Int32 → Int32 → Int32 → gS → gM → gN → Option (Int32 × gM × gN)} (H54 : ∀ (x1 : Int32) (x2 : Int32) (x3 : Int32) (x4 : Int32) (σ : gS) (M : gM) (N : gN) (_ : g_layM σ), g_H E 0 0 54 [(0, vR 40), (1, vI x1), (2, vI x2), (3, vI x3), (4, vI x4)] [] (σ, M, N) (k54 x1 x2 x3 x4 σ M N) (eIMN σ)) {k66 : Int32 → Int32 → Int32 → Int32 → Int32 → Int32 → gS → gM → gN → Option (Int32 × gM × gN)} (H66 : ∀ (x1 : Int32) (x2 : Int32) (x3 : Int32) (x4 : Int32) (x5 : Int32) (x6 : Int32) (σ : gS) (M : gM) (N : gN) (_ : g_layM σ), g_H E 0 0 66 [(0, vR 40), (1, vI x1), (2, vI x2), (3, vI x3), (4, vI x4), (5, vI x5), (6, vI x6)] [] (σ, M, N) (k66 x1 x2 x3 x4 x5 x6 σ M N) (eIMN σ)) (x1 : Int32) (x2 : Int32) (x3 : Int32) (x4 : Int32) (x6 : Int32) (σ : gS) (M : gM) (N : gN) (hL : g_layM σ) : g_H E 0 0 120 [(0, vR 40), (1, vI x1), (2, vI x2), (3, vI x3), (4, vI x4), (6, vI x6)] [] (σ, M, N) (b_X12_billOf_120 k54 k66 x1 x2 x3 x4 x6 σ M N) (eIMN σ) := by
  unfold b_X12_billOf_120
  refine r_run J 2 (pc' := 124) (lv' := [(5, vI x6), (0, vR 40), (1, vI x1), (2, vI x2), (3, vI x3), (4, vI x4), (6, vI x6)]) (st' := []) rfl ?_
  refine r_sub [1, 2, 3, 4, 5, 0, 6] (lv' := [(0, vR 40), (1, vI x1), (2, vI x2), (3, vI x3), (4, vI x4), (5, vI x6), (6, vI x6)]) rfl ?_
  exact p_X12_billOf_124 J H54 H66 x1 x2 x3 x4 x6 x6 σ M N hL
set_option maxHeartbeats 4000000 in
set_option maxRecDepth 100000 in
theorem p_X12_billOf_66 {l : Launch} {E : gE} (J : J_X12_billOf E l) {k54 : Int32 → Int32 → Int32 → Int32 → gS → gM → gN → Option (Int32 × gM × gN)} (H54 : ∀ (x1 : Int32) (x2 : Int32) (x3 : Int32) (x4 : Int32) (σ : gS) (M : gM) (N : gN) (_ : g_layM σ), g_H E 0 0 54 [(0, vR 40), (1, vI x1), (2, vI x2), (3, vI x3), (4, vI x4)] [] (σ, M, N) (k54 x1 x2 x3 x4 σ M N) (eIMN σ)) : ∀ (n : Nat) (x1 : Int32) (x2 : Int32) (x3 : Int32) (x4 : Int32) (x5 : Int32) (x6 : Int32) (σ : gS) (M : gM) (N : gN) (hL : g_layM σ), g_H E 0 0 66 [(0, vR 40), (1, vI x1), (2, vI x2), (3, vI x3), (4, vI x4), (5, vI x5), (6, vI x6)] [] (σ, M, N) (l_X12_billOf_66 k54 n x1 x2 x3 x4 x5 x6 σ M N) (eIMN σ) := by
  intro n
  induction n with
  | zero => intros; exact h_none
  | succ n ih =>
    intro x1 x2 x3 x4 x5 x6 σ M N hL
    rw [l_X12_billOf_66]
    refine r_run J 2 (pc' := 69) (lv' := [(0, vR 40), (1, vI x1), (2, vI x2), (3, vI x3), (4, vI x4), (5, vI x5), (6, vI x6)]) (st' := [vR 40, vI x6]) rfl ?_
    refine r_getR J cls12 rfl (k := 20) (t := 14) (by decide) wf_12_51 rfl rfl (ly_40 hL) (lr_40_20 hL) (fun _ => ?_)
    show g_H E 0 0 72 [(0, vR 40), (1, vI x1), (2, vI x2), (3, vI x3), (4, vI x4), (5, vI x5), (6, vI x6)] [vR 52, vI x6] (σ, M, N) _ _
    refine r_run J 1 (pc' := 73) (lv' := [(0, vR 40), (1, vI x1), (2, vI x2), (3, vI x3), (4, vI x4), (5, vI x5), (6, vI x6)]) (st' := [vI x1, vR 52, vI x6]) rfl ?_
    refine r_iald J rfl (ly_52 hL) (fun i73 => ?_)
    show g_H E 0 0 74 [(0, vR 40), (1, vI x1), (2, vI x2), (3, vI x3), (4, vI x4), (5, vI x5), (6, vI x6)] [vI (M 52 x1.toNatClampNeg), vI x6] (σ, M, N) _ _
    refine r_icmp_ge J (tgt := 130) rfl (by decide) (fun c74 => ?_) (fun c74 => ?_)
    · refine r_run J 1 (pc' := 78) (lv' := [(0, vR 40), (1, vI x1), (2, vI x2), (3, vI x3), (4, vI x4), (5, vI x5), (6, vI x6)]) (st' := [vR 40]) rfl ?_
      refine r_getR J cls12 rfl (k := 77) (t := 15) (by decide) wf_12_154 rfl rfl (ly_40 hL) (lr_40_77 hL) (fun _ => ?_)
      show g_H E 0 0 81 [(0, vR 40), (1, vI x1), (2, vI x2), (3, vI x3), (4, vI x4), (5, vI x5), (6, vI x6)] [vR 85] (σ, M, N) _ _
      refine r_run J 1 (pc' := 83) (lv' := [(0, vR 40), (1, vI x1), (2, vI x2), (3, vI x3), (4, vI x4), (5, vI x5), (6, vI x6)]) (st' := [vI x6, vR 85]) rfl ?_
      refine r_zald J rfl (ly_85 hL) (fun i83 => ?_)
      show g_H E 0 0 84 [(0, vR 40), (1, vI x1), (2, vI x2), (3, vI x3), (4, vI x4), (5, vI x5), (6, vI x6)] [vI (M 85 x6.toNatClampNeg)] (σ, M, N) _ _
      refine r_if_ne J (tgt := 124) rfl (by decide) (fun c84 => ?_) (fun c84 => ?_)
      · refine r_run J 2 (pc' := 90) (lv' := [(0, vR 40), (1, vI x1), (2, vI x2), (3, vI x3), (4, vI x4), (5, vI x5), (6, vI x6)]) (st' := [vI (-1), vI x5]) rfl ?_
        refine r_icmp_eq J (tgt := 120) rfl (by decide) (fun c90 => ?_) (fun c90 => ?_)
        · refine r_sub [0, 1, 2, 3, 4, 6] (lv' := [(0, vR 40), (1, vI x1), (2, vI x2), (3, vI x3), (4, vI x4), (6, vI x6)]) rfl ?_
          exact p_X12_billOf_120 J H54 ih x1 x2 x3 x4 x6 σ M N hL
        · refine r_run J 1 (pc' := 94) (lv' := [(0, vR 40), (1, vI x1), (2, vI x2), (3, vI x3), (4, vI x4), (5, vI x5), (6, vI x6)]) (st' := [vR 40]) rfl ?_
          refine r_getR J cls12 rfl (k := 23) (t := 14) (by decide) wf_12_60 rfl rfl (ly_40 hL) (lr_40_23 hL) (fun _ => ?_)
          show g_H E 0 0 97 [(0, vR 40), (1, vI x1), (2, vI x2), (3, vI x3), (4, vI x4), (5, vI x5), (6, vI x6)] [vR 55] (σ, M, N) _ _
          refine r_run J 5 (pc' := 104) (lv' := [(0, vR 40), (1, vI x1), (2, vI x2), (3, vI x3), (4, vI x4), (5, vI x5), (6, vI x6)]) (st' := [vI (((10 : Int32) * x1) + x6), vR 55]) rfl ?_
          refine r_iald J rfl (ly_55 hL) (fun i104 => ?_)
          show g_H E 0 0 105 [(0, vR 40), (1, vI x1), (2, vI x2), (3, vI x3), (4, vI x4), (5, vI x5), (6, vI x6)] [vI (M 55 (((10 : Int32) * x1) + x6).toNatClampNeg)] (σ, M, N) _ _
          refine r_run J 1 (pc' := 106) (lv' := [(0, vR 40), (1, vI x1), (2, vI x2), (3, vI x3), (4, vI x4), (5, vI x5), (6, vI x6)]) (st' := [vR 40, vI (M 55 (((10 : Int32) * x1) + x6).toNatClampNeg)]) rfl ?_
          refine r_getR J cls12 rfl (k := 23) (t := 14) (by decide) wf_12_60 rfl rfl (ly_40 hL) (lr_40_23 hL) (fun _ => ?_)
          show g_H E 0 0 109 [(0, vR 40), (1, vI x1), (2, vI x2), (3, vI x3), (4, vI x4), (5, vI x5), (6, vI x6)] [vR 55, vI (M 55 (((10 : Int32) * x1) + x6).toNatClampNeg)] (σ, M, N) _ _
          refine r_run J 5 (pc' := 116) (lv' := [(0, vR 40), (1, vI x1), (2, vI x2), (3, vI x3), (4, vI x4), (5, vI x5), (6, vI x6)]) (st' := [vI (((10 : Int32) * x1) + x5), vR 55, vI (M 55 (((10 : Int32) * x1) + x6).toNatClampNeg)]) rfl ?_
          refine r_iald J rfl (ly_55 hL) (fun i116 => ?_)
          show g_H E 0 0 117 [(0, vR 40), (1, vI x1), (2, vI x2), (3, vI x3), (4, vI x4), (5, vI x5), (6, vI x6)] [vI (M 55 (((10 : Int32) * x1) + x5).toNatClampNeg), vI (M 55 (((10 : Int32) * x1) + x6).toNatClampNeg)] (σ, M, N) _ _
          refine r_icmp_ge J (tgt := 124) rfl (by decide) (fun c117 => ?_) (fun c117 => ?_)
          · refine r_sub [0, 1, 2, 3, 4, 6] (lv' := [(0, vR 40), (1, vI x1), (2, vI x2), (3, vI x3), (4, vI x4), (6, vI x6)]) rfl ?_
            exact p_X12_billOf_120 J H54 ih x1 x2 x3 x4 x6 σ M N hL
          · exact p_X12_billOf_124 J H54 ih x1 x2 x3 x4 x5 x6 σ M N hL
      · exact p_X12_billOf_124 J H54 ih x1 x2 x3 x4 x5 x6 σ M N hL
    · refine r_run J 2 (pc' := 133) (lv' := [(0, vR 40), (1, vI x1), (2, vI x2), (3, vI x3), (4, vI x4), (5, vI x5), (6, vI x6)]) (st' := [vI (-1), vI x5]) rfl ?_
      refine r_icmp_ne J (tgt := 139) rfl (by decide) (fun c133 => ?_) (fun c133 => ?_)
      · refine r_run J 1 (pc' := 153) (lv' := [(0, vR 40), (1, vI x1), (2, vI x2), (3, vI x3), (4, vI x4), (5, vI x5), (6, vI x6)]) (st' := []) rfl ?_
        refine r_sub [0, 1, 3] (lv' := [(0, vR 40), (1, vI x1), (3, vI x3)]) rfl ?_
        exact p_X12_billOf_153 J x1 x3 σ M N hL
      · refine r_run J 1 (pc' := 140) (lv' := [(0, vR 40), (1, vI x1), (2, vI x2), (3, vI x3), (4, vI x4), (5, vI x5), (6, vI x6)]) (st' := [vR 40]) rfl ?_
        refine r_getR J cls12 rfl (k := 77) (t := 15) (by decide) wf_12_154 rfl rfl (ly_40 hL) (lr_40_77 hL) (fun _ => ?_)
        show g_H E 0 0 143 [(0, vR 40), (1, vI x1), (2, vI x2), (3, vI x3), (4, vI x4), (5, vI x5), (6, vI x6)] [vR 85] (σ, M, N) _ _
        refine r_run J 2 (pc' := 146) (lv' := [(0, vR 40), (1, vI x1), (2, vI x2), (3, vI x3), (4, vI x4), (5, vI x5), (6, vI x6)]) (st' := [vI 1, vI x5, vR 85]) rfl ?_
        refine r_zast J rfl (ly_85 hL) (fun i146 => ?_)
        show g_H E 0 0 147 [(0, vR 40), (1, vI x1), (2, vI x2), (3, vI x3), (4, vI x4), (5, vI x5), (6, vI x6)] [] (σ, (g_up M 85 (x5.toNatClampNeg) (vp_nar .boolean 1)), N) _ _
        refine r_run J 2 (pc' := 54) (lv' := [(4, vI (x4 + 1)), (0, vR 40), (1, vI x1), (2, vI x2), (3, vI x3), (5, vI x5), (6, vI x6)]) (st' := []) rfl ?_
        refine r_sub [1, 2, 3, 4, 0] (lv' := [(0, vR 40), (1, vI x1), (2, vI x2), (3, vI x3), (4, vI (x4 + 1))]) rfl ?_
        exact H54 x1 x2 x3 (x4 + 1) σ (g_up M 85 (x5.toNatClampNeg) (vp_nar .boolean 1)) N hL
set_option maxHeartbeats 4000000 in
set_option maxRecDepth 100000 in
theorem p_X12_billOf_54 {l : Launch} {E : gE} (J : J_X12_billOf E l) : ∀ (n : Nat) (x1 : Int32) (x2 : Int32) (x3 : Int32) (x4 : Int32) (σ : gS) (M : gM) (N : gN) (hL : g_layM σ), g_H E 0 0 54 [(0, vR 40), (1, vI x1), (2, vI x2), (3, vI x3), (4, vI x4)] [] (σ, M, N) (l_X12_billOf_54 n x1 x2 x3 x4 σ M N) (eIMN σ) := by
  intro n
  induction n with
  | zero => intros; exact h_none
  | succ n ih =>
    intro x1 x2 x3 x4 σ M N hL
    rw [l_X12_billOf_54]
    refine r_run J 2 (pc' := 57) (lv' := [(0, vR 40), (1, vI x1), (2, vI x2), (3, vI x3), (4, vI x4)]) (st' := [vI x2, vI x4]) rfl ?_
    refine r_icmp_ge J (tgt := 153) rfl (by decide) (fun c57 => ?_) (fun c57 => ?_)
    · refine r_run J 4 (pc' := 66) (lv' := [(6, vI 0), (5, vI (-1)), (0, vR 40), (1, vI x1), (2, vI x2), (3, vI x3), (4, vI x4)]) (st' := []) rfl ?_
      refine r_sub [2, 3, 4, 5, 6, 1, 0] (lv' := [(0, vR 40), (1, vI x1), (2, vI x2), (3, vI x3), (4, vI x4), (5, vI (-1)), (6, vI 0)]) rfl ?_
      exact p_X12_billOf_66 J ih g_FU x1 x2 x3 x4 (-1) 0 σ M N hL
    · refine r_sub [0, 1, 3] (lv' := [(0, vR 40), (1, vI x1), (3, vI x3)]) rfl ?_
      exact p_X12_billOf_153 J x1 x3 σ M N hL
set_option maxHeartbeats 4000000 in
set_option maxRecDepth 100000 in
theorem p_X12_billOf_44 {l : Launch} {E : gE} (J : J_X12_billOf E l) {k12 : Int32 → Int32 → Int32 → Int32 → gS → gM → gN → Option (Int32 × gM × gN)} (H12 : ∀ (x1 : Int32) (x2 : Int32) (x3 : Int32) (x4 : Int32) (σ : gS) (M : gM) (N : gN) (_ : g_layM σ), g_H E 0 0 12 [(0, vR 40), (1, vI x1), (2, vI x2), (3, vI x3), (4, vI x4)] [] (σ, M, N) (k12 x1 x2 x3 x4 σ M N) (eIMN σ)) (x1 : Int32) (x2 : Int32) (x3 : Int32) (x4 : Int32) (sx0 : Int32) (sx1 : Int32) (σ : gS) (M : gM) (N : gN) (hL : g_layM σ) : g_H E 0 0 44 [(0, vR 40), (1, vI x1), (2, vI x2), (3, vI x3), (4, vI x4)] [vI sx0, vI sx1, vR 85] (σ, M, N) (b_X12_billOf_44 k12 x1 x2 x3 x4 sx0 sx1 σ M N) (eIMN σ) := by
  unfold b_X12_billOf_44
  refine r_zast J rfl (ly_85 hL) (fun i44 => ?_)
  show g_H E 0 0 45 [(0, vR 40), (1, vI x1), (2, vI x2), (3, vI x3), (4, vI x4)] [] (σ, (g_up M 85 (sx1.toNatClampNeg) (vp_nar .boolean sx0)), N) _ _
  refine r_run J 2 (pc' := 12) (lv' := [(4, vI (x4 + 1)), (0, vR 40), (1, vI x1), (2, vI x2), (3, vI x3)]) (st' := []) rfl ?_
  refine r_sub [1, 2, 3, 4, 0] (lv' := [(0, vR 40), (1, vI x1), (2, vI x2), (3, vI x3), (4, vI (x4 + 1))]) rfl ?_
  exact H12 x1 x2 x3 (x4 + 1) σ (g_up M 85 (sx1.toNatClampNeg) (vp_nar .boolean sx0)) N hL
set_option maxHeartbeats 4000000 in
set_option maxRecDepth 100000 in
theorem p_X12_billOf_12 {l : Launch} {E : gE} (J : J_X12_billOf E l) : ∀ (n : Nat) (x1 : Int32) (x2 : Int32) (x3 : Int32) (x4 : Int32) (σ : gS) (M : gM) (N : gN) (hL : g_layM σ), g_H E 0 0 12 [(0, vR 40), (1, vI x1), (2, vI x2), (3, vI x3), (4, vI x4)] [] (σ, M, N) (l_X12_billOf_12 n x1 x2 x3 x4 σ M N) (eIMN σ) := by
  intro n
  induction n with
  | zero => intros; exact h_none
  | succ n ih =>
    intro x1 x2 x3 x4 σ M N hL
    rw [l_X12_billOf_12]
    refine r_run J 2 (pc' := 15) (lv' := [(0, vR 40), (1, vI x1), (2, vI x2), (3, vI x3), (4, vI x4)]) (st' := [vR 40, vI x4]) rfl ?_
    refine r_getR J cls12 rfl (k := 20) (t := 14) (by decide) wf_12_51 rfl rfl (ly_40 hL) (lr_40_20 hL) (fun _ => ?_)
    show g_H E 0 0 18 [(0, vR 40), (1, vI x1), (2, vI x2), (3, vI x3), (4, vI x4)] [vR 52, vI x4] (σ, M, N) _ _
    refine r_run J 1 (pc' := 19) (lv' := [(0, vR 40), (1, vI x1), (2, vI x2), (3, vI x3), (4, vI x4)]) (st' := [vI x1, vR 52, vI x4]) rfl ?_
    refine r_iald J rfl (ly_52 hL) (fun i19 => ?_)
    show g_H E 0 0 20 [(0, vR 40), (1, vI x1), (2, vI x2), (3, vI x3), (4, vI x4)] [vI (M 52 x1.toNatClampNeg), vI x4] (σ, M, N) _ _
    refine r_icmp_ge J (tgt := 51) rfl (by decide) (fun c20 => ?_) (fun c20 => ?_)
    · refine r_run J 1 (pc' := 24) (lv' := [(0, vR 40), (1, vI x1), (2, vI x2), (3, vI x3), (4, vI x4)]) (st' := [vR 40]) rfl ?_
      refine r_getR J cls12 rfl (k := 77) (t := 15) (by decide) wf_12_154 rfl rfl (ly_40 hL) (lr_40_77 hL) (fun _ => ?_)
      show g_H E 0 0 27 [(0, vR 40), (1, vI x1), (2, vI x2), (3, vI x3), (4, vI x4)] [vR 85] (σ, M, N) _ _
      refine r_run J 4 (pc' := 33) (lv' := [(0, vR 40), (1, vI x1), (2, vI x2), (3, vI x3), (4, vI x4)]) (st' := [vI x4, vI x1, vR 40, vI x4, vR 85]) rfl ?_
      refine r_callV J (As := [vI x1, vI x4]) (st := [vI x4, vR 85]) (fun r hr => c_X12_setIn x1 x4 σ M N hL r hr) cls12 (ly_40 hL) wm_12_211 wy_X12_setIn wd_X12_setIn ⟨by decide, by decide, by decide, by decide, Nat.le_of_ble_eq_true rfl⟩ rfl rfl (fun q33 hq33 => ?_)
      show g_H E 0 0 36 [(0, vR 40), (1, vI x1), (2, vI x2), (3, vI x3), (4, vI x4)] [vI q33, vI x4, vR 85] (σ, M, N) _ _
      refine r_if_ne J (tgt := 43) rfl (by decide) (fun c36 => ?_) (fun c36 => ?_)
      · refine r_run J 2 (pc' := 44) (lv' := [(0, vR 40), (1, vI x1), (2, vI x2), (3, vI x3), (4, vI x4)]) (st' := [vI 1, vI x4, vR 85]) rfl ?_
        exact p_X12_billOf_44 J ih x1 x2 x3 x4 1 x4 σ M N hL
      · refine r_run J 1 (pc' := 44) (lv' := [(0, vR 40), (1, vI x1), (2, vI x2), (3, vI x3), (4, vI x4)]) (st' := [vI 0, vI x4, vR 85]) rfl ?_
        exact p_X12_billOf_44 J ih x1 x2 x3 x4 0 x4 σ M N hL
    · refine r_run J 2 (pc' := 54) (lv' := [(4, vI 0), (0, vR 40), (1, vI x1), (2, vI x2), (3, vI x3)]) (st' := []) rfl ?_
      refine r_sub [1, 2, 3, 4, 0] (lv' := [(0, vR 40), (1, vI x1), (2, vI x2), (3, vI x3), (4, vI 0)]) rfl ?_
      exact p_X12_billOf_54 J g_FU x1 x2 x3 0 σ M N hL
set_option maxHeartbeats 4000000 in
set_option maxRecDepth 100000 in
theorem p_X12_billOf_0 {l : Launch} {E : gE} (J : J_X12_billOf E l) (x1 : Int32) (σ : gS) (M : gM) (N : gN) (hL : g_layM σ) : g_H E 0 0 0 [(0, vR 40), (1, vI x1)] [] (σ, M, N) (b_X12_billOf_0 x1 σ M N) (eIMN σ) := by
  unfold b_X12_billOf_0
  refine r_run J 3 (pc' := 3) (lv' := [(0, vR 40), (1, vI x1)]) (st' := [vI 3, vI x1, vR 40]) rfl ?_
  refine r_callV J (As := [vI x1, vI 3]) (st := []) (fun r hr => c_X12_now x1 3 σ M N hL r hr) cls12 (ly_40 hL) wm_12_387 wy_X12_now wd_X12_now ⟨by decide, by decide, by decide, by decide, Nat.le_of_ble_eq_true rfl⟩ rfl rfl (fun q3 hq3 => ?_)
  show g_H E 0 0 6 [(0, vR 40), (1, vI x1)] [vI q3.1] (σ, q3.2.1, q3.2.2) _ _
  refine r_run J 5 (pc' := 12) (lv' := [(4, vI 0), (3, vI 0), (2, vI q3.1), (0, vR 40), (1, vI x1)]) (st' := []) rfl ?_
  refine r_sub [3, 4, 2, 1, 0] (lv' := [(0, vR 40), (1, vI x1), (2, vI q3.1), (3, vI 0), (4, vI 0)]) rfl ?_
  exact p_X12_billOf_12 J g_FU x1 q3.1 0 0 σ q3.2.1 q3.2.2 hL
theorem c_X12_billOf {l : Launch} (x1 : Int32) (σ : gS) (M : gM) (N : gN) (hL : g_layM σ) (r : Int32 × gM × gN) (h : f_X12_billOf x1 σ M N = some r) : g_Ct l yX12_billOf cX12_billOf 7 (some .int) 71 0 0 [vR 40, vI x1] (σ, M, N) (eIMN σ r) :=
  g_Ct.of tb_X12_billOf (by decide +kernel) tk_X12_billOf (Nat.le_of_ble_eq_true rfl) (fun E J => p_X12_billOf_0 J x1 σ M N hL r h)
def tb_X12_night : gT := [(0, .aload_n 0, 1, 0), (1, .getfield 167, 3, 0), (4, .aload_n 0, 1, 0), (5, .getfield 192, 3, 0), (8, .if_icmp .eq 19, 3, 0), (11, .aload_n 0, 1, 0), (12, .getfield 42, 3, 0), (15, .aload_n 0, 1, 0), (16, .getfield 167, 3, 0), (19, .iadd, 1, 0), (20, .aload_n 0, 1, 0), (21, .getfield 183, 3, 0), (24, .if_icmp .le 5, 3, 0), (27, .iconst (-1), 1, (-1)), (28, .ireturn, 1, 0), (29, .aload_n 0, 1, 0), (30, .aload_n 0, 1, 0), (31, .getfield 167, 3, 0), (34, .invokevirtual 432, 3, 0), (37, .istore_n 1, 1, 0), (38, .aload_n 0, 1, 0), (39, .iload_n 1, 1, 0), (40, .invokevirtual 435, 3, 0), (43, .ifCond .ne 5, 3, 0), (46, .iconst (-1), 1, (-1)), (47, .ireturn, 1, 0), (48, .aload_n 0, 1, 0), (49, .getfield 167, 3, 0), (52, .istore_n 2, 1, 0), (53, .aload_n 0, 1, 0), (54, .iload_n 1, 1, 0), (55, .iconst 2, 1, 2), (56, .invokevirtual 387, 3, 0), (59, .istore_n 3, 1, 0), (60, .aload_n 0, 1, 0), (61, .getfield 84, 3, 0), (64, .iload_n 2, 1, 0), (65, .aload_n 0, 1, 0), (66, .iload_n 1, 1, 0), (67, .invokevirtual 438, 3, 0), (70, .iastore, 1, 0), (71, .iconst 0, 1, 0), (72, .istore 4, 2, 0), (74, .iload 4, 2, 0), (76, .bipush 10, 2, 10), (78, .if_icmp .ge 33, 3, 0), (81, .aload_n 0, 1, 0), (82, .getfield 81, 3, 0), (85, .bipush 10, 2, 10), (87, .iload_n 2, 1, 0), (88, .imul, 1, 0), (89, .iload 4, 2, 0), (91, .iadd, 1, 0), (92, .aload_n 0, 1, 0), (93, .getfield 66, 3, 0), (96, .bipush 10, 2, 10), (98, .iload_n 1, 1, 0), (99, .imul, 1, 0), (100, .iload 4, 2, 0), (102, .iadd, 1, 0), (103, .iaload, 1, 0), (104, .iastore, 1, 0), (105, .iinc 4 1, 3, 1), (108, .goto (-34), 3, 0), (111, .iconst 0, 1, 0), (112, .istore 4, 2, 0), (114, .iload 4, 2, 0), (116, .aload_n 0, 1, 0), (117, .getfield 51, 3, 0), (120, .iload_n 1, 1, 0), (121, .iaload, 1, 0), (122, .if_icmp .ge 122, 3, 0), (125, .aload_n 0, 1, 0), (126, .iload_n 1, 1, 0), (127, .iload 4, 2, 0), (129, .invokevirtual 211, 3, 0), (132, .istore 5, 2, 0), (134, .aload_n 0, 1, 0), (135, .getfield 60, 3, 0), (138, .bipush 10, 2, 10), (140, .iload_n 1, 1, 0), (141, .imul, 1, 0), (142, .iload 4, 2, 0), (144, .iadd, 1, 0), (145, .iaload, 1, 0), (146, .istore 6, 2, 0), (148, .iload 5, 2, 0), (150, .invokestatic 243, 3, 0), (153, .iconst 2, 1, 2), (154, .if_icmp .ne 7, 3, 0), (157, .iconst 1, 1, 1), (158, .goto 4, 3, 0), (161, .iconst 0, 1, 0), (162, .istore 7, 2, 0), (164, .iconst 1, 1, 1), (165, .istore 8, 2, 0), (167, .iconst 0, 1, 0), (168, .istore 9, 2, 0), (170, .iload 9, 2, 0), (172, .aload_n 0, 1, 0), (173, .getfield 157, 3, 0), (176, .if_icmp .ge 62, 3, 0), (179, .iload 5, 2, 0), (181, .iload 9, 2, 0), (183, .ishr, 1, 0), (184, .iconst 1, 1, 1), (185, .iand, 1, 0), (186, .ifCond .ne 6, 3, 0), (189, .goto 43, 3, 0), (192, .aload_n 0, 1, 0), (193, .iload_n 2, 1, 0), (194, .iload 9, 2, 0), (196, .iload 7, 2, 0), (198, .ifCond .ne 8, 3, 0), (201, .iload 6, 2, 0), (203, .goto 22, 3, 0), (206, .iload 8, 2, 0), (208, .ifCond .eq 13, 3, 0), (211, .iload 6, 2, 0), (213, .iload 6, 2, 0), (215, .iconst 2, 1, 2), (216, .idiv, 1, 0), (217, .isub, 1, 0), (218, .goto 7, 3, 0), (221, .iload 6, 2, 0), (223, .iconst 2, 1, 2), (224, .idiv, 1, 0), (225, .iload_n 3, 1, 0), (226, .invokevirtual 441, 3, 0), (229, .iconst 0, 1, 0), (230, .istore 8, 2, 0), (232, .iinc 9 1, 3, 1), (235, .goto (-65), 3, 0), (238, .iinc 4 1, 3, 1), (241, .goto (-127), 3, 0), (244, .aload_n 0, 1, 0), (245, .dup, 1, 0), (246, .getfield 167, 3, 0), (249, .iconst 1, 1, 1), (250, .iadd, 1, 0), (251, .putfield 167, 3, 0), (254, .iload_n 2, 1, 0), (255, .ireturn, 1, 0)]
set_option maxRecDepth 100000 in
theorem tk_X12_night : g_okT cX12_night tb_X12_night = true := by decide +kernel
abbrev J_X12_night (E : gE) (l : Launch) : Prop := g_J E cX12_night RX12 "night" (some .int) 10 tb_X12_night 72 0 0 l
set_option maxHeartbeats 4000000 in
set_option maxRecDepth 100000 in
theorem p_X12_night_232 {l : Launch} {E : gE} (J : J_X12_night E l) {k114 : Int32 → Int32 → Int32 → Int32 → gS → gM → gN → Option (Int32 × gM × gN)} (H114 : ∀ (x1 : Int32) (x2 : Int32) (x3 : Int32) (x4 : Int32) (σ : gS) (M : gM) (N : gN) (_ : g_layM σ), g_H E 0 0 114 [(0, vR 40), (1, vI x1), (2, vI x2), (3, vI x3), (4, vI x4)] [] (σ, M, N) (k114 x1 x2 x3 x4 σ M N) (eIMN σ)) {k170 : Int32 → Int32 → Int32 → Int32 → Int32 → Int32 → Int32 → Int32 → Int32 → gS → gM → gN → Option (Int32 × gM × gN)} (H170 : ∀ (x1 : Int32) (x2 : Int32) (x3 : Int32) (x4 : Int32) (x5 : Int32) (x6 : Int32) (x7 : Int32) (x8 : Int32) (x9 : Int32) (σ : gS) (M : gM) (N : gN) (_ : g_layM σ), g_H E 0 0 170 [(0, vR 40), (1, vI x1), (2, vI x2), (3, vI x3), (4, vI x4), (5, vI x5), (6, vI x6), (7, vI x7), (8, vI x8), (9, vI x9)] [] (σ, M, N) (k170 x1 x2 x3 x4 x5 x6 x7 x8 x9 σ M N) (eIMN σ)) (x1 : Int32) (x2 : Int32) (x3 : Int32) (x4 : Int32) (x5 : Int32) (x6 : Int32) (x7 : Int32) (x8 : Int32) (x9 : Int32) (σ : gS) (M : gM) (N : gN) (hL : g_layM σ) : g_H E 0 0 232 [(0, vR 40), (1, vI x1), (2, vI x2), (3, vI x3), (4, vI x4), (5, vI x5), (6, vI x6), (7, vI x7), (8, vI x8), (9, vI x9)] [] (σ, M, N) (b_X12_night_232 k114 k170 x1 x2 x3 x4 x5 x6 x7 x8 x9 σ M N) (eIMN σ) := by
  unfold b_X12_night_232
  refine r_run J 2 (pc' := 170) (lv' := [(9, vI (x9 + 1)), (0, vR 40), (1, vI x1), (2, vI x2), (3, vI x3), (4, vI x4), (5, vI x5), (6, vI x6), (7, vI x7), (8, vI x8)]) (st' := []) rfl ?_
  refine r_sub [1, 2, 3, 4, 5, 6, 7, 8, 9, 0] (lv' := [(0, vR 40), (1, vI x1), (2, vI x2), (3, vI x3), (4, vI x4), (5, vI x5), (6, vI x6), (7, vI x7), (8, vI x8), (9, vI (x9 + 1))]) rfl ?_
  exact H170 x1 x2 x3 x4 x5 x6 x7 x8 (x9 + 1) σ M N hL
set_option maxHeartbeats 4000000 in
set_option maxRecDepth 100000 in
theorem p_X12_night_225 {l : Launch} {E : gE} (J : J_X12_night E l) {k114 : Int32 → Int32 → Int32 → Int32 → gS → gM → gN → Option (Int32 × gM × gN)} (H114 : ∀ (x1 : Int32) (x2 : Int32) (x3 : Int32) (x4 : Int32) (σ : gS) (M : gM) (N : gN) (_ : g_layM σ), g_H E 0 0 114 [(0, vR 40), (1, vI x1), (2, vI x2), (3, vI x3), (4, vI x4)] [] (σ, M, N) (k114 x1 x2 x3 x4 σ M N) (eIMN σ)) {k170 : Int32 → Int32 → Int32 → Int32 → Int32 → Int32 → Int32 → Int32 → Int32 → gS → gM → gN → Option (Int32 × gM × gN)} (H170 : ∀ (x1 : Int32) (x2 : Int32) (x3 : Int32) (x4 : Int32) (x5 : Int32) (x6 : Int32) (x7 : Int32) (x8 : Int32) (x9 : Int32) (σ : gS) (M : gM) (N : gN) (_ : g_layM σ), g_H E 0 0 170 [(0, vR 40), (1, vI x1), (2, vI x2), (3, vI x3), (4, vI x4), (5, vI x5), (6, vI x6), (7, vI x7), (8, vI x8), (9, vI x9)] [] (σ, M, N) (k170 x1 x2 x3 x4 x5 x6 x7 x8 x9 σ M N) (eIMN σ)) (x1 : Int32) (x2 : Int32) (x3 : Int32) (x4 : Int32) (x5 : Int32) (x6 : Int32) (x7 : Int32) (x9 : Int32) (sx0 : Int32) (sx1 : Int32) (sx2 : Int32) (σ : gS) (M : gM) (N : gN) (hL : g_layM σ) : g_H E 0 0 225 [(0, vR 40), (1, vI x1), (2, vI x2), (3, vI x3), (4, vI x4), (5, vI x5), (6, vI x6), (7, vI x7), (9, vI x9)] [vI sx0, vI sx1, vI sx2, vR 40] (σ, M, N) (b_X12_night_225 k114 k170 x1 x2 x3 x4 x5 x6 x7 x9 sx0 sx1 sx2 σ M N) (eIMN σ) := by
  unfold b_X12_night_225
  refine r_run J 1 (pc' := 226) (lv' := [(0, vR 40), (1, vI x1), (2, vI x2), (3, vI x3), (4, vI x4), (5, vI x5), (6, vI x6), (7, vI x7), (9, vI x9)]) (st' := [vI x3, vI sx0, vI sx1, vI sx2, vR 40]) rfl ?_
  refine r_callV J (As := [vI sx2, vI sx1, vI sx0, vI x3]) (st := []) (fun r hr => c_X12_owes sx2 sx1 sx0 x3 σ M N hL r hr) cls12 (ly_40 hL) wm_12_441 wy_X12_owes wd_X12_owes ⟨by decide, by decide, by decide, by decide, Nat.le_of_ble_eq_true rfl⟩ rfl rfl (fun q226 hq226 => ?_)
  show g_H E 0 0 229 [(0, vR 40), (1, vI x1), (2, vI x2), (3, vI x3), (4, vI x4), (5, vI x5), (6, vI x6), (7, vI x7), (9, vI x9)] [] (σ, q226, N) _ _
  refine r_run J 2 (pc' := 232) (lv' := [(8, vI 0), (0, vR 40), (1, vI x1), (2, vI x2), (3, vI x3), (4, vI x4), (5, vI x5), (6, vI x6), (7, vI x7), (9, vI x9)]) (st' := []) rfl ?_
  refine r_sub [1, 2, 3, 4, 5, 6, 7, 8, 0, 9] (lv' := [(0, vR 40), (1, vI x1), (2, vI x2), (3, vI x3), (4, vI x4), (5, vI x5), (6, vI x6), (7, vI x7), (8, vI 0), (9, vI x9)]) rfl ?_
  exact p_X12_night_232 J H114 H170 x1 x2 x3 x4 x5 x6 x7 0 x9 σ q226 N hL
set_option maxHeartbeats 4000000 in
set_option maxRecDepth 100000 in
theorem p_X12_night_170 {l : Launch} {E : gE} (J : J_X12_night E l) {k114 : Int32 → Int32 → Int32 → Int32 → gS → gM → gN → Option (Int32 × gM × gN)} (H114 : ∀ (x1 : Int32) (x2 : Int32) (x3 : Int32) (x4 : Int32) (σ : gS) (M : gM) (N : gN) (_ : g_layM σ), g_H E 0 0 114 [(0, vR 40), (1, vI x1), (2, vI x2), (3, vI x3), (4, vI x4)] [] (σ, M, N) (k114 x1 x2 x3 x4 σ M N) (eIMN σ)) : ∀ (n : Nat) (x1 : Int32) (x2 : Int32) (x3 : Int32) (x4 : Int32) (x5 : Int32) (x6 : Int32) (x7 : Int32) (x8 : Int32) (x9 : Int32) (σ : gS) (M : gM) (N : gN) (hL : g_layM σ), g_H E 0 0 170 [(0, vR 40), (1, vI x1), (2, vI x2), (3, vI x3), (4, vI x4), (5, vI x5), (6, vI x6), (7, vI x7), (8, vI x8), (9, vI x9)] [] (σ, M, N) (l_X12_night_170 k114 n x1 x2 x3 x4 x5 x6 x7 x8 x9 σ M N) (eIMN σ) := by
  intro n
  induction n with
  | zero => intros; exact h_none
  | succ n ih =>
    intro x1 x2 x3 x4 x5 x6 x7 x8 x9 σ M N hL
    rw [l_X12_night_170]
    refine r_run J 2 (pc' := 173) (lv' := [(0, vR 40), (1, vI x1), (2, vI x2), (3, vI x3), (4, vI x4), (5, vI x5), (6, vI x6), (7, vI x7), (8, vI x8), (9, vI x9)]) (st' := [vR 40, vI x9]) rfl ?_
    refine r_getI J cls12 rfl (k := 1) (by decide) wf_12_157 rfl (ly_40 hL) ?_
    show g_H E 0 0 176 [(0, vR 40), (1, vI x1), (2, vI x2), (3, vI x3), (4, vI x4), (5, vI x5), (6, vI x6), (7, vI x7), (8, vI x8), (9, vI x9)] [vI (M 40 1), vI x9] (σ, M, N) _ _
    refine r_icmp_ge J (tgt := 238) rfl (by decide) (fun c176 => ?_) (fun c176 => ?_)
    · refine r_run J 5 (pc' := 186) (lv' := [(0, vR 40), (1, vI x1), (2, vI x2), (3, vI x3), (4, vI x4), (5, vI x5), (6, vI x6), (7, vI x7), (8, vI x8), (9, vI x9)]) (st' := [vI ((x5 >>> (x9 &&& 31)) &&& (1 : Int32))]) rfl ?_
      refine r_if_ne J (tgt := 192) rfl (by decide) (fun c186 => ?_) (fun c186 => ?_)
      · refine r_run J 1 (pc' := 232) (lv' := [(0, vR 40), (1, vI x1), (2, vI x2), (3, vI x3), (4, vI x4), (5, vI x5), (6, vI x6), (7, vI x7), (8, vI x8), (9, vI x9)]) (st' := []) rfl ?_
        exact p_X12_night_232 J H114 ih x1 x2 x3 x4 x5 x6 x7 x8 x9 σ M N hL
      · refine r_run J 4 (pc' := 198) (lv' := [(0, vR 40), (1, vI x1), (2, vI x2), (3, vI x3), (4, vI x4), (5, vI x5), (6, vI x6), (7, vI x7), (8, vI x8), (9, vI x9)]) (st' := [vI x7, vI x9, vI x2, vR 40]) rfl ?_
        refine r_if_ne J (tgt := 206) rfl (by decide) (fun c198 => ?_) (fun c198 => ?_)
        · refine r_run J 2 (pc' := 225) (lv' := [(0, vR 40), (1, vI x1), (2, vI x2), (3, vI x3), (4, vI x4), (5, vI x5), (6, vI x6), (7, vI x7), (8, vI x8), (9, vI x9)]) (st' := [vI x6, vI x9, vI x2, vR 40]) rfl ?_
          refine r_sub [0, 1, 2, 3, 4, 5, 6, 7, 9] (lv' := [(0, vR 40), (1, vI x1), (2, vI x2), (3, vI x3), (4, vI x4), (5, vI x5), (6, vI x6), (7, vI x7), (9, vI x9)]) rfl ?_
          exact p_X12_night_225 J H114 ih x1 x2 x3 x4 x5 x6 x7 x9 x6 x9 x2 σ M N hL
        · refine r_run J 1 (pc' := 208) (lv' := [(0, vR 40), (1, vI x1), (2, vI x2), (3, vI x3), (4, vI x4), (5, vI x5), (6, vI x6), (7, vI x7), (8, vI x8), (9, vI x9)]) (st' := [vI x8, vI x9, vI x2, vR 40]) rfl ?_
          refine r_if_eq J (tgt := 221) rfl (by decide) (fun c208 => ?_) (fun c208 => ?_)
          · refine r_run J 2 (pc' := 224) (lv' := [(0, vR 40), (1, vI x1), (2, vI x2), (3, vI x3), (4, vI x4), (5, vI x5), (6, vI x6), (7, vI x7), (8, vI x8), (9, vI x9)]) (st' := [vI 2, vI x6, vI x9, vI x2, vR 40]) rfl ?_
            refine r_idiv J rfl (fun c224 => ?_)
            refine r_sub [0, 1, 2, 3, 4, 5, 6, 7, 9] (lv' := [(0, vR 40), (1, vI x1), (2, vI x2), (3, vI x3), (4, vI x4), (5, vI x5), (6, vI x6), (7, vI x7), (9, vI x9)]) rfl ?_
            exact p_X12_night_225 J H114 ih x1 x2 x3 x4 x5 x6 x7 x9 (x6 / (2 : Int32)) x9 x2 σ M N hL
          · refine r_run J 3 (pc' := 216) (lv' := [(0, vR 40), (1, vI x1), (2, vI x2), (3, vI x3), (4, vI x4), (5, vI x5), (6, vI x6), (7, vI x7), (8, vI x8), (9, vI x9)]) (st' := [vI 2, vI x6, vI x6, vI x9, vI x2, vR 40]) rfl ?_
            refine r_idiv J rfl (fun c216 => ?_)
            refine r_run J 2 (pc' := 225) (lv' := [(0, vR 40), (1, vI x1), (2, vI x2), (3, vI x3), (4, vI x4), (5, vI x5), (6, vI x6), (7, vI x7), (8, vI x8), (9, vI x9)]) (st' := [vI (x6 - (x6 / (2 : Int32))), vI x9, vI x2, vR 40]) rfl ?_
            refine r_sub [0, 1, 2, 3, 4, 5, 6, 7, 9] (lv' := [(0, vR 40), (1, vI x1), (2, vI x2), (3, vI x3), (4, vI x4), (5, vI x5), (6, vI x6), (7, vI x7), (9, vI x9)]) rfl ?_
            exact p_X12_night_225 J H114 ih x1 x2 x3 x4 x5 x6 x7 x9 (x6 - (x6 / (2 : Int32))) x9 x2 σ M N hL
    · refine r_run J 2 (pc' := 114) (lv' := [(4, vI (x4 + 1)), (0, vR 40), (1, vI x1), (2, vI x2), (3, vI x3), (5, vI x5), (6, vI x6), (7, vI x7), (8, vI x8), (9, vI x9)]) (st' := []) rfl ?_
      refine r_sub [1, 2, 3, 4, 0] (lv' := [(0, vR 40), (1, vI x1), (2, vI x2), (3, vI x3), (4, vI (x4 + 1))]) rfl ?_
      exact H114 x1 x2 x3 (x4 + 1) σ M N hL
set_option maxHeartbeats 4000000 in
set_option maxRecDepth 100000 in
theorem p_X12_night_162 {l : Launch} {E : gE} (J : J_X12_night E l) {k114 : Int32 → Int32 → Int32 → Int32 → gS → gM → gN → Option (Int32 × gM × gN)} (H114 : ∀ (x1 : Int32) (x2 : Int32) (x3 : Int32) (x4 : Int32) (σ : gS) (M : gM) (N : gN) (_ : g_layM σ), g_H E 0 0 114 [(0, vR 40), (1, vI x1), (2, vI x2), (3, vI x3), (4, vI x4)] [] (σ, M, N) (k114 x1 x2 x3 x4 σ M N) (eIMN σ)) (x1 : Int32) (x2 : Int32) (x3 : Int32) (x4 : Int32) (x5 : Int32) (x6 : Int32) (sx0 : Int32) (σ : gS) (M : gM) (N : gN) (hL : g_layM σ) : g_H E 0 0 162 [(0, vR 40), (1, vI x1), (2, vI x2), (3, vI x3), (4, vI x4), (5, vI x5), (6, vI x6)] [vI sx0] (σ, M, N) (b_X12_night_162 k114 x1 x2 x3 x4 x5 x6 sx0 σ M N) (eIMN σ) := by
  unfold b_X12_night_162
  refine r_run J 5 (pc' := 170) (lv' := [(9, vI 0), (8, vI 1), (7, vI sx0), (0, vR 40), (1, vI x1), (2, vI x2), (3, vI x3), (4, vI x4), (5, vI x5), (6, vI x6)]) (st' := []) rfl ?_
  refine r_sub [3, 4, 5, 6, 7, 8, 9, 2, 1, 0] (lv' := [(0, vR 40), (1, vI x1), (2, vI x2), (3, vI x3), (4, vI x4), (5, vI x5), (6, vI x6), (7, vI sx0), (8, vI 1), (9, vI 0)]) rfl ?_
  exact p_X12_night_170 J H114 g_FU x1 x2 x3 x4 x5 x6 sx0 1 0 σ M N hL
set_option maxHeartbeats 4000000 in
set_option maxRecDepth 100000 in
theorem p_X12_night_114 {l : Launch} {E : gE} (J : J_X12_night E l) : ∀ (n : Nat) (x1 : Int32) (x2 : Int32) (x3 : Int32) (x4 : Int32) (σ : gS) (M : gM) (N : gN) (hL : g_layM σ), g_H E 0 0 114 [(0, vR 40), (1, vI x1), (2, vI x2), (3, vI x3), (4, vI x4)] [] (σ, M, N) (l_X12_night_114 n x1 x2 x3 x4 σ M N) (eIMN σ) := by
  intro n
  induction n with
  | zero => intros; exact h_none
  | succ n ih =>
    intro x1 x2 x3 x4 σ M N hL
    rw [l_X12_night_114]
    refine r_run J 2 (pc' := 117) (lv' := [(0, vR 40), (1, vI x1), (2, vI x2), (3, vI x3), (4, vI x4)]) (st' := [vR 40, vI x4]) rfl ?_
    refine r_getR J cls12 rfl (k := 20) (t := 14) (by decide) wf_12_51 rfl rfl (ly_40 hL) (lr_40_20 hL) (fun _ => ?_)
    show g_H E 0 0 120 [(0, vR 40), (1, vI x1), (2, vI x2), (3, vI x3), (4, vI x4)] [vR 52, vI x4] (σ, M, N) _ _
    refine r_run J 1 (pc' := 121) (lv' := [(0, vR 40), (1, vI x1), (2, vI x2), (3, vI x3), (4, vI x4)]) (st' := [vI x1, vR 52, vI x4]) rfl ?_
    refine r_iald J rfl (ly_52 hL) (fun i121 => ?_)
    show g_H E 0 0 122 [(0, vR 40), (1, vI x1), (2, vI x2), (3, vI x3), (4, vI x4)] [vI (M 52 x1.toNatClampNeg), vI x4] (σ, M, N) _ _
    refine r_icmp_ge J (tgt := 244) rfl (by decide) (fun c122 => ?_) (fun c122 => ?_)
    · refine r_run J 3 (pc' := 129) (lv' := [(0, vR 40), (1, vI x1), (2, vI x2), (3, vI x3), (4, vI x4)]) (st' := [vI x4, vI x1, vR 40]) rfl ?_
      refine r_callV J (As := [vI x1, vI x4]) (st := []) (fun r hr => c_X12_setIn x1 x4 σ M N hL r hr) cls12 (ly_40 hL) wm_12_211 wy_X12_setIn wd_X12_setIn ⟨by decide, by decide, by decide, by decide, Nat.le_of_ble_eq_true rfl⟩ rfl rfl (fun q129 hq129 => ?_)
      show g_H E 0 0 132 [(0, vR 40), (1, vI x1), (2, vI x2), (3, vI x3), (4, vI x4)] [vI q129] (σ, M, N) _ _
      refine r_run J 2 (pc' := 135) (lv' := [(5, vI q129), (0, vR 40), (1, vI x1), (2, vI x2), (3, vI x3), (4, vI x4)]) (st' := [vR 40]) rfl ?_
      refine r_getR J cls12 rfl (k := 23) (t := 14) (by decide) wf_12_60 rfl rfl (ly_40 hL) (lr_40_23 hL) (fun _ => ?_)
      show g_H E 0 0 138 [(5, vI q129), (0, vR 40), (1, vI x1), (2, vI x2), (3, vI x3), (4, vI x4)] [vR 55] (σ, M, N) _ _
      refine r_run J 5 (pc' := 145) (lv' := [(5, vI q129), (0, vR 40), (1, vI x1), (2, vI x2), (3, vI x3), (4, vI x4)]) (st' := [vI (((10 : Int32) * x1) + x4), vR 55]) rfl ?_
      refine r_iald J rfl (ly_55 hL) (fun i145 => ?_)
      show g_H E 0 0 146 [(5, vI q129), (0, vR 40), (1, vI x1), (2, vI x2), (3, vI x3), (4, vI x4)] [vI (M 55 (((10 : Int32) * x1) + x4).toNatClampNeg)] (σ, M, N) _ _
      refine r_run J 2 (pc' := 150) (lv' := [(6, vI (M 55 (((10 : Int32) * x1) + x4).toNatClampNeg)), (5, vI q129), (0, vR 40), (1, vI x1), (2, vI x2), (3, vI x3), (4, vI x4)]) (st' := [vI q129]) rfl ?_
      refine r_callS J (As := [vI q129]) (st := []) (fun r hr => c_X12_sizeOf q129 σ M N hL r hr) wm_12_243 wy_X12_sizeOf wd_X12_sizeOf ⟨by decide, by decide, by decide, by decide, Nat.le_of_ble_eq_true rfl⟩ rfl rfl (fun q150 hq150 => ?_)
      show g_H E 0 0 153 [(6, vI (M 55 (((10 : Int32) * x1) + x4).toNatClampNeg)), (5, vI q129), (0, vR 40), (1, vI x1), (2, vI x2), (3, vI x3), (4, vI x4)] [vI q150] (σ, M, N) _ _
      refine r_run J 1 (pc' := 154) (lv' := [(6, vI (M 55 (((10 : Int32) * x1) + x4).toNatClampNeg)), (5, vI q129), (0, vR 40), (1, vI x1), (2, vI x2), (3, vI x3), (4, vI x4)]) (st' := [vI 2, vI q150]) rfl ?_
      refine r_icmp_ne J (tgt := 161) rfl (by decide) (fun c154 => ?_) (fun c154 => ?_)
      · refine r_run J 2 (pc' := 162) (lv' := [(6, vI (M 55 (((10 : Int32) * x1) + x4).toNatClampNeg)), (5, vI q129), (0, vR 40), (1, vI x1), (2, vI x2), (3, vI x3), (4, vI x4)]) (st' := [vI 1]) rfl ?_
        refine r_sub [2, 3, 4, 5, 6, 1, 0] (lv' := [(0, vR 40), (1, vI x1), (2, vI x2), (3, vI x3), (4, vI x4), (5, vI q129), (6, vI (M 55 (((10 : Int32) * x1) + x4).toNatClampNeg))]) rfl ?_
        exact p_X12_night_162 J ih x1 x2 x3 x4 q129 (M 55 (((10 : Int32) * x1) + x4).toNatClampNeg) 1 σ M N hL
      · refine r_run J 1 (pc' := 162) (lv' := [(6, vI (M 55 (((10 : Int32) * x1) + x4).toNatClampNeg)), (5, vI q129), (0, vR 40), (1, vI x1), (2, vI x2), (3, vI x3), (4, vI x4)]) (st' := [vI 0]) rfl ?_
        refine r_sub [2, 3, 4, 5, 6, 1, 0] (lv' := [(0, vR 40), (1, vI x1), (2, vI x2), (3, vI x3), (4, vI x4), (5, vI q129), (6, vI (M 55 (((10 : Int32) * x1) + x4).toNatClampNeg))]) rfl ?_
        exact p_X12_night_162 J ih x1 x2 x3 x4 q129 (M 55 (((10 : Int32) * x1) + x4).toNatClampNeg) 0 σ M N hL
    · refine r_run J 2 (pc' := 246) (lv' := [(0, vR 40), (1, vI x1), (2, vI x2), (3, vI x3), (4, vI x4)]) (st' := [vR 40, vR 40]) rfl ?_
      refine r_getI J cls12 rfl (k := 13) (by decide) wf_12_167 rfl (ly_40 hL) ?_
      show g_H E 0 0 249 [(0, vR 40), (1, vI x1), (2, vI x2), (3, vI x3), (4, vI x4)] [vI (M 40 13), vR 40] (σ, M, N) _ _
      refine r_run J 2 (pc' := 251) (lv' := [(0, vR 40), (1, vI x1), (2, vI x2), (3, vI x3), (4, vI x4)]) (st' := [vI ((M 40 13) + (1 : Int32)), vR 40]) rfl ?_
      refine r_putI J cls12 rfl (k := 13) (by decide) wf_12_167 rfl (Or.inl rfl) ⟨rfl, rfl⟩ (ly_40 hL) ?_
      show g_H E 0 0 254 [(0, vR 40), (1, vI x1), (2, vI x2), (3, vI x3), (4, vI x4)] [] (σ, (g_up M 40 13 ((M 40 13) + (1 : Int32))), N) _ _
      refine r_run J 1 (pc' := 255) (lv' := [(0, vR 40), (1, vI x1), (2, vI x2), (3, vI x3), (4, vI x4)]) (st' := [vI x2]) rfl ?_
      exact r_iret J rfl rfl rfl rfl (by decide) (by decide)
set_option maxHeartbeats 4000000 in
set_option maxRecDepth 100000 in
theorem p_X12_night_74 {l : Launch} {E : gE} (J : J_X12_night E l) : ∀ (n : Nat) (x1 : Int32) (x2 : Int32) (x3 : Int32) (x4 : Int32) (σ : gS) (M : gM) (N : gN) (hL : g_layM σ), g_H E 0 0 74 [(0, vR 40), (1, vI x1), (2, vI x2), (3, vI x3), (4, vI x4)] [] (σ, M, N) (l_X12_night_74 n x1 x2 x3 x4 σ M N) (eIMN σ) := by
  intro n
  induction n with
  | zero => intros; exact h_none
  | succ n ih =>
    intro x1 x2 x3 x4 σ M N hL
    rw [l_X12_night_74]
    refine r_run J 2 (pc' := 78) (lv' := [(0, vR 40), (1, vI x1), (2, vI x2), (3, vI x3), (4, vI x4)]) (st' := [vI 10, vI x4]) rfl ?_
    refine r_icmp_ge J (tgt := 111) rfl (by decide) (fun c78 => ?_) (fun c78 => ?_)
    · refine r_run J 1 (pc' := 82) (lv' := [(0, vR 40), (1, vI x1), (2, vI x2), (3, vI x3), (4, vI x4)]) (st' := [vR 40]) rfl ?_
      refine r_getR J cls12 rfl (k := 31) (t := 14) (by decide) wf_12_81 rfl rfl (ly_40 hL) (lr_40_31 hL) (fun _ => ?_)
      show g_H E 0 0 85 [(0, vR 40), (1, vI x1), (2, vI x2), (3, vI x3), (4, vI x4)] [vR 62] (σ, M, N) _ _
      refine r_run J 6 (pc' := 93) (lv' := [(0, vR 40), (1, vI x1), (2, vI x2), (3, vI x3), (4, vI x4)]) (st' := [vR 40, vI (((10 : Int32) * x2) + x4), vR 62]) rfl ?_
      refine r_getR J cls12 rfl (k := 25) (t := 14) (by decide) wf_12_66 rfl rfl (ly_40 hL) (lr_40_25 hL) (fun _ => ?_)
      show g_H E 0 0 96 [(0, vR 40), (1, vI x1), (2, vI x2), (3, vI x3), (4, vI x4)] [vR 57, vI (((10 : Int32) * x2) + x4), vR 62] (σ, M, N) _ _
      refine r_run J 5 (pc' := 103) (lv' := [(0, vR 40), (1, vI x1), (2, vI x2), (3, vI x3), (4, vI x4)]) (st' := [vI (((10 : Int32) * x1) + x4), vR 57, vI (((10 : Int32) * x2) + x4), vR 62]) rfl ?_
      refine r_iald J rfl (ly_57 hL) (fun i103 => ?_)
      show g_H E 0 0 104 [(0, vR 40), (1, vI x1), (2, vI x2), (3, vI x3), (4, vI x4)] [vI (M 57 (((10 : Int32) * x1) + x4).toNatClampNeg), vI (((10 : Int32) * x2) + x4), vR 62] (σ, M, N) _ _
      refine r_iast J rfl (ly_62 hL) (fun i104 => ?_)
      show g_H E 0 0 105 [(0, vR 40), (1, vI x1), (2, vI x2), (3, vI x3), (4, vI x4)] [] (σ, (g_up M 62 ((((10 : Int32) * x2) + x4).toNatClampNeg) (M 57 (((10 : Int32) * x1) + x4).toNatClampNeg)), N) _ _
      refine r_run J 2 (pc' := 74) (lv' := [(4, vI (x4 + 1)), (0, vR 40), (1, vI x1), (2, vI x2), (3, vI x3)]) (st' := []) rfl ?_
      refine r_sub [1, 2, 3, 4, 0] (lv' := [(0, vR 40), (1, vI x1), (2, vI x2), (3, vI x3), (4, vI (x4 + 1))]) rfl ?_
      exact ih x1 x2 x3 (x4 + 1) σ (g_up M 62 ((((10 : Int32) * x2) + x4).toNatClampNeg) (M 57 (((10 : Int32) * x1) + x4).toNatClampNeg)) N hL
    · refine r_run J 2 (pc' := 114) (lv' := [(4, vI 0), (0, vR 40), (1, vI x1), (2, vI x2), (3, vI x3)]) (st' := []) rfl ?_
      refine r_sub [1, 2, 3, 4, 0] (lv' := [(0, vR 40), (1, vI x1), (2, vI x2), (3, vI x3), (4, vI 0)]) rfl ?_
      exact p_X12_night_114 J g_FU x1 x2 x3 0 σ M N hL
set_option maxHeartbeats 4000000 in
set_option maxRecDepth 100000 in
theorem p_X12_night_0 {l : Launch} {E : gE} (J : J_X12_night E l) (σ : gS) (M : gM) (N : gN) (hL : g_layM σ) : g_H E 0 0 0 [(0, vR 40)] [] (σ, M, N) (b_X12_night_0 σ M N) (eIMN σ) := by
  unfold b_X12_night_0
  refine r_run J 1 (pc' := 1) (lv' := [(0, vR 40)]) (st' := [vR 40]) rfl ?_
  refine r_getI J cls12 rfl (k := 13) (by decide) wf_12_167 rfl (ly_40 hL) ?_
  show g_H E 0 0 4 [(0, vR 40)] [vI (M 40 13)] (σ, M, N) _ _
  refine r_run J 1 (pc' := 5) (lv' := [(0, vR 40)]) (st' := [vR 40, vI (M 40 13)]) rfl ?_
  refine r_getI J cls12 rfl (k := 12) (by decide) wf_12_192 rfl (ly_40 hL) ?_
  show g_H E 0 0 8 [(0, vR 40)] [vI (M 40 12), vI (M 40 13)] (σ, M, N) _ _
  refine r_icmp_eq J (tgt := 27) rfl (by decide) (fun c8 => ?_) (fun c8 => ?_)
  · refine r_run J 1 (pc' := 28) (lv' := [(0, vR 40)]) (st' := [vI (-1)]) rfl ?_
    exact r_iret J rfl rfl rfl rfl (by decide) (by decide)
  · refine r_run J 1 (pc' := 12) (lv' := [(0, vR 40)]) (st' := [vR 40]) rfl ?_
    refine r_getI J cls12 rfl (k := 15) (by decide) wf_12_42 rfl (ly_40 hL) ?_
    show g_H E 0 0 15 [(0, vR 40)] [vI (M 40 15)] (σ, M, N) _ _
    refine r_run J 1 (pc' := 16) (lv' := [(0, vR 40)]) (st' := [vR 40, vI (M 40 15)]) rfl ?_
    refine r_getI J cls12 rfl (k := 13) (by decide) wf_12_167 rfl (ly_40 hL) ?_
    show g_H E 0 0 19 [(0, vR 40)] [vI (M 40 13), vI (M 40 15)] (σ, M, N) _ _
    refine r_run J 2 (pc' := 21) (lv' := [(0, vR 40)]) (st' := [vR 40, vI ((M 40 15) + (M 40 13))]) rfl ?_
    refine r_getI J cls12 rfl (k := 14) (by decide) wf_12_183 rfl (ly_40 hL) ?_
    show g_H E 0 0 24 [(0, vR 40)] [vI (M 40 14), vI ((M 40 15) + (M 40 13))] (σ, M, N) _ _
    refine r_icmp_le J (tgt := 29) rfl (by decide) (fun c24 => ?_) (fun c24 => ?_)
    · refine r_run J 1 (pc' := 28) (lv' := [(0, vR 40)]) (st' := [vI (-1)]) rfl ?_
      exact r_iret J rfl rfl rfl rfl (by decide) (by decide)
    · refine r_run J 2 (pc' := 31) (lv' := [(0, vR 40)]) (st' := [vR 40, vR 40]) rfl ?_
      refine r_getI J cls12 rfl (k := 13) (by decide) wf_12_167 rfl (ly_40 hL) ?_
      show g_H E 0 0 34 [(0, vR 40)] [vI (M 40 13), vR 40] (σ, M, N) _ _
      refine r_callV J (As := [vI (M 40 13)]) (st := []) (fun r hr => c_X12_townAt (M 40 13) σ M N hL r hr) cls12 (ly_40 hL) wm_12_432 wy_X12_townAt wd_X12_townAt ⟨by decide, by decide, by decide, by decide, Nat.le_of_ble_eq_true rfl⟩ rfl rfl (fun q34 hq34 => ?_)
      show g_H E 0 0 37 [(0, vR 40)] [vI q34] (σ, M, N) _ _
      refine r_run J 3 (pc' := 40) (lv' := [(1, vI q34), (0, vR 40)]) (st' := [vI q34, vR 40]) rfl ?_
      refine r_callV J (As := [vI q34]) (st := []) (fun r hr => c_X12_right q34 σ M N hL r hr) cls12 (ly_40 hL) wm_12_435 wy_X12_right wd_X12_right ⟨by decide, by decide, by decide, by decide, Nat.le_of_ble_eq_true rfl⟩ rfl rfl (fun q40 hq40 => ?_)
      show g_H E 0 0 43 [(1, vI q34), (0, vR 40)] [vI q40] (σ, M, N) _ _
      refine r_if_ne J (tgt := 48) rfl (by decide) (fun c43 => ?_) (fun c43 => ?_)
      · refine r_run J 1 (pc' := 47) (lv' := [(1, vI q34), (0, vR 40)]) (st' := [vI (-1)]) rfl ?_
        exact r_iret J rfl rfl rfl rfl (by decide) (by decide)
      · refine r_run J 1 (pc' := 49) (lv' := [(1, vI q34), (0, vR 40)]) (st' := [vR 40]) rfl ?_
        refine r_getI J cls12 rfl (k := 13) (by decide) wf_12_167 rfl (ly_40 hL) ?_
        show g_H E 0 0 52 [(1, vI q34), (0, vR 40)] [vI (M 40 13)] (σ, M, N) _ _
        refine r_run J 4 (pc' := 56) (lv' := [(2, vI (M 40 13)), (1, vI q34), (0, vR 40)]) (st' := [vI 2, vI q34, vR 40]) rfl ?_
        refine r_callV J (As := [vI q34, vI 2]) (st := []) (fun r hr => c_X12_now q34 2 σ M N hL r hr) cls12 (ly_40 hL) wm_12_387 wy_X12_now wd_X12_now ⟨by decide, by decide, by decide, by decide, Nat.le_of_ble_eq_true rfl⟩ rfl rfl (fun q56 hq56 => ?_)
        show g_H E 0 0 59 [(2, vI (M 40 13)), (1, vI q34), (0, vR 40)] [vI q56.1] (σ, q56.2.1, q56.2.2) _ _
        refine r_run J 2 (pc' := 61) (lv' := [(3, vI q56.1), (2, vI (M 40 13)), (1, vI q34), (0, vR 40)]) (st' := [vR 40]) rfl ?_
        refine r_getR J cls12 rfl (k := 32) (t := 14) (by decide) wf_12_84 rfl rfl (ly_40 hL) (lr_40_32 hL) (fun _ => ?_)
        show g_H E 0 0 64 [(3, vI q56.1), (2, vI (M 40 13)), (1, vI q34), (0, vR 40)] [vR 63] (σ, q56.2.1, q56.2.2) _ _
        refine r_run J 3 (pc' := 67) (lv' := [(3, vI q56.1), (2, vI (M 40 13)), (1, vI q34), (0, vR 40)]) (st' := [vI q34, vR 40, vI (M 40 13), vR 63]) rfl ?_
        refine r_callV J (As := [vI q34]) (st := [vI (M 40 13), vR 63]) (fun r hr => c_X12_billOf q34 σ q56.2.1 q56.2.2 hL r hr) cls12 (ly_40 hL) wm_12_438 wy_X12_billOf wd_X12_billOf ⟨by decide, by decide, by decide, by decide, Nat.le_of_ble_eq_true rfl⟩ rfl rfl (fun q67 hq67 => ?_)
        show g_H E 0 0 70 [(3, vI q56.1), (2, vI (M 40 13)), (1, vI q34), (0, vR 40)] [vI q67.1, vI (M 40 13), vR 63] (σ, q67.2.1, q67.2.2) _ _
        refine r_iast J rfl (ly_63 hL) (fun i70 => ?_)
        show g_H E 0 0 71 [(3, vI q56.1), (2, vI (M 40 13)), (1, vI q34), (0, vR 40)] [] (σ, (g_up q67.2.1 63 ((M 40 13).toNatClampNeg) q67.1), q67.2.2) _ _
        refine r_run J 2 (pc' := 74) (lv' := [(4, vI 0), (3, vI q56.1), (2, vI (M 40 13)), (1, vI q34), (0, vR 40)]) (st' := []) rfl ?_
        refine r_sub [4, 3, 2, 1, 0] (lv' := [(0, vR 40), (1, vI q34), (2, vI (M 40 13)), (3, vI q56.1), (4, vI 0)]) rfl ?_
        exact p_X12_night_74 J g_FU q34 (M 40 13) q56.1 0 σ (g_up q67.2.1 63 ((M 40 13).toNatClampNeg) q67.1) q67.2.2 hL
theorem c_X12_night {l : Launch} (σ : gS) (M : gM) (N : gN) (hL : g_layM σ) (r : Int32 × gM × gN) (h : f_X12_night σ M N = some r) : g_Ct l yX12_night cX12_night 10 (some .int) 72 0 0 [vR 40] (σ, M, N) (eIMN σ r) :=
  g_Ct.of tb_X12_night (by decide +kernel) tk_X12_night (Nat.le_of_ble_eq_true rfl) (fun E J => p_X12_night_0 J σ M N hL r h)
def tb_X12_lay : gT := [(0, .iload_n 1, 1, 0), (1, .iconst 0, 1, 0), (2, .aload_n 0, 1, 0), (3, .getfield 167, 3, 0), (6, .iconst 1, 1, 1), (7, .isub, 1, 0), (8, .invokestatic 160, 3, 0), (11, .ifCond .eq 25, 3, 0), (14, .aload_n 0, 1, 0), (15, .iload_n 2, 1, 0), (16, .invokevirtual 177, 3, 0), (19, .ifCond .eq 17, 3, 0), (22, .aload_n 0, 1, 0), (23, .getfield 81, 3, 0), (26, .bipush 10, 2, 10), (28, .iload_n 1, 1, 0), (29, .imul, 1, 0), (30, .iload_n 2, 1, 0), (31, .iadd, 1, 0), (32, .iaload, 1, 0), (33, .goto 4, 3, 0), (36, .iconst (-1), 1, (-1)), (37, .ireturn, 1, 0)]
set_option maxRecDepth 100000 in
theorem tk_X12_lay : g_okT cX12_lay tb_X12_lay = true := by decide +kernel
abbrev J_X12_lay (E : gE) (l : Launch) : Prop := g_J E cX12_lay RX12 "lay" (some .int) 3 tb_X12_lay 3 0 0 l
set_option maxHeartbeats 4000000 in
set_option maxRecDepth 100000 in
theorem p_X12_lay_0 {l : Launch} {E : gE} (J : J_X12_lay E l) (x1 : Int32) (x2 : Int32) (σ : gS) (M : gM) (N : gN) (hL : g_layM σ) : g_H E 0 0 0 [(0, vR 40), (1, vI x1), (2, vI x2)] [] (σ, M, N) (b_X12_lay_0 x1 x2 σ M) (eI σ M N) := by
  unfold b_X12_lay_0
  refine r_run J 3 (pc' := 3) (lv' := [(0, vR 40), (1, vI x1), (2, vI x2)]) (st' := [vR 40, vI 0, vI x1]) rfl ?_
  refine r_getI J cls12 rfl (k := 13) (by decide) wf_12_167 rfl (ly_40 hL) ?_
  show g_H E 0 0 6 [(0, vR 40), (1, vI x1), (2, vI x2)] [vI (M 40 13), vI 0, vI x1] (σ, M, N) _ _
  refine r_run J 2 (pc' := 8) (lv' := [(0, vR 40), (1, vI x1), (2, vI x2)]) (st' := [vI ((M 40 13) - (1 : Int32)), vI 0, vI x1]) rfl ?_
  refine r_callS J (As := [vI x1, vI 0, vI ((M 40 13) - (1 : Int32))]) (st := []) (fun r hr => c_X12_in x1 0 ((M 40 13) - (1 : Int32)) σ M N hL r hr) wm_12_160 wy_X12_in wd_X12_in ⟨by decide, by decide, by decide, by decide, Nat.le_of_ble_eq_true rfl⟩ rfl rfl (fun q8 hq8 => ?_)
  show g_H E 0 0 11 [(0, vR 40), (1, vI x1), (2, vI x2)] [vI q8] (σ, M, N) _ _
  refine r_if_eq J (tgt := 36) rfl (by decide) (fun c11 => ?_) (fun c11 => ?_)
  · refine r_run J 1 (pc' := 37) (lv' := [(0, vR 40), (1, vI x1), (2, vI x2)]) (st' := [vI (-1)]) rfl ?_
    exact r_iret J rfl rfl rfl rfl (by decide) (by decide)
  · refine r_run J 2 (pc' := 16) (lv' := [(0, vR 40), (1, vI x1), (2, vI x2)]) (st' := [vI x2, vR 40]) rfl ?_
    refine r_callV J (As := [vI x2]) (st := []) (fun r hr => c_X12_isPerson x2 σ M N hL r hr) cls12 (ly_40 hL) wm_12_177 wy_X12_isPerson wd_X12_isPerson ⟨by decide, by decide, by decide, by decide, Nat.le_of_ble_eq_true rfl⟩ rfl rfl (fun q16 hq16 => ?_)
    show g_H E 0 0 19 [(0, vR 40), (1, vI x1), (2, vI x2)] [vI q16] (σ, M, N) _ _
    refine r_if_eq J (tgt := 36) rfl (by decide) (fun c19 => ?_) (fun c19 => ?_)
    · refine r_run J 1 (pc' := 37) (lv' := [(0, vR 40), (1, vI x1), (2, vI x2)]) (st' := [vI (-1)]) rfl ?_
      exact r_iret J rfl rfl rfl rfl (by decide) (by decide)
    · refine r_run J 1 (pc' := 23) (lv' := [(0, vR 40), (1, vI x1), (2, vI x2)]) (st' := [vR 40]) rfl ?_
      refine r_getR J cls12 rfl (k := 31) (t := 14) (by decide) wf_12_81 rfl rfl (ly_40 hL) (lr_40_31 hL) (fun _ => ?_)
      show g_H E 0 0 26 [(0, vR 40), (1, vI x1), (2, vI x2)] [vR 62] (σ, M, N) _ _
      refine r_run J 5 (pc' := 32) (lv' := [(0, vR 40), (1, vI x1), (2, vI x2)]) (st' := [vI (((10 : Int32) * x1) + x2), vR 62]) rfl ?_
      refine r_iald J rfl (ly_62 hL) (fun i32 => ?_)
      show g_H E 0 0 33 [(0, vR 40), (1, vI x1), (2, vI x2)] [vI (M 62 (((10 : Int32) * x1) + x2).toNatClampNeg)] (σ, M, N) _ _
      refine r_run J 1 (pc' := 37) (lv' := [(0, vR 40), (1, vI x1), (2, vI x2)]) (st' := [vI (M 62 (((10 : Int32) * x1) + x2).toNatClampNeg)]) rfl ?_
      exact r_iret J rfl rfl rfl rfl (by decide) (by decide)
theorem c_X12_lay {l : Launch} (x1 : Int32) (x2 : Int32) (σ : gS) (M : gM) (N : gN) (hL : g_layM σ) (r : Int32) (h : f_X12_lay x1 x2 σ M = some r) : g_Ct l yX12_lay cX12_lay 3 (some .int) 3 0 0 [vR 40, vI x1, vI x2] (σ, M, N) (eI σ M N r) :=
  g_Ct.of tb_X12_lay (by decide +kernel) tk_X12_lay (Nat.le_of_ble_eq_true rfl) (fun E J => p_X12_lay_0 J x1 x2 σ M N hL r h)
def tb_X12_bill : gT := [(0, .aload_n 0, 1, 0), (1, .iload_n 1, 1, 0), (2, .iconst 0, 1, 0), (3, .aload_n 0, 1, 0), (4, .getfield 167, 3, 0), (7, .iconst 1, 1, 1), (8, .isub, 1, 0), (9, .invokestatic 160, 3, 0), (12, .ifCond .eq 7, 3, 0), (15, .iconst 0, 1, 0), (16, .goto 4, 3, 0), (19, .iconst 1, 1, 1), (20, .putfield 1, 3, 0), (23, .aload_n 0, 1, 0), (24, .getfield 1, 3, 0), (27, .ifCond .ne 12, 3, 0), (30, .aload_n 0, 1, 0), (31, .getfield 84, 3, 0), (34, .iload_n 1, 1, 0), (35, .iaload, 1, 0), (36, .goto 4, 3, 0), (39, .iconst 0, 1, 0), (40, .ireturn, 1, 0)]
set_option maxRecDepth 100000 in
theorem tk_X12_bill : g_okT cX12_bill tb_X12_bill = true := by decide +kernel
abbrev J_X12_bill (E : gE) (l : Launch) : Prop := g_J E cX12_bill RX12 "bill" (some .int) 2 tb_X12_bill 2 0 0 l
set_option maxHeartbeats 4000000 in
set_option maxRecDepth 100000 in
theorem p_X12_bill_20 {l : Launch} {E : gE} (J : J_X12_bill E l) (x1 : Int32) (sx0 : Int32) (σ : gS) (M : gM) (N : gN) (hL : g_layM σ) : g_H E 0 0 20 [(0, vR 40), (1, vI x1)] [vI sx0, vR 40] (σ, M, N) (b_X12_bill_20 x1 sx0 σ M) (eIM σ N) := by
  unfold b_X12_bill_20
  refine r_putI J cls12 rfl (k := 0) (by decide) wf_12_1 rfl (Or.inl rfl) ⟨rfl, rfl⟩ (ly_40 hL) ?_
  show g_H E 0 0 23 [(0, vR 40), (1, vI x1)] [] (σ, (g_up M 40 0 sx0), N) _ _
  refine r_run J 1 (pc' := 24) (lv' := [(0, vR 40), (1, vI x1)]) (st' := [vR 40]) rfl ?_
  refine r_getI J cls12 rfl (k := 0) (by decide) wf_12_1 rfl (ly_40 hL) ?_
  show g_H E 0 0 27 [(0, vR 40), (1, vI x1)] [vI ((g_up M 40 0 sx0) 40 0)] (σ, (g_up M 40 0 sx0), N) _ _
  refine r_if_ne J (tgt := 39) rfl (by decide) (fun c27 => ?_) (fun c27 => ?_)
  · refine r_run J 1 (pc' := 31) (lv' := [(0, vR 40), (1, vI x1)]) (st' := [vR 40]) rfl ?_
    refine r_getR J cls12 rfl (k := 32) (t := 14) (by decide) wf_12_84 rfl rfl (ly_40 hL) (lr_40_32 hL) (fun _ => ?_)
    show g_H E 0 0 34 [(0, vR 40), (1, vI x1)] [vR 63] (σ, (g_up M 40 0 sx0), N) _ _
    refine r_run J 1 (pc' := 35) (lv' := [(0, vR 40), (1, vI x1)]) (st' := [vI x1, vR 63]) rfl ?_
    refine r_iald J rfl (ly_63 hL) (fun i35 => ?_)
    show g_H E 0 0 36 [(0, vR 40), (1, vI x1)] [vI ((g_up M 40 0 sx0) 63 x1.toNatClampNeg)] (σ, (g_up M 40 0 sx0), N) _ _
    refine r_run J 1 (pc' := 40) (lv' := [(0, vR 40), (1, vI x1)]) (st' := [vI ((g_up M 40 0 sx0) 63 x1.toNatClampNeg)]) rfl ?_
    exact r_iret J rfl rfl rfl rfl (by decide) (by decide)
  · refine r_run J 1 (pc' := 40) (lv' := [(0, vR 40), (1, vI x1)]) (st' := [vI 0]) rfl ?_
    exact r_iret J rfl rfl rfl rfl (by decide) (by decide)
set_option maxHeartbeats 4000000 in
set_option maxRecDepth 100000 in
theorem p_X12_bill_0 {l : Launch} {E : gE} (J : J_X12_bill E l) (x1 : Int32) (σ : gS) (M : gM) (N : gN) (hL : g_layM σ) : g_H E 0 0 0 [(0, vR 40), (1, vI x1)] [] (σ, M, N) (b_X12_bill_0 x1 σ M) (eIM σ N) := by
  unfold b_X12_bill_0
  refine r_run J 4 (pc' := 4) (lv' := [(0, vR 40), (1, vI x1)]) (st' := [vR 40, vI 0, vI x1, vR 40]) rfl ?_
  refine r_getI J cls12 rfl (k := 13) (by decide) wf_12_167 rfl (ly_40 hL) ?_
  show g_H E 0 0 7 [(0, vR 40), (1, vI x1)] [vI (M 40 13), vI 0, vI x1, vR 40] (σ, M, N) _ _
  refine r_run J 2 (pc' := 9) (lv' := [(0, vR 40), (1, vI x1)]) (st' := [vI ((M 40 13) - (1 : Int32)), vI 0, vI x1, vR 40]) rfl ?_
  refine r_callS J (As := [vI x1, vI 0, vI ((M 40 13) - (1 : Int32))]) (st := [vR 40]) (fun r hr => c_X12_in x1 0 ((M 40 13) - (1 : Int32)) σ M N hL r hr) wm_12_160 wy_X12_in wd_X12_in ⟨by decide, by decide, by decide, by decide, Nat.le_of_ble_eq_true rfl⟩ rfl rfl (fun q9 hq9 => ?_)
  show g_H E 0 0 12 [(0, vR 40), (1, vI x1)] [vI q9, vR 40] (σ, M, N) _ _
  refine r_if_eq J (tgt := 19) rfl (by decide) (fun c12 => ?_) (fun c12 => ?_)
  · refine r_run J 1 (pc' := 20) (lv' := [(0, vR 40), (1, vI x1)]) (st' := [vI 1, vR 40]) rfl ?_
    exact p_X12_bill_20 J x1 1 σ M N hL
  · refine r_run J 2 (pc' := 20) (lv' := [(0, vR 40), (1, vI x1)]) (st' := [vI 0, vR 40]) rfl ?_
    exact p_X12_bill_20 J x1 0 σ M N hL
theorem c_X12_bill {l : Launch} (x1 : Int32) (σ : gS) (M : gM) (N : gN) (hL : g_layM σ) (r : Int32 × gM) (h : f_X12_bill x1 σ M = some r) : g_Ct l yX12_bill cX12_bill 2 (some .int) 2 0 0 [vR 40, vI x1] (σ, M, N) (eIM σ N r) :=
  g_Ct.of tb_X12_bill (by decide +kernel) tk_X12_bill (Nat.le_of_ble_eq_true rfl) (fun E J => p_X12_bill_0 J x1 σ M N hL r h)
def tb_X12_owes_ : gT := [(0, .aload_n 0, 1, 0), (1, .aload_n 0, 1, 0), (2, .iload_n 1, 1, 0), (3, .invokevirtual 177, 3, 0), (6, .ifCond .eq 7, 3, 0), (9, .iconst 0, 1, 0), (10, .goto 4, 3, 0), (13, .iconst 1, 1, 1), (14, .putfield 1, 3, 0), (17, .aload_n 0, 1, 0), (18, .getfield 1, 3, 0), (21, .ifCond .ne 12, 3, 0), (24, .aload_n 0, 1, 0), (25, .getfield 87, 3, 0), (28, .iload_n 1, 1, 0), (29, .iaload, 1, 0), (30, .goto 4, 3, 0), (33, .iconst 0, 1, 0), (34, .ireturn, 1, 0)]
set_option maxRecDepth 100000 in
theorem tk_X12_owes_ : g_okT cX12_owes_ tb_X12_owes_ = true := by decide +kernel
abbrev J_X12_owes_ (E : gE) (l : Launch) : Prop := g_J E cX12_owes_ RX12 "owes" (some .int) 2 tb_X12_owes_ 3 0 0 l
set_option maxHeartbeats 4000000 in
set_option maxRecDepth 100000 in
theorem p_X12_owes__14 {l : Launch} {E : gE} (J : J_X12_owes_ E l) (x1 : Int32) (sx0 : Int32) (σ : gS) (M : gM) (N : gN) (hL : g_layM σ) : g_H E 0 0 14 [(0, vR 40), (1, vI x1)] [vI sx0, vR 40] (σ, M, N) (b_X12_owes__14 x1 sx0 σ M) (eIM σ N) := by
  unfold b_X12_owes__14
  refine r_putI J cls12 rfl (k := 0) (by decide) wf_12_1 rfl (Or.inl rfl) ⟨rfl, rfl⟩ (ly_40 hL) ?_
  show g_H E 0 0 17 [(0, vR 40), (1, vI x1)] [] (σ, (g_up M 40 0 sx0), N) _ _
  refine r_run J 1 (pc' := 18) (lv' := [(0, vR 40), (1, vI x1)]) (st' := [vR 40]) rfl ?_
  refine r_getI J cls12 rfl (k := 0) (by decide) wf_12_1 rfl (ly_40 hL) ?_
  show g_H E 0 0 21 [(0, vR 40), (1, vI x1)] [vI ((g_up M 40 0 sx0) 40 0)] (σ, (g_up M 40 0 sx0), N) _ _
  refine r_if_ne J (tgt := 33) rfl (by decide) (fun c21 => ?_) (fun c21 => ?_)
  · refine r_run J 1 (pc' := 25) (lv' := [(0, vR 40), (1, vI x1)]) (st' := [vR 40]) rfl ?_
    refine r_getR J cls12 rfl (k := 33) (t := 14) (by decide) wf_12_87 rfl rfl (ly_40 hL) (lr_40_33 hL) (fun _ => ?_)
    show g_H E 0 0 28 [(0, vR 40), (1, vI x1)] [vR 64] (σ, (g_up M 40 0 sx0), N) _ _
    refine r_run J 1 (pc' := 29) (lv' := [(0, vR 40), (1, vI x1)]) (st' := [vI x1, vR 64]) rfl ?_
    refine r_iald J rfl (ly_64 hL) (fun i29 => ?_)
    show g_H E 0 0 30 [(0, vR 40), (1, vI x1)] [vI ((g_up M 40 0 sx0) 64 x1.toNatClampNeg)] (σ, (g_up M 40 0 sx0), N) _ _
    refine r_run J 1 (pc' := 34) (lv' := [(0, vR 40), (1, vI x1)]) (st' := [vI ((g_up M 40 0 sx0) 64 x1.toNatClampNeg)]) rfl ?_
    exact r_iret J rfl rfl rfl rfl (by decide) (by decide)
  · refine r_run J 1 (pc' := 34) (lv' := [(0, vR 40), (1, vI x1)]) (st' := [vI 0]) rfl ?_
    exact r_iret J rfl rfl rfl rfl (by decide) (by decide)
set_option maxHeartbeats 4000000 in
set_option maxRecDepth 100000 in
theorem p_X12_owes__0 {l : Launch} {E : gE} (J : J_X12_owes_ E l) (x1 : Int32) (σ : gS) (M : gM) (N : gN) (hL : g_layM σ) : g_H E 0 0 0 [(0, vR 40), (1, vI x1)] [] (σ, M, N) (b_X12_owes__0 x1 σ M) (eIM σ N) := by
  unfold b_X12_owes__0
  refine r_run J 3 (pc' := 3) (lv' := [(0, vR 40), (1, vI x1)]) (st' := [vI x1, vR 40, vR 40]) rfl ?_
  refine r_callV J (As := [vI x1]) (st := [vR 40]) (fun r hr => c_X12_isPerson x1 σ M N hL r hr) cls12 (ly_40 hL) wm_12_177 wy_X12_isPerson wd_X12_isPerson ⟨by decide, by decide, by decide, by decide, Nat.le_of_ble_eq_true rfl⟩ rfl rfl (fun q3 hq3 => ?_)
  show g_H E 0 0 6 [(0, vR 40), (1, vI x1)] [vI q3, vR 40] (σ, M, N) _ _
  refine r_if_eq J (tgt := 13) rfl (by decide) (fun c6 => ?_) (fun c6 => ?_)
  · refine r_run J 1 (pc' := 14) (lv' := [(0, vR 40), (1, vI x1)]) (st' := [vI 1, vR 40]) rfl ?_
    exact p_X12_owes__14 J x1 1 σ M N hL
  · refine r_run J 2 (pc' := 14) (lv' := [(0, vR 40), (1, vI x1)]) (st' := [vI 0, vR 40]) rfl ?_
    exact p_X12_owes__14 J x1 0 σ M N hL
theorem c_X12_owes_ {l : Launch} (x1 : Int32) (σ : gS) (M : gM) (N : gN) (hL : g_layM σ) (r : Int32 × gM) (h : f_X12_owes_ x1 σ M = some r) : g_Ct l yX12_owes_ cX12_owes_ 2 (some .int) 3 0 0 [vR 40, vI x1] (σ, M, N) (eIM σ N r) :=
  g_Ct.of tb_X12_owes_ (by decide +kernel) tk_X12_owes_ (Nat.le_of_ble_eq_true rfl) (fun E J => p_X12_owes__0 J x1 σ M N hL r h)
def tb_X12_meals : gT := [(0, .aload_n 0, 1, 0), (1, .iload_n 1, 1, 0), (2, .invokevirtual 170, 3, 0), (5, .ifCond .eq 12, 3, 0), (8, .iload_n 2, 1, 0), (9, .iconst 0, 1, 0), (10, .iconst 3, 1, 3), (11, .invokestatic 160, 3, 0), (14, .ifCond .ne 5, 3, 0), (17, .iconst (-1), 1, (-1)), (18, .ireturn, 1, 0), (19, .iconst 0, 1, 0), (20, .istore_n 3, 1, 0), (21, .iconst 0, 1, 0), (22, .istore 4, 2, 0), (24, .iload 4, 2, 0), (26, .aload_n 0, 1, 0), (27, .getfield 157, 3, 0), (30, .if_icmp .ge 44, 3, 0), (33, .iload_n 3, 1, 0), (34, .aload_n 0, 1, 0), (35, .getfield 66, 3, 0), (38, .bipush 10, 2, 10), (40, .iload_n 1, 1, 0), (41, .imul, 1, 0), (42, .iload 4, 2, 0), (44, .iadd, 1, 0), (45, .iaload, 1, 0), (46, .iconst (-1), 1, (-1)), (47, .if_icmp .eq 18, 3, 0), (50, .aload_n 0, 1, 0), (51, .getfield 24, 3, 0), (54, .iload 4, 2, 0), (56, .iaload, 1, 0), (57, .iload_n 2, 1, 0), (58, .if_icmp .ne 7, 3, 0), (61, .iconst 1, 1, 1), (62, .goto 4, 3, 0), (65, .iconst 0, 1, 0), (66, .iadd, 1, 0), (67, .istore_n 3, 1, 0), (68, .iinc 4 1, 3, 1), (71, .goto (-47), 3, 0), (74, .iload_n 3, 1, 0), (75, .ireturn, 1, 0)]
set_option maxRecDepth 100000 in
theorem tk_X12_meals : g_okT cX12_meals tb_X12_meals = true := by decide +kernel
abbrev J_X12_meals (E : gE) (l : Launch) : Prop := g_J E cX12_meals RX12 "meals" (some .int) 5 tb_X12_meals 3 0 0 l
set_option maxHeartbeats 4000000 in
set_option maxRecDepth 100000 in
theorem p_X12_meals_66 {l : Launch} {E : gE} (J : J_X12_meals E l) {k24 : Int32 → Int32 → Int32 → Int32 → gS → gM → Option (Int32)} (H24 : ∀ (x1 : Int32) (x2 : Int32) (x3 : Int32) (x4 : Int32) (σ : gS) (M : gM) (N : gN) (_ : g_layM σ), g_H E 0 0 24 [(0, vR 40), (1, vI x1), (2, vI x2), (3, vI x3), (4, vI x4)] [] (σ, M, N) (k24 x1 x2 x3 x4 σ M) (eI σ M N)) (x1 : Int32) (x2 : Int32) (x4 : Int32) (sx0 : Int32) (sx1 : Int32) (σ : gS) (M : gM) (N : gN) (hL : g_layM σ) : g_H E 0 0 66 [(0, vR 40), (1, vI x1), (2, vI x2), (4, vI x4)] [vI sx0, vI sx1] (σ, M, N) (b_X12_meals_66 k24 x1 x2 x4 sx0 sx1 σ M) (eI σ M N) := by
  unfold b_X12_meals_66
  refine r_run J 4 (pc' := 24) (lv' := [(4, vI (x4 + 1)), (3, vI (sx1 + sx0)), (0, vR 40), (1, vI x1), (2, vI x2)]) (st' := []) rfl ?_
  refine r_sub [2, 3, 4, 1, 0] (lv' := [(0, vR 40), (1, vI x1), (2, vI x2), (3, vI (sx1 + sx0)), (4, vI (x4 + 1))]) rfl ?_
  exact H24 x1 x2 (sx1 + sx0) (x4 + 1) σ M N hL
set_option maxHeartbeats 4000000 in
set_option maxRecDepth 100000 in
theorem p_X12_meals_65 {l : Launch} {E : gE} (J : J_X12_meals E l) {k24 : Int32 → Int32 → Int32 → Int32 → gS → gM → Option (Int32)} (H24 : ∀ (x1 : Int32) (x2 : Int32) (x3 : Int32) (x4 : Int32) (σ : gS) (M : gM) (N : gN) (_ : g_layM σ), g_H E 0 0 24 [(0, vR 40), (1, vI x1), (2, vI x2), (3, vI x3), (4, vI x4)] [] (σ, M, N) (k24 x1 x2 x3 x4 σ M) (eI σ M N)) (x1 : Int32) (x2 : Int32) (x4 : Int32) (sx0 : Int32) (σ : gS) (M : gM) (N : gN) (hL : g_layM σ) : g_H E 0 0 65 [(0, vR 40), (1, vI x1), (2, vI x2), (4, vI x4)] [vI sx0] (σ, M, N) (b_X12_meals_65 k24 x1 x2 x4 sx0 σ M) (eI σ M N) := by
  unfold b_X12_meals_65
  refine r_run J 1 (pc' := 66) (lv' := [(0, vR 40), (1, vI x1), (2, vI x2), (4, vI x4)]) (st' := [vI 0, vI sx0]) rfl ?_
  exact p_X12_meals_66 J H24 x1 x2 x4 0 sx0 σ M N hL
set_option maxHeartbeats 4000000 in
set_option maxRecDepth 100000 in
theorem p_X12_meals_24 {l : Launch} {E : gE} (J : J_X12_meals E l) : ∀ (n : Nat) (x1 : Int32) (x2 : Int32) (x3 : Int32) (x4 : Int32) (σ : gS) (M : gM) (N : gN) (hL : g_layM σ), g_H E 0 0 24 [(0, vR 40), (1, vI x1), (2, vI x2), (3, vI x3), (4, vI x4)] [] (σ, M, N) (l_X12_meals_24 n x1 x2 x3 x4 σ M) (eI σ M N) := by
  intro n
  induction n with
  | zero => intros; exact h_none
  | succ n ih =>
    intro x1 x2 x3 x4 σ M N hL
    rw [l_X12_meals_24]
    refine r_run J 2 (pc' := 27) (lv' := [(0, vR 40), (1, vI x1), (2, vI x2), (3, vI x3), (4, vI x4)]) (st' := [vR 40, vI x4]) rfl ?_
    refine r_getI J cls12 rfl (k := 1) (by decide) wf_12_157 rfl (ly_40 hL) ?_
    show g_H E 0 0 30 [(0, vR 40), (1, vI x1), (2, vI x2), (3, vI x3), (4, vI x4)] [vI (M 40 1), vI x4] (σ, M, N) _ _
    refine r_icmp_ge J (tgt := 74) rfl (by decide) (fun c30 => ?_) (fun c30 => ?_)
    · refine r_run J 2 (pc' := 35) (lv' := [(0, vR 40), (1, vI x1), (2, vI x2), (3, vI x3), (4, vI x4)]) (st' := [vR 40, vI x3]) rfl ?_
      refine r_getR J cls12 rfl (k := 25) (t := 14) (by decide) wf_12_66 rfl rfl (ly_40 hL) (lr_40_25 hL) (fun _ => ?_)
      show g_H E 0 0 38 [(0, vR 40), (1, vI x1), (2, vI x2), (3, vI x3), (4, vI x4)] [vR 57, vI x3] (σ, M, N) _ _
      refine r_run J 5 (pc' := 45) (lv' := [(0, vR 40), (1, vI x1), (2, vI x2), (3, vI x3), (4, vI x4)]) (st' := [vI (((10 : Int32) * x1) + x4), vR 57, vI x3]) rfl ?_
      refine r_iald J rfl (ly_57 hL) (fun i45 => ?_)
      show g_H E 0 0 46 [(0, vR 40), (1, vI x1), (2, vI x2), (3, vI x3), (4, vI x4)] [vI (M 57 (((10 : Int32) * x1) + x4).toNatClampNeg), vI x3] (σ, M, N) _ _
      refine r_run J 1 (pc' := 47) (lv' := [(0, vR 40), (1, vI x1), (2, vI x2), (3, vI x3), (4, vI x4)]) (st' := [vI (-1), vI (M 57 (((10 : Int32) * x1) + x4).toNatClampNeg), vI x3]) rfl ?_
      refine r_icmp_eq J (tgt := 65) rfl (by decide) (fun c47 => ?_) (fun c47 => ?_)
      · refine r_sub [0, 1, 2, 4] (lv' := [(0, vR 40), (1, vI x1), (2, vI x2), (4, vI x4)]) rfl ?_
        exact p_X12_meals_65 J ih x1 x2 x4 x3 σ M N hL
      · refine r_run J 1 (pc' := 51) (lv' := [(0, vR 40), (1, vI x1), (2, vI x2), (3, vI x3), (4, vI x4)]) (st' := [vR 40, vI x3]) rfl ?_
        refine r_getR J cls12 rfl (k := 5) (t := 14) (by decide) wf_12_24 rfl rfl (ly_40 hL) (lr_40_5 hL) (fun _ => ?_)
        show g_H E 0 0 54 [(0, vR 40), (1, vI x1), (2, vI x2), (3, vI x3), (4, vI x4)] [vR 44, vI x3] (σ, M, N) _ _
        refine r_run J 1 (pc' := 56) (lv' := [(0, vR 40), (1, vI x1), (2, vI x2), (3, vI x3), (4, vI x4)]) (st' := [vI x4, vR 44, vI x3]) rfl ?_
        refine r_iald J rfl (ly_44 hL) (fun i56 => ?_)
        show g_H E 0 0 57 [(0, vR 40), (1, vI x1), (2, vI x2), (3, vI x3), (4, vI x4)] [vI (M 44 x4.toNatClampNeg), vI x3] (σ, M, N) _ _
        refine r_run J 1 (pc' := 58) (lv' := [(0, vR 40), (1, vI x1), (2, vI x2), (3, vI x3), (4, vI x4)]) (st' := [vI x2, vI (M 44 x4.toNatClampNeg), vI x3]) rfl ?_
        refine r_icmp_ne J (tgt := 65) rfl (by decide) (fun c58 => ?_) (fun c58 => ?_)
        · refine r_run J 2 (pc' := 66) (lv' := [(0, vR 40), (1, vI x1), (2, vI x2), (3, vI x3), (4, vI x4)]) (st' := [vI 1, vI x3]) rfl ?_
          refine r_sub [0, 1, 2, 4] (lv' := [(0, vR 40), (1, vI x1), (2, vI x2), (4, vI x4)]) rfl ?_
          exact p_X12_meals_66 J ih x1 x2 x4 1 x3 σ M N hL
        · refine r_sub [0, 1, 2, 4] (lv' := [(0, vR 40), (1, vI x1), (2, vI x2), (4, vI x4)]) rfl ?_
          exact p_X12_meals_65 J ih x1 x2 x4 x3 σ M N hL
    · refine r_run J 1 (pc' := 75) (lv' := [(0, vR 40), (1, vI x1), (2, vI x2), (3, vI x3), (4, vI x4)]) (st' := [vI x3]) rfl ?_
      exact r_iret J rfl rfl rfl rfl (by decide) (by decide)
set_option maxHeartbeats 4000000 in
set_option maxRecDepth 100000 in
theorem p_X12_meals_0 {l : Launch} {E : gE} (J : J_X12_meals E l) (x1 : Int32) (x2 : Int32) (σ : gS) (M : gM) (N : gN) (hL : g_layM σ) : g_H E 0 0 0 [(0, vR 40), (1, vI x1), (2, vI x2)] [] (σ, M, N) (b_X12_meals_0 x1 x2 σ M) (eI σ M N) := by
  unfold b_X12_meals_0
  refine r_run J 2 (pc' := 2) (lv' := [(0, vR 40), (1, vI x1), (2, vI x2)]) (st' := [vI x1, vR 40]) rfl ?_
  refine r_callV J (As := [vI x1]) (st := []) (fun r hr => c_X12_isTown x1 σ M N hL r hr) cls12 (ly_40 hL) wm_12_170 wy_X12_isTown wd_X12_isTown ⟨by decide, by decide, by decide, by decide, Nat.le_of_ble_eq_true rfl⟩ rfl rfl (fun q2 hq2 => ?_)
  show g_H E 0 0 5 [(0, vR 40), (1, vI x1), (2, vI x2)] [vI q2] (σ, M, N) _ _
  refine r_if_eq J (tgt := 17) rfl (by decide) (fun c5 => ?_) (fun c5 => ?_)
  · refine r_run J 1 (pc' := 18) (lv' := [(0, vR 40), (1, vI x1), (2, vI x2)]) (st' := [vI (-1)]) rfl ?_
    exact r_iret J rfl rfl rfl rfl (by decide) (by decide)
  · refine r_run J 3 (pc' := 11) (lv' := [(0, vR 40), (1, vI x1), (2, vI x2)]) (st' := [vI 3, vI 0, vI x2]) rfl ?_
    refine r_callS J (As := [vI x2, vI 0, vI 3]) (st := []) (fun r hr => c_X12_in x2 0 3 σ M N hL r hr) wm_12_160 wy_X12_in wd_X12_in ⟨by decide, by decide, by decide, by decide, Nat.le_of_ble_eq_true rfl⟩ rfl rfl (fun q11 hq11 => ?_)
    show g_H E 0 0 14 [(0, vR 40), (1, vI x1), (2, vI x2)] [vI q11] (σ, M, N) _ _
    refine r_if_ne J (tgt := 19) rfl (by decide) (fun c14 => ?_) (fun c14 => ?_)
    · refine r_run J 1 (pc' := 18) (lv' := [(0, vR 40), (1, vI x1), (2, vI x2)]) (st' := [vI (-1)]) rfl ?_
      exact r_iret J rfl rfl rfl rfl (by decide) (by decide)
    · refine r_run J 4 (pc' := 24) (lv' := [(4, vI 0), (3, vI 0), (0, vR 40), (1, vI x1), (2, vI x2)]) (st' := []) rfl ?_
      refine r_sub [2, 3, 4, 1, 0] (lv' := [(0, vR 40), (1, vI x1), (2, vI x2), (3, vI 0), (4, vI 0)]) rfl ?_
      exact p_X12_meals_24 J g_FU x1 x2 0 0 σ M N hL
theorem c_X12_meals {l : Launch} (x1 : Int32) (x2 : Int32) (σ : gS) (M : gM) (N : gN) (hL : g_layM σ) (r : Int32) (h : f_X12_meals x1 x2 σ M = some r) : g_Ct l yX12_meals cX12_meals 5 (some .int) 3 0 0 [vR 40, vI x1, vI x2] (σ, M, N) (eI σ M N r) :=
  g_Ct.of tb_X12_meals (by decide +kernel) tk_X12_meals (Nat.le_of_ble_eq_true rfl) (fun E J => p_X12_meals_0 J x1 x2 σ M N hL r h)
def tb_X12_costOf : gT := [(0, .iconst 0, 1, 0), (1, .istore_n 2, 1, 0), (2, .iconst 0, 1, 0), (3, .istore_n 3, 1, 0), (4, .iload_n 3, 1, 0), (5, .aload_n 0, 1, 0), (6, .getfield 51, 3, 0), (9, .iload_n 1, 1, 0), (10, .iaload, 1, 0), (11, .if_icmp .ge 36, 3, 0), (14, .iload_n 2, 1, 0), (15, .aload_n 0, 1, 0), (16, .iload_n 1, 1, 0), (17, .iload_n 3, 1, 0), (18, .invokevirtual 211, 3, 0), (21, .ifCond .ne 7, 3, 0), (24, .iconst 0, 1, 0), (25, .goto 14, 3, 0), (28, .aload_n 0, 1, 0), (29, .getfield 60, 3, 0), (32, .bipush 10, 2, 10), (34, .iload_n 1, 1, 0), (35, .imul, 1, 0), (36, .iload_n 3, 1, 0), (37, .iadd, 1, 0), (38, .iaload, 1, 0), (39, .iadd, 1, 0), (40, .istore_n 2, 1, 0), (41, .iinc 3 1, 3, 1), (44, .goto (-40), 3, 0), (47, .iload_n 2, 1, 0), (48, .ireturn, 1, 0)]
set_option maxRecDepth 100000 in
theorem tk_X12_costOf : g_okT cX12_costOf tb_X12_costOf = true := by decide +kernel
abbrev J_X12_costOf (E : gE) (l : Launch) : Prop := g_J E cX12_costOf RX12 "costOf" (some .int) 4 tb_X12_costOf 2 0 0 l
set_option maxHeartbeats 4000000 in
set_option maxRecDepth 100000 in
theorem p_X12_costOf_39 {l : Launch} {E : gE} (J : J_X12_costOf E l) {k4 : Int32 → Int32 → Int32 → gS → gM → Option (Int32)} (H4 : ∀ (x1 : Int32) (x2 : Int32) (x3 : Int32) (σ : gS) (M : gM) (N : gN) (_ : g_layM σ), g_H E 0 0 4 [(0, vR 40), (1, vI x1), (2, vI x2), (3, vI x3)] [] (σ, M, N) (k4 x1 x2 x3 σ M) (eI σ M N)) (x1 : Int32) (x3 : Int32) (sx0 : Int32) (sx1 : Int32) (σ : gS) (M : gM) (N : gN) (hL : g_layM σ) : g_H E 0 0 39 [(0, vR 40), (1, vI x1), (3, vI x3)] [vI sx0, vI sx1] (σ, M, N) (b_X12_costOf_39 k4 x1 x3 sx0 sx1 σ M) (eI σ M N) := by
  unfold b_X12_costOf_39
  refine r_run J 4 (pc' := 4) (lv' := [(3, vI (x3 + 1)), (2, vI (sx1 + sx0)), (0, vR 40), (1, vI x1)]) (st' := []) rfl ?_
  refine r_sub [2, 3, 1, 0] (lv' := [(0, vR 40), (1, vI x1), (2, vI (sx1 + sx0)), (3, vI (x3 + 1))]) rfl ?_
  exact H4 x1 (sx1 + sx0) (x3 + 1) σ M N hL
set_option maxHeartbeats 4000000 in
set_option maxRecDepth 100000 in
theorem p_X12_costOf_4 {l : Launch} {E : gE} (J : J_X12_costOf E l) : ∀ (n : Nat) (x1 : Int32) (x2 : Int32) (x3 : Int32) (σ : gS) (M : gM) (N : gN) (hL : g_layM σ), g_H E 0 0 4 [(0, vR 40), (1, vI x1), (2, vI x2), (3, vI x3)] [] (σ, M, N) (l_X12_costOf_4 n x1 x2 x3 σ M) (eI σ M N) := by
  intro n
  induction n with
  | zero => intros; exact h_none
  | succ n ih =>
    intro x1 x2 x3 σ M N hL
    rw [l_X12_costOf_4]
    refine r_run J 2 (pc' := 6) (lv' := [(0, vR 40), (1, vI x1), (2, vI x2), (3, vI x3)]) (st' := [vR 40, vI x3]) rfl ?_
    refine r_getR J cls12 rfl (k := 20) (t := 14) (by decide) wf_12_51 rfl rfl (ly_40 hL) (lr_40_20 hL) (fun _ => ?_)
    show g_H E 0 0 9 [(0, vR 40), (1, vI x1), (2, vI x2), (3, vI x3)] [vR 52, vI x3] (σ, M, N) _ _
    refine r_run J 1 (pc' := 10) (lv' := [(0, vR 40), (1, vI x1), (2, vI x2), (3, vI x3)]) (st' := [vI x1, vR 52, vI x3]) rfl ?_
    refine r_iald J rfl (ly_52 hL) (fun i10 => ?_)
    show g_H E 0 0 11 [(0, vR 40), (1, vI x1), (2, vI x2), (3, vI x3)] [vI (M 52 x1.toNatClampNeg), vI x3] (σ, M, N) _ _
    refine r_icmp_ge J (tgt := 47) rfl (by decide) (fun c11 => ?_) (fun c11 => ?_)
    · refine r_run J 4 (pc' := 18) (lv' := [(0, vR 40), (1, vI x1), (2, vI x2), (3, vI x3)]) (st' := [vI x3, vI x1, vR 40, vI x2]) rfl ?_
      refine r_callV J (As := [vI x1, vI x3]) (st := [vI x2]) (fun r hr => c_X12_setIn x1 x3 σ M N hL r hr) cls12 (ly_40 hL) wm_12_211 wy_X12_setIn wd_X12_setIn ⟨by decide, by decide, by decide, by decide, Nat.le_of_ble_eq_true rfl⟩ rfl rfl (fun q18 hq18 => ?_)
      show g_H E 0 0 21 [(0, vR 40), (1, vI x1), (2, vI x2), (3, vI x3)] [vI q18, vI x2] (σ, M, N) _ _
      refine r_if_ne J (tgt := 28) rfl (by decide) (fun c21 => ?_) (fun c21 => ?_)
      · refine r_run J 2 (pc' := 39) (lv' := [(0, vR 40), (1, vI x1), (2, vI x2), (3, vI x3)]) (st' := [vI 0, vI x2]) rfl ?_
        refine r_sub [0, 1, 3] (lv' := [(0, vR 40), (1, vI x1), (3, vI x3)]) rfl ?_
        exact p_X12_costOf_39 J ih x1 x3 0 x2 σ M N hL
      · refine r_run J 1 (pc' := 29) (lv' := [(0, vR 40), (1, vI x1), (2, vI x2), (3, vI x3)]) (st' := [vR 40, vI x2]) rfl ?_
        refine r_getR J cls12 rfl (k := 23) (t := 14) (by decide) wf_12_60 rfl rfl (ly_40 hL) (lr_40_23 hL) (fun _ => ?_)
        show g_H E 0 0 32 [(0, vR 40), (1, vI x1), (2, vI x2), (3, vI x3)] [vR 55, vI x2] (σ, M, N) _ _
        refine r_run J 5 (pc' := 38) (lv' := [(0, vR 40), (1, vI x1), (2, vI x2), (3, vI x3)]) (st' := [vI (((10 : Int32) * x1) + x3), vR 55, vI x2]) rfl ?_
        refine r_iald J rfl (ly_55 hL) (fun i38 => ?_)
        show g_H E 0 0 39 [(0, vR 40), (1, vI x1), (2, vI x2), (3, vI x3)] [vI (M 55 (((10 : Int32) * x1) + x3).toNatClampNeg), vI x2] (σ, M, N) _ _
        refine r_sub [0, 1, 3] (lv' := [(0, vR 40), (1, vI x1), (3, vI x3)]) rfl ?_
        exact p_X12_costOf_39 J ih x1 x3 (M 55 (((10 : Int32) * x1) + x3).toNatClampNeg) x2 σ M N hL
    · refine r_run J 1 (pc' := 48) (lv' := [(0, vR 40), (1, vI x1), (2, vI x2), (3, vI x3)]) (st' := [vI x2]) rfl ?_
      exact r_iret J rfl rfl rfl rfl (by decide) (by decide)
set_option maxHeartbeats 4000000 in
set_option maxRecDepth 100000 in
theorem p_X12_costOf_0 {l : Launch} {E : gE} (J : J_X12_costOf E l) (x1 : Int32) (σ : gS) (M : gM) (N : gN) (hL : g_layM σ) : g_H E 0 0 0 [(0, vR 40), (1, vI x1)] [] (σ, M, N) (b_X12_costOf_0 x1 σ M) (eI σ M N) := by
  unfold b_X12_costOf_0
  refine r_run J 4 (pc' := 4) (lv' := [(3, vI 0), (2, vI 0), (0, vR 40), (1, vI x1)]) (st' := []) rfl ?_
  refine r_sub [2, 3, 1, 0] (lv' := [(0, vR 40), (1, vI x1), (2, vI 0), (3, vI 0)]) rfl ?_
  exact p_X12_costOf_4 J g_FU x1 0 0 σ M N hL
theorem c_X12_costOf {l : Launch} (x1 : Int32) (σ : gS) (M : gM) (N : gN) (hL : g_layM σ) (r : Int32) (h : f_X12_costOf x1 σ M = some r) : g_Ct l yX12_costOf cX12_costOf 4 (some .int) 2 0 0 [vR 40, vI x1] (σ, M, N) (eI σ M N r) :=
  g_Ct.of tb_X12_costOf (by decide +kernel) tk_X12_costOf (Nat.le_of_ble_eq_true rfl) (fun E J => p_X12_costOf_0 J x1 σ M N hL r h)
def tb_X12_townOf : gT := [(0, .aload_n 0, 1, 0), (1, .iload_n 1, 1, 0), (2, .invokevirtual 170, 3, 0), (5, .ifCond .ne 5, 3, 0), (8, .iconst (-1), 1, (-1)), (9, .ireturn, 1, 0), (10, .iload_n 2, 1, 0), (11, .tableswitch 115 0 8 #[49, 56, 63, 70, 76, 82, 88, 94, 108], 49, 0), (60, .aload_n 0, 1, 0), (61, .getfield 45, 3, 0), (64, .iload_n 1, 1, 0), (65, .iaload, 1, 0), (66, .ireturn, 1, 0), (67, .aload_n 0, 1, 0), (68, .getfield 48, 3, 0), (71, .iload_n 1, 1, 0), (72, .iaload, 1, 0), (73, .ireturn, 1, 0), (74, .aload_n 0, 1, 0), (75, .getfield 51, 3, 0), (78, .iload_n 1, 1, 0), (79, .iaload, 1, 0), (80, .ireturn, 1, 0), (81, .aload_n 0, 1, 0), (82, .iload_n 1, 1, 0), (83, .invokevirtual 375, 3, 0), (86, .ireturn, 1, 0), (87, .aload_n 0, 1, 0), (88, .iload_n 1, 1, 0), (89, .invokevirtual 378, 3, 0), (92, .ireturn, 1, 0), (93, .aload_n 0, 1, 0), (94, .iload_n 1, 1, 0), (95, .invokevirtual 381, 3, 0), (98, .ireturn, 1, 0), (99, .aload_n 0, 1, 0), (100, .iload_n 1, 1, 0), (101, .invokevirtual 445, 3, 0), (104, .ireturn, 1, 0), (105, .aload_n 0, 1, 0), (106, .iload_n 1, 1, 0), (107, .invokevirtual 174, 3, 0), (110, .ifCond .eq 7, 3, 0), (113, .iconst 1, 1, 1), (114, .goto 4, 3, 0), (117, .iconst 0, 1, 0), (118, .ireturn, 1, 0), (119, .aload_n 0, 1, 0), (120, .getfield 118, 3, 0), (123, .iload_n 1, 1, 0), (124, .iaload, 1, 0), (125, .ireturn, 1, 0), (126, .iconst (-1), 1, (-1)), (127, .ireturn, 1, 0)]
set_option maxRecDepth 100000 in
theorem tk_X12_townOf : g_okT cX12_townOf tb_X12_townOf = true := by decide +kernel
abbrev J_X12_townOf (E : gE) (l : Launch) : Prop := g_J E cX12_townOf RX12 "townOf" (some .int) 3 tb_X12_townOf 3 0 0 l
set_option maxHeartbeats 4000000 in
set_option maxRecDepth 100000 in
theorem p_X12_townOf_0 {l : Launch} {E : gE} (J : J_X12_townOf E l) (x1 : Int32) (x2 : Int32) (σ : gS) (M : gM) (N : gN) (hL : g_layM σ) : g_H E 0 0 0 [(0, vR 40), (1, vI x1), (2, vI x2)] [] (σ, M, N) (b_X12_townOf_0 x1 x2 σ M) (eI σ M N) := by
  unfold b_X12_townOf_0
  refine r_run J 2 (pc' := 2) (lv' := [(0, vR 40), (1, vI x1), (2, vI x2)]) (st' := [vI x1, vR 40]) rfl ?_
  refine r_callV J (As := [vI x1]) (st := []) (fun r hr => c_X12_isTown x1 σ M N hL r hr) cls12 (ly_40 hL) wm_12_170 wy_X12_isTown wd_X12_isTown ⟨by decide, by decide, by decide, by decide, Nat.le_of_ble_eq_true rfl⟩ rfl rfl (fun q2 hq2 => ?_)
  show g_H E 0 0 5 [(0, vR 40), (1, vI x1), (2, vI x2)] [vI q2] (σ, M, N) _ _
  refine r_if_ne J (tgt := 10) rfl (by decide) (fun c5 => ?_) (fun c5 => ?_)
  · refine r_run J 1 (pc' := 9) (lv' := [(0, vR 40), (1, vI x1), (2, vI x2)]) (st' := [vI (-1)]) rfl ?_
    exact r_iret J rfl rfl rfl rfl (by decide) (by decide)
  · refine r_run J 1 (pc' := 11) (lv' := [(0, vR 40), (1, vI x1), (2, vI x2)]) (st' := [vI x2]) rfl ?_
    refine r_table J [(0, 60), (1, 67), (2, 74), (3, 81), (4, 87), (5, 93), (6, 99), (7, 105), (8, 119)] (d := 126) rfl (by decide +kernel) (List.forall_mem_cons.mpr ⟨fun hc => ?_, List.forall_mem_cons.mpr ⟨fun hc => ?_, List.forall_mem_cons.mpr ⟨fun hc => ?_, List.forall_mem_cons.mpr ⟨fun hc => ?_, List.forall_mem_cons.mpr ⟨fun hc => ?_, List.forall_mem_cons.mpr ⟨fun hc => ?_, List.forall_mem_cons.mpr ⟨fun hc => ?_, List.forall_mem_cons.mpr ⟨fun hc => ?_, List.forall_mem_cons.mpr ⟨fun hc => ?_, fun _ h => absurd h List.not_mem_nil⟩⟩⟩⟩⟩⟩⟩⟩⟩) (fun hd => ?_)
    · rw [if_pos hc]
      refine r_run J 1 (pc' := 61) (lv' := [(0, vR 40), (1, vI x1), (2, vI x2)]) (st' := [vR 40]) rfl ?_
      refine r_getR J cls12 rfl (k := 18) (t := 14) (by decide) wf_12_45 rfl rfl (ly_40 hL) (lr_40_18 hL) (fun _ => ?_)
      show g_H E 0 0 64 [(0, vR 40), (1, vI x1), (2, vI x2)] [vR 50] (σ, M, N) _ _
      refine r_run J 1 (pc' := 65) (lv' := [(0, vR 40), (1, vI x1), (2, vI x2)]) (st' := [vI x1, vR 50]) rfl ?_
      refine r_iald J rfl (ly_50 hL) (fun i65 => ?_)
      show g_H E 0 0 66 [(0, vR 40), (1, vI x1), (2, vI x2)] [vI (M 50 x1.toNatClampNeg)] (σ, M, N) _ _
      exact r_iret J rfl rfl rfl rfl (by decide) (by decide)
    · rw [if_neg (by rw [hc]; decide), if_pos hc]
      refine r_run J 1 (pc' := 68) (lv' := [(0, vR 40), (1, vI x1), (2, vI x2)]) (st' := [vR 40]) rfl ?_
      refine r_getR J cls12 rfl (k := 19) (t := 14) (by decide) wf_12_48 rfl rfl (ly_40 hL) (lr_40_19 hL) (fun _ => ?_)
      show g_H E 0 0 71 [(0, vR 40), (1, vI x1), (2, vI x2)] [vR 51] (σ, M, N) _ _
      refine r_run J 1 (pc' := 72) (lv' := [(0, vR 40), (1, vI x1), (2, vI x2)]) (st' := [vI x1, vR 51]) rfl ?_
      refine r_iald J rfl (ly_51 hL) (fun i72 => ?_)
      show g_H E 0 0 73 [(0, vR 40), (1, vI x1), (2, vI x2)] [vI (M 51 x1.toNatClampNeg)] (σ, M, N) _ _
      exact r_iret J rfl rfl rfl rfl (by decide) (by decide)
    · rw [if_neg (by rw [hc]; decide), if_neg (by rw [hc]; decide), if_pos hc]
      refine r_run J 1 (pc' := 75) (lv' := [(0, vR 40), (1, vI x1), (2, vI x2)]) (st' := [vR 40]) rfl ?_
      refine r_getR J cls12 rfl (k := 20) (t := 14) (by decide) wf_12_51 rfl rfl (ly_40 hL) (lr_40_20 hL) (fun _ => ?_)
      show g_H E 0 0 78 [(0, vR 40), (1, vI x1), (2, vI x2)] [vR 52] (σ, M, N) _ _
      refine r_run J 1 (pc' := 79) (lv' := [(0, vR 40), (1, vI x1), (2, vI x2)]) (st' := [vI x1, vR 52]) rfl ?_
      refine r_iald J rfl (ly_52 hL) (fun i79 => ?_)
      show g_H E 0 0 80 [(0, vR 40), (1, vI x1), (2, vI x2)] [vI (M 52 x1.toNatClampNeg)] (σ, M, N) _ _
      exact r_iret J rfl rfl rfl rfl (by decide) (by decide)
    · rw [if_neg (by rw [hc]; decide), if_neg (by rw [hc]; decide), if_neg (by rw [hc]; decide), if_pos hc]
      refine r_run J 2 (pc' := 83) (lv' := [(0, vR 40), (1, vI x1), (2, vI x2)]) (st' := [vI x1, vR 40]) rfl ?_
      refine r_callV J (As := [vI x1]) (st := []) (fun r hr => c_X12_heldIn x1 σ M N hL r hr) cls12 (ly_40 hL) wm_12_375 wy_X12_heldIn wd_X12_heldIn ⟨by decide, by decide, by decide, by decide, Nat.le_of_ble_eq_true rfl⟩ rfl rfl (fun q83 hq83 => ?_)
      show g_H E 0 0 86 [(0, vR 40), (1, vI x1), (2, vI x2)] [vI q83] (σ, M, N) _ _
      exact r_iret J rfl rfl rfl rfl (by decide) (by decide)
    · rw [if_neg (by rw [hc]; decide), if_neg (by rw [hc]; decide), if_neg (by rw [hc]; decide), if_neg (by rw [hc]; decide), if_pos hc]
      refine r_run J 2 (pc' := 89) (lv' := [(0, vR 40), (1, vI x1), (2, vI x2)]) (st' := [vI x1, vR 40]) rfl ?_
      refine r_callV J (As := [vI x1]) (st := []) (fun r hr => c_X12_usedIn x1 σ M N hL r hr) cls12 (ly_40 hL) wm_12_378 wy_X12_usedIn wd_X12_usedIn ⟨by decide, by decide, by decide, by decide, Nat.le_of_ble_eq_true rfl⟩ rfl rfl (fun q89 hq89 => ?_)
      show g_H E 0 0 92 [(0, vR 40), (1, vI x1), (2, vI x2)] [vI q89] (σ, M, N) _ _
      exact r_iret J rfl rfl rfl rfl (by decide) (by decide)
    · rw [if_neg (by rw [hc]; decide), if_neg (by rw [hc]; decide), if_neg (by rw [hc]; decide), if_neg (by rw [hc]; decide), if_neg (by rw [hc]; decide), if_pos hc]
      refine r_run J 2 (pc' := 95) (lv' := [(0, vR 40), (1, vI x1), (2, vI x2)]) (st' := [vI x1, vR 40]) rfl ?_
      refine r_callV J (As := [vI x1]) (st := []) (fun r hr => c_X12_peopleIn x1 σ M N hL r hr) cls12 (ly_40 hL) wm_12_381 wy_X12_peopleIn wd_X12_peopleIn ⟨by decide, by decide, by decide, by decide, Nat.le_of_ble_eq_true rfl⟩ rfl rfl (fun q95 hq95 => ?_)
      show g_H E 0 0 98 [(0, vR 40), (1, vI x1), (2, vI x2)] [vI q95] (σ, M, N) _ _
      exact r_iret J rfl rfl rfl rfl (by decide) (by decide)
    · rw [if_neg (by rw [hc]; decide), if_neg (by rw [hc]; decide), if_neg (by rw [hc]; decide), if_neg (by rw [hc]; decide), if_neg (by rw [hc]; decide), if_neg (by rw [hc]; decide), if_pos hc]
      refine r_run J 2 (pc' := 101) (lv' := [(0, vR 40), (1, vI x1), (2, vI x2)]) (st' := [vI x1, vR 40]) rfl ?_
      refine r_callV J (As := [vI x1]) (st := []) (fun r hr => c_X12_costOf x1 σ M N hL r hr) cls12 (ly_40 hL) wm_12_445 wy_X12_costOf wd_X12_costOf ⟨by decide, by decide, by decide, by decide, Nat.le_of_ble_eq_true rfl⟩ rfl rfl (fun q101 hq101 => ?_)
      show g_H E 0 0 104 [(0, vR 40), (1, vI x1), (2, vI x2)] [vI q101] (σ, M, N) _ _
      exact r_iret J rfl rfl rfl rfl (by decide) (by decide)
    · rw [if_neg (by rw [hc]; decide), if_neg (by rw [hc]; decide), if_neg (by rw [hc]; decide), if_neg (by rw [hc]; decide), if_neg (by rw [hc]; decide), if_neg (by rw [hc]; decide), if_neg (by rw [hc]; decide), if_pos hc]
      refine r_run J 2 (pc' := 107) (lv' := [(0, vR 40), (1, vI x1), (2, vI x2)]) (st' := [vI x1, vR 40]) rfl ?_
      refine r_callV J (As := [vI x1]) (st := []) (fun r hr => c_X12_isOver x1 σ M N hL r hr) cls12 (ly_40 hL) wm_12_174 wy_X12_isOver wd_X12_isOver ⟨by decide, by decide, by decide, by decide, Nat.le_of_ble_eq_true rfl⟩ rfl rfl (fun q107 hq107 => ?_)
      show g_H E 0 0 110 [(0, vR 40), (1, vI x1), (2, vI x2)] [vI q107] (σ, M, N) _ _
      refine r_if_eq J (tgt := 117) rfl (by decide) (fun c110 => ?_) (fun c110 => ?_)
      · refine r_run J 1 (pc' := 118) (lv' := [(0, vR 40), (1, vI x1), (2, vI x2)]) (st' := [vI 0]) rfl ?_
        exact r_iret J rfl rfl rfl rfl (by decide) (by decide)
      · refine r_run J 2 (pc' := 118) (lv' := [(0, vR 40), (1, vI x1), (2, vI x2)]) (st' := [vI 1]) rfl ?_
        exact r_iret J rfl rfl rfl rfl (by decide) (by decide)
    · rw [if_neg (by rw [hc]; decide), if_neg (by rw [hc]; decide), if_neg (by rw [hc]; decide), if_neg (by rw [hc]; decide), if_neg (by rw [hc]; decide), if_neg (by rw [hc]; decide), if_neg (by rw [hc]; decide), if_neg (by rw [hc]; decide), if_pos hc]
      refine r_run J 1 (pc' := 120) (lv' := [(0, vR 40), (1, vI x1), (2, vI x2)]) (st' := [vR 40]) rfl ?_
      refine r_getR J cls12 rfl (k := 44) (t := 14) (by decide) wf_12_118 rfl rfl (ly_40 hL) (lr_40_44 hL) (fun _ => ?_)
      show g_H E 0 0 123 [(0, vR 40), (1, vI x1), (2, vI x2)] [vR 73] (σ, M, N) _ _
      refine r_run J 1 (pc' := 124) (lv' := [(0, vR 40), (1, vI x1), (2, vI x2)]) (st' := [vI x1, vR 73]) rfl ?_
      refine r_iald J rfl (ly_73 hL) (fun i124 => ?_)
      show g_H E 0 0 125 [(0, vR 40), (1, vI x1), (2, vI x2)] [vI (M 73 x1.toNatClampNeg)] (σ, M, N) _ _
      exact r_iret J rfl rfl rfl rfl (by decide) (by decide)
    · rw [if_neg (hd _ (List.mem_of_getElem? (i := 0) rfl)), if_neg (hd _ (List.mem_of_getElem? (i := 1) rfl)), if_neg (hd _ (List.mem_of_getElem? (i := 2) rfl)), if_neg (hd _ (List.mem_of_getElem? (i := 3) rfl)), if_neg (hd _ (List.mem_of_getElem? (i := 4) rfl)), if_neg (hd _ (List.mem_of_getElem? (i := 5) rfl)), if_neg (hd _ (List.mem_of_getElem? (i := 6) rfl)), if_neg (hd _ (List.mem_of_getElem? (i := 7) rfl)), if_neg (hd _ (List.mem_of_getElem? (i := 8) rfl))]
      refine r_run J 1 (pc' := 127) (lv' := [(0, vR 40), (1, vI x1), (2, vI x2)]) (st' := [vI (-1)]) rfl ?_
      exact r_iret J rfl rfl rfl rfl (by decide) (by decide)
theorem c_X12_townOf {l : Launch} (x1 : Int32) (x2 : Int32) (σ : gS) (M : gM) (N : gN) (hL : g_layM σ) (r : Int32) (h : f_X12_townOf x1 x2 σ M = some r) : g_Ct l yX12_townOf cX12_townOf 3 (some .int) 3 0 0 [vR 40, vI x1, vI x2] (σ, M, N) (eI σ M N r) :=
  g_Ct.of tb_X12_townOf (by decide +kernel) tk_X12_townOf (Nat.le_of_ble_eq_true rfl) (fun E J => p_X12_townOf_0 J x1 x2 σ M N hL r h)
def tb_X12_roomOf : gT := [(0, .aload_n 0, 1, 0), (1, .iload_n 1, 1, 0), (2, .invokevirtual 170, 3, 0), (5, .ifCond .eq 12, 3, 0), (8, .aload_n 0, 1, 0), (9, .iload_n 1, 1, 0), (10, .iload_n 2, 1, 0), (11, .invokevirtual 208, 3, 0), (14, .ifCond .ne 5, 3, 0), (17, .iconst (-1), 1, (-1)), (18, .ireturn, 1, 0), (19, .bipush 10, 2, 10), (21, .iload_n 1, 1, 0), (22, .imul, 1, 0), (23, .iload_n 2, 1, 0), (24, .iadd, 1, 0), (25, .istore 4, 2, 0), (27, .iload_n 3, 1, 0), (28, .tableswitch 91 0 4 #[36, 44, 60, 68, 84], 36, 0), (64, .aload_n 0, 1, 0), (65, .getfield 54, 3, 0), (68, .iload 4, 2, 0), (70, .iaload, 1, 0), (71, .ireturn, 1, 0), (72, .aload_n 0, 1, 0), (73, .getfield 57, 3, 0), (76, .iload 4, 2, 0), (78, .baload, 1, 0), (79, .ifCond .eq 7, 3, 0), (82, .iconst 1, 1, 1), (83, .goto 4, 3, 0), (86, .iconst 0, 1, 0), (87, .ireturn, 1, 0), (88, .aload_n 0, 1, 0), (89, .getfield 60, 3, 0), (92, .iload 4, 2, 0), (94, .iaload, 1, 0), (95, .ireturn, 1, 0), (96, .aload_n 0, 1, 0), (97, .getfield 63, 3, 0), (100, .iload 4, 2, 0), (102, .baload, 1, 0), (103, .ifCond .eq 7, 3, 0), (106, .iconst 1, 1, 1), (107, .goto 4, 3, 0), (110, .iconst 0, 1, 0), (111, .ireturn, 1, 0), (112, .aload_n 0, 1, 0), (113, .iload_n 1, 1, 0), (114, .iload_n 2, 1, 0), (115, .invokevirtual 211, 3, 0), (118, .ireturn, 1, 0), (119, .iconst (-1), 1, (-1)), (120, .ireturn, 1, 0)]
set_option maxRecDepth 100000 in
theorem tk_X12_roomOf : g_okT cX12_roomOf tb_X12_roomOf = true := by decide +kernel
abbrev J_X12_roomOf (E : gE) (l : Launch) : Prop := g_J E cX12_roomOf RX12 "roomOf" (some .int) 5 tb_X12_roomOf 3 0 0 l
set_option maxHeartbeats 4000000 in
set_option maxRecDepth 100000 in
theorem p_X12_roomOf_0 {l : Launch} {E : gE} (J : J_X12_roomOf E l) (x1 : Int32) (x2 : Int32) (x3 : Int32) (σ : gS) (M : gM) (N : gN) (hL : g_layM σ) : g_H E 0 0 0 [(0, vR 40), (1, vI x1), (2, vI x2), (3, vI x3)] [] (σ, M, N) (b_X12_roomOf_0 x1 x2 x3 σ M) (eI σ M N) := by
  unfold b_X12_roomOf_0
  refine r_run J 2 (pc' := 2) (lv' := [(0, vR 40), (1, vI x1), (2, vI x2), (3, vI x3)]) (st' := [vI x1, vR 40]) rfl ?_
  refine r_callV J (As := [vI x1]) (st := []) (fun r hr => c_X12_isTown x1 σ M N hL r hr) cls12 (ly_40 hL) wm_12_170 wy_X12_isTown wd_X12_isTown ⟨by decide, by decide, by decide, by decide, Nat.le_of_ble_eq_true rfl⟩ rfl rfl (fun q2 hq2 => ?_)
  show g_H E 0 0 5 [(0, vR 40), (1, vI x1), (2, vI x2), (3, vI x3)] [vI q2] (σ, M, N) _ _
  refine r_if_eq J (tgt := 17) rfl (by decide) (fun c5 => ?_) (fun c5 => ?_)
  · refine r_run J 1 (pc' := 18) (lv' := [(0, vR 40), (1, vI x1), (2, vI x2), (3, vI x3)]) (st' := [vI (-1)]) rfl ?_
    exact r_iret J rfl rfl rfl rfl (by decide) (by decide)
  · refine r_run J 3 (pc' := 11) (lv' := [(0, vR 40), (1, vI x1), (2, vI x2), (3, vI x3)]) (st' := [vI x2, vI x1, vR 40]) rfl ?_
    refine r_callV J (As := [vI x1, vI x2]) (st := []) (fun r hr => c_X12_isRoom x1 x2 σ M N hL r hr) cls12 (ly_40 hL) wm_12_208 wy_X12_isRoom wd_X12_isRoom ⟨by decide, by decide, by decide, by decide, Nat.le_of_ble_eq_true rfl⟩ rfl rfl (fun q11 hq11 => ?_)
    show g_H E 0 0 14 [(0, vR 40), (1, vI x1), (2, vI x2), (3, vI x3)] [vI q11] (σ, M, N) _ _
    refine r_if_ne J (tgt := 19) rfl (by decide) (fun c14 => ?_) (fun c14 => ?_)
    · refine r_run J 1 (pc' := 18) (lv' := [(0, vR 40), (1, vI x1), (2, vI x2), (3, vI x3)]) (st' := [vI (-1)]) rfl ?_
      exact r_iret J rfl rfl rfl rfl (by decide) (by decide)
    · refine r_run J 7 (pc' := 28) (lv' := [(4, vI (((10 : Int32) * x1) + x2)), (0, vR 40), (1, vI x1), (2, vI x2), (3, vI x3)]) (st' := [vI x3]) rfl ?_
      refine r_table J [(0, 64), (1, 72), (2, 88), (3, 96), (4, 112)] (d := 119) rfl (by decide +kernel) (List.forall_mem_cons.mpr ⟨fun hc => ?_, List.forall_mem_cons.mpr ⟨fun hc => ?_, List.forall_mem_cons.mpr ⟨fun hc => ?_, List.forall_mem_cons.mpr ⟨fun hc => ?_, List.forall_mem_cons.mpr ⟨fun hc => ?_, fun _ h => absurd h List.not_mem_nil⟩⟩⟩⟩⟩) (fun hd => ?_)
      · rw [if_pos hc]
        refine r_run J 1 (pc' := 65) (lv' := [(4, vI (((10 : Int32) * x1) + x2)), (0, vR 40), (1, vI x1), (2, vI x2), (3, vI x3)]) (st' := [vR 40]) rfl ?_
        refine r_getR J cls12 rfl (k := 21) (t := 14) (by decide) wf_12_54 rfl rfl (ly_40 hL) (lr_40_21 hL) (fun _ => ?_)
        show g_H E 0 0 68 [(4, vI (((10 : Int32) * x1) + x2)), (0, vR 40), (1, vI x1), (2, vI x2), (3, vI x3)] [vR 53] (σ, M, N) _ _
        refine r_run J 1 (pc' := 70) (lv' := [(4, vI (((10 : Int32) * x1) + x2)), (0, vR 40), (1, vI x1), (2, vI x2), (3, vI x3)]) (st' := [vI (((10 : Int32) * x1) + x2), vR 53]) rfl ?_
        refine r_iald J rfl (ly_53 hL) (fun i70 => ?_)
        show g_H E 0 0 71 [(4, vI (((10 : Int32) * x1) + x2)), (0, vR 40), (1, vI x1), (2, vI x2), (3, vI x3)] [vI (M 53 (((10 : Int32) * x1) + x2).toNatClampNeg)] (σ, M, N) _ _
        exact r_iret J rfl rfl rfl rfl (by decide) (by decide)
      · rw [if_neg (by rw [hc]; decide), if_pos hc]
        refine r_run J 1 (pc' := 73) (lv' := [(4, vI (((10 : Int32) * x1) + x2)), (0, vR 40), (1, vI x1), (2, vI x2), (3, vI x3)]) (st' := [vR 40]) rfl ?_
        refine r_getR J cls12 rfl (k := 22) (t := 15) (by decide) wf_12_57 rfl rfl (ly_40 hL) (lr_40_22 hL) (fun _ => ?_)
        show g_H E 0 0 76 [(4, vI (((10 : Int32) * x1) + x2)), (0, vR 40), (1, vI x1), (2, vI x2), (3, vI x3)] [vR 54] (σ, M, N) _ _
        refine r_run J 1 (pc' := 78) (lv' := [(4, vI (((10 : Int32) * x1) + x2)), (0, vR 40), (1, vI x1), (2, vI x2), (3, vI x3)]) (st' := [vI (((10 : Int32) * x1) + x2), vR 54]) rfl ?_
        refine r_zald J rfl (ly_54 hL) (fun i78 => ?_)
        show g_H E 0 0 79 [(4, vI (((10 : Int32) * x1) + x2)), (0, vR 40), (1, vI x1), (2, vI x2), (3, vI x3)] [vI (M 54 (((10 : Int32) * x1) + x2).toNatClampNeg)] (σ, M, N) _ _
        refine r_if_eq J (tgt := 86) rfl (by decide) (fun c79 => ?_) (fun c79 => ?_)
        · refine r_run J 1 (pc' := 87) (lv' := [(4, vI (((10 : Int32) * x1) + x2)), (0, vR 40), (1, vI x1), (2, vI x2), (3, vI x3)]) (st' := [vI 0]) rfl ?_
          exact r_iret J rfl rfl rfl rfl (by decide) (by decide)
        · refine r_run J 2 (pc' := 87) (lv' := [(4, vI (((10 : Int32) * x1) + x2)), (0, vR 40), (1, vI x1), (2, vI x2), (3, vI x3)]) (st' := [vI 1]) rfl ?_
          exact r_iret J rfl rfl rfl rfl (by decide) (by decide)
      · rw [if_neg (by rw [hc]; decide), if_neg (by rw [hc]; decide), if_pos hc]
        refine r_run J 1 (pc' := 89) (lv' := [(4, vI (((10 : Int32) * x1) + x2)), (0, vR 40), (1, vI x1), (2, vI x2), (3, vI x3)]) (st' := [vR 40]) rfl ?_
        refine r_getR J cls12 rfl (k := 23) (t := 14) (by decide) wf_12_60 rfl rfl (ly_40 hL) (lr_40_23 hL) (fun _ => ?_)
        show g_H E 0 0 92 [(4, vI (((10 : Int32) * x1) + x2)), (0, vR 40), (1, vI x1), (2, vI x2), (3, vI x3)] [vR 55] (σ, M, N) _ _
        refine r_run J 1 (pc' := 94) (lv' := [(4, vI (((10 : Int32) * x1) + x2)), (0, vR 40), (1, vI x1), (2, vI x2), (3, vI x3)]) (st' := [vI (((10 : Int32) * x1) + x2), vR 55]) rfl ?_
        refine r_iald J rfl (ly_55 hL) (fun i94 => ?_)
        show g_H E 0 0 95 [(4, vI (((10 : Int32) * x1) + x2)), (0, vR 40), (1, vI x1), (2, vI x2), (3, vI x3)] [vI (M 55 (((10 : Int32) * x1) + x2).toNatClampNeg)] (σ, M, N) _ _
        exact r_iret J rfl rfl rfl rfl (by decide) (by decide)
      · rw [if_neg (by rw [hc]; decide), if_neg (by rw [hc]; decide), if_neg (by rw [hc]; decide), if_pos hc]
        refine r_run J 1 (pc' := 97) (lv' := [(4, vI (((10 : Int32) * x1) + x2)), (0, vR 40), (1, vI x1), (2, vI x2), (3, vI x3)]) (st' := [vR 40]) rfl ?_
        refine r_getR J cls12 rfl (k := 24) (t := 15) (by decide) wf_12_63 rfl rfl (ly_40 hL) (lr_40_24 hL) (fun _ => ?_)
        show g_H E 0 0 100 [(4, vI (((10 : Int32) * x1) + x2)), (0, vR 40), (1, vI x1), (2, vI x2), (3, vI x3)] [vR 56] (σ, M, N) _ _
        refine r_run J 1 (pc' := 102) (lv' := [(4, vI (((10 : Int32) * x1) + x2)), (0, vR 40), (1, vI x1), (2, vI x2), (3, vI x3)]) (st' := [vI (((10 : Int32) * x1) + x2), vR 56]) rfl ?_
        refine r_zald J rfl (ly_56 hL) (fun i102 => ?_)
        show g_H E 0 0 103 [(4, vI (((10 : Int32) * x1) + x2)), (0, vR 40), (1, vI x1), (2, vI x2), (3, vI x3)] [vI (M 56 (((10 : Int32) * x1) + x2).toNatClampNeg)] (σ, M, N) _ _
        refine r_if_eq J (tgt := 110) rfl (by decide) (fun c103 => ?_) (fun c103 => ?_)
        · refine r_run J 1 (pc' := 111) (lv' := [(4, vI (((10 : Int32) * x1) + x2)), (0, vR 40), (1, vI x1), (2, vI x2), (3, vI x3)]) (st' := [vI 0]) rfl ?_
          exact r_iret J rfl rfl rfl rfl (by decide) (by decide)
        · refine r_run J 2 (pc' := 111) (lv' := [(4, vI (((10 : Int32) * x1) + x2)), (0, vR 40), (1, vI x1), (2, vI x2), (3, vI x3)]) (st' := [vI 1]) rfl ?_
          exact r_iret J rfl rfl rfl rfl (by decide) (by decide)
      · rw [if_neg (by rw [hc]; decide), if_neg (by rw [hc]; decide), if_neg (by rw [hc]; decide), if_neg (by rw [hc]; decide), if_pos hc]
        refine r_run J 3 (pc' := 115) (lv' := [(4, vI (((10 : Int32) * x1) + x2)), (0, vR 40), (1, vI x1), (2, vI x2), (3, vI x3)]) (st' := [vI x2, vI x1, vR 40]) rfl ?_
        refine r_callV J (As := [vI x1, vI x2]) (st := []) (fun r hr => c_X12_setIn x1 x2 σ M N hL r hr) cls12 (ly_40 hL) wm_12_211 wy_X12_setIn wd_X12_setIn ⟨by decide, by decide, by decide, by decide, Nat.le_of_ble_eq_true rfl⟩ rfl rfl (fun q115 hq115 => ?_)
        show g_H E 0 0 118 [(4, vI (((10 : Int32) * x1) + x2)), (0, vR 40), (1, vI x1), (2, vI x2), (3, vI x3)] [vI q115] (σ, M, N) _ _
        exact r_iret J rfl rfl rfl rfl (by decide) (by decide)
      · rw [if_neg (hd _ (List.mem_of_getElem? (i := 0) rfl)), if_neg (hd _ (List.mem_of_getElem? (i := 1) rfl)), if_neg (hd _ (List.mem_of_getElem? (i := 2) rfl)), if_neg (hd _ (List.mem_of_getElem? (i := 3) rfl)), if_neg (hd _ (List.mem_of_getElem? (i := 4) rfl))]
        refine r_run J 1 (pc' := 120) (lv' := [(4, vI (((10 : Int32) * x1) + x2)), (0, vR 40), (1, vI x1), (2, vI x2), (3, vI x3)]) (st' := [vI (-1)]) rfl ?_
        exact r_iret J rfl rfl rfl rfl (by decide) (by decide)
theorem c_X12_roomOf {l : Launch} (x1 : Int32) (x2 : Int32) (x3 : Int32) (σ : gS) (M : gM) (N : gN) (hL : g_layM σ) (r : Int32) (h : f_X12_roomOf x1 x2 x3 σ M = some r) : g_Ct l yX12_roomOf cX12_roomOf 5 (some .int) 3 0 0 [vR 40, vI x1, vI x2, vI x3] (σ, M, N) (eI σ M N r) :=
  g_Ct.of tb_X12_roomOf (by decide +kernel) tk_X12_roomOf (Nat.le_of_ble_eq_true rfl) (fun E J => p_X12_roomOf_0 J x1 x2 x3 σ M N hL r h)
def tb_X12_personOf : gT := [(0, .aload_n 0, 1, 0), (1, .iload_n 1, 1, 0), (2, .invokevirtual 177, 3, 0), (5, .ifCond .ne 5, 3, 0), (8, .iconst (-1), 1, (-1)), (9, .ireturn, 1, 0), (10, .iload_n 2, 1, 0), (11, .tableswitch 185 0 8 #[49, 64, 71, 86, 93, 100, 107, 122, 129], 49, 0), (60, .aload_n 0, 1, 0), (61, .getfield 13, 3, 0), (64, .iload_n 1, 1, 0), (65, .baload, 1, 0), (66, .ifCond .eq 7, 3, 0), (69, .iconst 1, 1, 1), (70, .goto 4, 3, 0), (73, .iconst 0, 1, 0), (74, .ireturn, 1, 0), (75, .aload_n 0, 1, 0), (76, .getfield 17, 3, 0), (79, .iload_n 1, 1, 0), (80, .iaload, 1, 0), (81, .ireturn, 1, 0), (82, .aload_n 0, 1, 0), (83, .getfield 21, 3, 0), (86, .iload_n 1, 1, 0), (87, .baload, 1, 0), (88, .ifCond .eq 7, 3, 0), (91, .iconst 1, 1, 1), (92, .goto 4, 3, 0), (95, .iconst 0, 1, 0), (96, .ireturn, 1, 0), (97, .aload_n 0, 1, 0), (98, .getfield 24, 3, 0), (101, .iload_n 1, 1, 0), (102, .iaload, 1, 0), (103, .ireturn, 1, 0), (104, .aload_n 0, 1, 0), (105, .getfield 27, 3, 0), (108, .iload_n 1, 1, 0), (109, .iaload, 1, 0), (110, .ireturn, 1, 0), (111, .aload_n 0, 1, 0), (112, .getfield 30, 3, 0), (115, .iload_n 1, 1, 0), (116, .iaload, 1, 0), (117, .ireturn, 1, 0), (118, .aload_n 0, 1, 0), (119, .getfield 33, 3, 0), (122, .iload_n 1, 1, 0), (123, .baload, 1, 0), (124, .ifCond .eq 7, 3, 0), (127, .iconst 1, 1, 1), (128, .goto 4, 3, 0), (131, .iconst 0, 1, 0), (132, .ireturn, 1, 0), (133, .aload_n 0, 1, 0), (134, .getfield 36, 3, 0), (137, .iload_n 1, 1, 0), (138, .iaload, 1, 0), (139, .ireturn, 1, 0), (140, .iconst 0, 1, 0), (141, .istore_n 3, 1, 0), (142, .iconst 0, 1, 0), (143, .istore 4, 2, 0), (145, .iload 4, 2, 0), (147, .aload_n 0, 1, 0), (148, .getfield 157, 3, 0), (151, .if_icmp .ge 43, 3, 0), (154, .iload_n 3, 1, 0), (155, .iload 4, 2, 0), (157, .iload_n 1, 1, 0), (158, .if_icmp .eq 27, 3, 0), (161, .aload_n 0, 1, 0), (162, .getfield 33, 3, 0), (165, .iload 4, 2, 0), (167, .baload, 1, 0), (168, .ifCond .ne 17, 3, 0), (171, .aload_n 0, 1, 0), (172, .iload_n 1, 1, 0), (173, .iload 4, 2, 0), (175, .invokevirtual 201, 3, 0), (178, .ifCond .eq 7, 3, 0), (181, .iconst 1, 1, 1), (182, .goto 4, 3, 0), (185, .iconst 0, 1, 0), (186, .iadd, 1, 0), (187, .istore_n 3, 1, 0), (188, .iinc 4 1, 3, 1), (191, .goto (-46), 3, 0), (194, .iload_n 3, 1, 0), (195, .ireturn, 1, 0), (196, .iconst (-1), 1, (-1)), (197, .ireturn, 1, 0)]
set_option maxRecDepth 100000 in
theorem tk_X12_personOf : g_okT cX12_personOf tb_X12_personOf = true := by decide +kernel
abbrev J_X12_personOf (E : gE) (l : Launch) : Prop := g_J E cX12_personOf RX12 "personOf" (some .int) 5 tb_X12_personOf 3 0 0 l
set_option maxHeartbeats 4000000 in
set_option maxRecDepth 100000 in
theorem p_X12_personOf_186 {l : Launch} {E : gE} (J : J_X12_personOf E l) {k145 : Int32 → Int32 → Int32 → gS → gM → Option (Int32)} (H145 : ∀ (x1 : Int32) (x3 : Int32) (x4 : Int32) (σ : gS) (M : gM) (N : gN) (_ : g_layM σ), g_H E 0 0 145 [(0, vR 40), (1, vI x1), (3, vI x3), (4, vI x4)] [] (σ, M, N) (k145 x1 x3 x4 σ M) (eI σ M N)) (x1 : Int32) (x4 : Int32) (sx0 : Int32) (sx1 : Int32) (σ : gS) (M : gM) (N : gN) (hL : g_layM σ) : g_H E 0 0 186 [(0, vR 40), (1, vI x1), (4, vI x4)] [vI sx0, vI sx1] (σ, M, N) (b_X12_personOf_186 k145 x1 x4 sx0 sx1 σ M) (eI σ M N) := by
  unfold b_X12_personOf_186
  refine r_run J 4 (pc' := 145) (lv' := [(4, vI (x4 + 1)), (3, vI (sx1 + sx0)), (0, vR 40), (1, vI x1)]) (st' := []) rfl ?_
  refine r_sub [2, 3, 1, 0] (lv' := [(0, vR 40), (1, vI x1), (3, vI (sx1 + sx0)), (4, vI (x4 + 1))]) rfl ?_
  exact H145 x1 (sx1 + sx0) (x4 + 1) σ M N hL
set_option maxHeartbeats 4000000 in
set_option maxRecDepth 100000 in
theorem p_X12_personOf_185 {l : Launch} {E : gE} (J : J_X12_personOf E l) {k145 : Int32 → Int32 → Int32 → gS → gM → Option (Int32)} (H145 : ∀ (x1 : Int32) (x3 : Int32) (x4 : Int32) (σ : gS) (M : gM) (N : gN) (_ : g_layM σ), g_H E 0 0 145 [(0, vR 40), (1, vI x1), (3, vI x3), (4, vI x4)] [] (σ, M, N) (k145 x1 x3 x4 σ M) (eI σ M N)) (x1 : Int32) (x4 : Int32) (sx0 : Int32) (σ : gS) (M : gM) (N : gN) (hL : g_layM σ) : g_H E 0 0 185 [(0, vR 40), (1, vI x1), (4, vI x4)] [vI sx0] (σ, M, N) (b_X12_personOf_185 k145 x1 x4 sx0 σ M) (eI σ M N) := by
  unfold b_X12_personOf_185
  refine r_run J 1 (pc' := 186) (lv' := [(0, vR 40), (1, vI x1), (4, vI x4)]) (st' := [vI 0, vI sx0]) rfl ?_
  exact p_X12_personOf_186 J H145 x1 x4 0 sx0 σ M N hL
set_option maxHeartbeats 4000000 in
set_option maxRecDepth 100000 in
theorem p_X12_personOf_145 {l : Launch} {E : gE} (J : J_X12_personOf E l) : ∀ (n : Nat) (x1 : Int32) (x3 : Int32) (x4 : Int32) (σ : gS) (M : gM) (N : gN) (hL : g_layM σ), g_H E 0 0 145 [(0, vR 40), (1, vI x1), (3, vI x3), (4, vI x4)] [] (σ, M, N) (l_X12_personOf_145 n x1 x3 x4 σ M) (eI σ M N) := by
  intro n
  induction n with
  | zero => intros; exact h_none
  | succ n ih =>
    intro x1 x3 x4 σ M N hL
    rw [l_X12_personOf_145]
    refine r_run J 2 (pc' := 148) (lv' := [(0, vR 40), (1, vI x1), (3, vI x3), (4, vI x4)]) (st' := [vR 40, vI x4]) rfl ?_
    refine r_getI J cls12 rfl (k := 1) (by decide) wf_12_157 rfl (ly_40 hL) ?_
    show g_H E 0 0 151 [(0, vR 40), (1, vI x1), (3, vI x3), (4, vI x4)] [vI (M 40 1), vI x4] (σ, M, N) _ _
    refine r_icmp_ge J (tgt := 194) rfl (by decide) (fun c151 => ?_) (fun c151 => ?_)
    · refine r_run J 3 (pc' := 158) (lv' := [(0, vR 40), (1, vI x1), (3, vI x3), (4, vI x4)]) (st' := [vI x1, vI x4, vI x3]) rfl ?_
      refine r_icmp_eq J (tgt := 185) rfl (by decide) (fun c158 => ?_) (fun c158 => ?_)
      · refine r_sub [0, 1, 3] (lv' := [(0, vR 40), (1, vI x1), (4, vI x4)]) rfl ?_
        exact p_X12_personOf_185 J ih x1 x4 x3 σ M N hL
      · refine r_run J 1 (pc' := 162) (lv' := [(0, vR 40), (1, vI x1), (3, vI x3), (4, vI x4)]) (st' := [vR 40, vI x3]) rfl ?_
        refine r_getR J cls12 rfl (k := 8) (t := 15) (by decide) wf_12_33 rfl rfl (ly_40 hL) (lr_40_8 hL) (fun _ => ?_)
        show g_H E 0 0 165 [(0, vR 40), (1, vI x1), (3, vI x3), (4, vI x4)] [vR 47, vI x3] (σ, M, N) _ _
        refine r_run J 1 (pc' := 167) (lv' := [(0, vR 40), (1, vI x1), (3, vI x3), (4, vI x4)]) (st' := [vI x4, vR 47, vI x3]) rfl ?_
        refine r_zald J rfl (ly_47 hL) (fun i167 => ?_)
        show g_H E 0 0 168 [(0, vR 40), (1, vI x1), (3, vI x3), (4, vI x4)] [vI (M 47 x4.toNatClampNeg), vI x3] (σ, M, N) _ _
        refine r_if_ne J (tgt := 185) rfl (by decide) (fun c168 => ?_) (fun c168 => ?_)
        · refine r_run J 3 (pc' := 175) (lv' := [(0, vR 40), (1, vI x1), (3, vI x3), (4, vI x4)]) (st' := [vI x4, vI x1, vR 40, vI x3]) rfl ?_
          refine r_callV J (As := [vI x1, vI x4]) (st := [vI x3]) (fun r hr => c_X12_mayShare x1 x4 σ M N hL r hr) cls12 (ly_40 hL) wm_12_201 wy_X12_mayShare wd_X12_mayShare ⟨by decide, by decide, by decide, by decide, Nat.le_of_ble_eq_true rfl⟩ rfl rfl (fun q175 hq175 => ?_)
          show g_H E 0 0 178 [(0, vR 40), (1, vI x1), (3, vI x3), (4, vI x4)] [vI q175, vI x3] (σ, M, N) _ _
          refine r_if_eq J (tgt := 185) rfl (by decide) (fun c178 => ?_) (fun c178 => ?_)
          · refine r_sub [0, 1, 3] (lv' := [(0, vR 40), (1, vI x1), (4, vI x4)]) rfl ?_
            exact p_X12_personOf_185 J ih x1 x4 x3 σ M N hL
          · refine r_run J 2 (pc' := 186) (lv' := [(0, vR 40), (1, vI x1), (3, vI x3), (4, vI x4)]) (st' := [vI 1, vI x3]) rfl ?_
            refine r_sub [0, 1, 3] (lv' := [(0, vR 40), (1, vI x1), (4, vI x4)]) rfl ?_
            exact p_X12_personOf_186 J ih x1 x4 1 x3 σ M N hL
        · refine r_sub [0, 1, 3] (lv' := [(0, vR 40), (1, vI x1), (4, vI x4)]) rfl ?_
          exact p_X12_personOf_185 J ih x1 x4 x3 σ M N hL
    · refine r_run J 1 (pc' := 195) (lv' := [(0, vR 40), (1, vI x1), (3, vI x3), (4, vI x4)]) (st' := [vI x3]) rfl ?_
      exact r_iret J rfl rfl rfl rfl (by decide) (by decide)
set_option maxHeartbeats 4000000 in
set_option maxRecDepth 100000 in
theorem p_X12_personOf_0 {l : Launch} {E : gE} (J : J_X12_personOf E l) (x1 : Int32) (x2 : Int32) (σ : gS) (M : gM) (N : gN) (hL : g_layM σ) : g_H E 0 0 0 [(0, vR 40), (1, vI x1), (2, vI x2)] [] (σ, M, N) (b_X12_personOf_0 x1 x2 σ M) (eI σ M N) := by
  unfold b_X12_personOf_0
  refine r_run J 2 (pc' := 2) (lv' := [(0, vR 40), (1, vI x1), (2, vI x2)]) (st' := [vI x1, vR 40]) rfl ?_
  refine r_callV J (As := [vI x1]) (st := []) (fun r hr => c_X12_isPerson x1 σ M N hL r hr) cls12 (ly_40 hL) wm_12_177 wy_X12_isPerson wd_X12_isPerson ⟨by decide, by decide, by decide, by decide, Nat.le_of_ble_eq_true rfl⟩ rfl rfl (fun q2 hq2 => ?_)
  show g_H E 0 0 5 [(0, vR 40), (1, vI x1), (2, vI x2)] [vI q2] (σ, M, N) _ _
  refine r_if_ne J (tgt := 10) rfl (by decide) (fun c5 => ?_) (fun c5 => ?_)
  · refine r_run J 1 (pc' := 9) (lv' := [(0, vR 40), (1, vI x1), (2, vI x2)]) (st' := [vI (-1)]) rfl ?_
    exact r_iret J rfl rfl rfl rfl (by decide) (by decide)
  · refine r_run J 1 (pc' := 11) (lv' := [(0, vR 40), (1, vI x1), (2, vI x2)]) (st' := [vI x2]) rfl ?_
    refine r_table J [(0, 60), (1, 75), (2, 82), (3, 97), (4, 104), (5, 111), (6, 118), (7, 133), (8, 140)] (d := 196) rfl (by decide +kernel) (List.forall_mem_cons.mpr ⟨fun hc => ?_, List.forall_mem_cons.mpr ⟨fun hc => ?_, List.forall_mem_cons.mpr ⟨fun hc => ?_, List.forall_mem_cons.mpr ⟨fun hc => ?_, List.forall_mem_cons.mpr ⟨fun hc => ?_, List.forall_mem_cons.mpr ⟨fun hc => ?_, List.forall_mem_cons.mpr ⟨fun hc => ?_, List.forall_mem_cons.mpr ⟨fun hc => ?_, List.forall_mem_cons.mpr ⟨fun hc => ?_, fun _ h => absurd h List.not_mem_nil⟩⟩⟩⟩⟩⟩⟩⟩⟩) (fun hd => ?_)
    · rw [if_pos hc]
      refine r_run J 1 (pc' := 61) (lv' := [(0, vR 40), (1, vI x1), (2, vI x2)]) (st' := [vR 40]) rfl ?_
      refine r_getR J cls12 rfl (k := 2) (t := 15) (by decide) wf_12_13 rfl rfl (ly_40 hL) (lr_40_2 hL) (fun _ => ?_)
      show g_H E 0 0 64 [(0, vR 40), (1, vI x1), (2, vI x2)] [vR 41] (σ, M, N) _ _
      refine r_run J 1 (pc' := 65) (lv' := [(0, vR 40), (1, vI x1), (2, vI x2)]) (st' := [vI x1, vR 41]) rfl ?_
      refine r_zald J rfl (ly_41 hL) (fun i65 => ?_)
      show g_H E 0 0 66 [(0, vR 40), (1, vI x1), (2, vI x2)] [vI (M 41 x1.toNatClampNeg)] (σ, M, N) _ _
      refine r_if_eq J (tgt := 73) rfl (by decide) (fun c66 => ?_) (fun c66 => ?_)
      · refine r_run J 1 (pc' := 74) (lv' := [(0, vR 40), (1, vI x1), (2, vI x2)]) (st' := [vI 0]) rfl ?_
        exact r_iret J rfl rfl rfl rfl (by decide) (by decide)
      · refine r_run J 2 (pc' := 74) (lv' := [(0, vR 40), (1, vI x1), (2, vI x2)]) (st' := [vI 1]) rfl ?_
        exact r_iret J rfl rfl rfl rfl (by decide) (by decide)
    · rw [if_neg (by rw [hc]; decide), if_pos hc]
      refine r_run J 1 (pc' := 76) (lv' := [(0, vR 40), (1, vI x1), (2, vI x2)]) (st' := [vR 40]) rfl ?_
      refine r_getR J cls12 rfl (k := 3) (t := 14) (by decide) wf_12_17 rfl rfl (ly_40 hL) (lr_40_3 hL) (fun _ => ?_)
      show g_H E 0 0 79 [(0, vR 40), (1, vI x1), (2, vI x2)] [vR 42] (σ, M, N) _ _
      refine r_run J 1 (pc' := 80) (lv' := [(0, vR 40), (1, vI x1), (2, vI x2)]) (st' := [vI x1, vR 42]) rfl ?_
      refine r_iald J rfl (ly_42 hL) (fun i80 => ?_)
      show g_H E 0 0 81 [(0, vR 40), (1, vI x1), (2, vI x2)] [vI (M 42 x1.toNatClampNeg)] (σ, M, N) _ _
      exact r_iret J rfl rfl rfl rfl (by decide) (by decide)
    · rw [if_neg (by rw [hc]; decide), if_neg (by rw [hc]; decide), if_pos hc]
      refine r_run J 1 (pc' := 83) (lv' := [(0, vR 40), (1, vI x1), (2, vI x2)]) (st' := [vR 40]) rfl ?_
      refine r_getR J cls12 rfl (k := 4) (t := 15) (by decide) wf_12_21 rfl rfl (ly_40 hL) (lr_40_4 hL) (fun _ => ?_)
      show g_H E 0 0 86 [(0, vR 40), (1, vI x1), (2, vI x2)] [vR 43] (σ, M, N) _ _
      refine r_run J 1 (pc' := 87) (lv' := [(0, vR 40), (1, vI x1), (2, vI x2)]) (st' := [vI x1, vR 43]) rfl ?_
      refine r_zald J rfl (ly_43 hL) (fun i87 => ?_)
      show g_H E 0 0 88 [(0, vR 40), (1, vI x1), (2, vI x2)] [vI (M 43 x1.toNatClampNeg)] (σ, M, N) _ _
      refine r_if_eq J (tgt := 95) rfl (by decide) (fun c88 => ?_) (fun c88 => ?_)
      · refine r_run J 1 (pc' := 96) (lv' := [(0, vR 40), (1, vI x1), (2, vI x2)]) (st' := [vI 0]) rfl ?_
        exact r_iret J rfl rfl rfl rfl (by decide) (by decide)
      · refine r_run J 2 (pc' := 96) (lv' := [(0, vR 40), (1, vI x1), (2, vI x2)]) (st' := [vI 1]) rfl ?_
        exact r_iret J rfl rfl rfl rfl (by decide) (by decide)
    · rw [if_neg (by rw [hc]; decide), if_neg (by rw [hc]; decide), if_neg (by rw [hc]; decide), if_pos hc]
      refine r_run J 1 (pc' := 98) (lv' := [(0, vR 40), (1, vI x1), (2, vI x2)]) (st' := [vR 40]) rfl ?_
      refine r_getR J cls12 rfl (k := 5) (t := 14) (by decide) wf_12_24 rfl rfl (ly_40 hL) (lr_40_5 hL) (fun _ => ?_)
      show g_H E 0 0 101 [(0, vR 40), (1, vI x1), (2, vI x2)] [vR 44] (σ, M, N) _ _
      refine r_run J 1 (pc' := 102) (lv' := [(0, vR 40), (1, vI x1), (2, vI x2)]) (st' := [vI x1, vR 44]) rfl ?_
      refine r_iald J rfl (ly_44 hL) (fun i102 => ?_)
      show g_H E 0 0 103 [(0, vR 40), (1, vI x1), (2, vI x2)] [vI (M 44 x1.toNatClampNeg)] (σ, M, N) _ _
      exact r_iret J rfl rfl rfl rfl (by decide) (by decide)
    · rw [if_neg (by rw [hc]; decide), if_neg (by rw [hc]; decide), if_neg (by rw [hc]; decide), if_neg (by rw [hc]; decide), if_pos hc]
      refine r_run J 1 (pc' := 105) (lv' := [(0, vR 40), (1, vI x1), (2, vI x2)]) (st' := [vR 40]) rfl ?_
      refine r_getR J cls12 rfl (k := 6) (t := 14) (by decide) wf_12_27 rfl rfl (ly_40 hL) (lr_40_6 hL) (fun _ => ?_)
      show g_H E 0 0 108 [(0, vR 40), (1, vI x1), (2, vI x2)] [vR 45] (σ, M, N) _ _
      refine r_run J 1 (pc' := 109) (lv' := [(0, vR 40), (1, vI x1), (2, vI x2)]) (st' := [vI x1, vR 45]) rfl ?_
      refine r_iald J rfl (ly_45 hL) (fun i109 => ?_)
      show g_H E 0 0 110 [(0, vR 40), (1, vI x1), (2, vI x2)] [vI (M 45 x1.toNatClampNeg)] (σ, M, N) _ _
      exact r_iret J rfl rfl rfl rfl (by decide) (by decide)
    · rw [if_neg (by rw [hc]; decide), if_neg (by rw [hc]; decide), if_neg (by rw [hc]; decide), if_neg (by rw [hc]; decide), if_neg (by rw [hc]; decide), if_pos hc]
      refine r_run J 1 (pc' := 112) (lv' := [(0, vR 40), (1, vI x1), (2, vI x2)]) (st' := [vR 40]) rfl ?_
      refine r_getR J cls12 rfl (k := 7) (t := 14) (by decide) wf_12_30 rfl rfl (ly_40 hL) (lr_40_7 hL) (fun _ => ?_)
      show g_H E 0 0 115 [(0, vR 40), (1, vI x1), (2, vI x2)] [vR 46] (σ, M, N) _ _
      refine r_run J 1 (pc' := 116) (lv' := [(0, vR 40), (1, vI x1), (2, vI x2)]) (st' := [vI x1, vR 46]) rfl ?_
      refine r_iald J rfl (ly_46 hL) (fun i116 => ?_)
      show g_H E 0 0 117 [(0, vR 40), (1, vI x1), (2, vI x2)] [vI (M 46 x1.toNatClampNeg)] (σ, M, N) _ _
      exact r_iret J rfl rfl rfl rfl (by decide) (by decide)
    · rw [if_neg (by rw [hc]; decide), if_neg (by rw [hc]; decide), if_neg (by rw [hc]; decide), if_neg (by rw [hc]; decide), if_neg (by rw [hc]; decide), if_neg (by rw [hc]; decide), if_pos hc]
      refine r_run J 1 (pc' := 119) (lv' := [(0, vR 40), (1, vI x1), (2, vI x2)]) (st' := [vR 40]) rfl ?_
      refine r_getR J cls12 rfl (k := 8) (t := 15) (by decide) wf_12_33 rfl rfl (ly_40 hL) (lr_40_8 hL) (fun _ => ?_)
      show g_H E 0 0 122 [(0, vR 40), (1, vI x1), (2, vI x2)] [vR 47] (σ, M, N) _ _
      refine r_run J 1 (pc' := 123) (lv' := [(0, vR 40), (1, vI x1), (2, vI x2)]) (st' := [vI x1, vR 47]) rfl ?_
      refine r_zald J rfl (ly_47 hL) (fun i123 => ?_)
      show g_H E 0 0 124 [(0, vR 40), (1, vI x1), (2, vI x2)] [vI (M 47 x1.toNatClampNeg)] (σ, M, N) _ _
      refine r_if_eq J (tgt := 131) rfl (by decide) (fun c124 => ?_) (fun c124 => ?_)
      · refine r_run J 1 (pc' := 132) (lv' := [(0, vR 40), (1, vI x1), (2, vI x2)]) (st' := [vI 0]) rfl ?_
        exact r_iret J rfl rfl rfl rfl (by decide) (by decide)
      · refine r_run J 2 (pc' := 132) (lv' := [(0, vR 40), (1, vI x1), (2, vI x2)]) (st' := [vI 1]) rfl ?_
        exact r_iret J rfl rfl rfl rfl (by decide) (by decide)
    · rw [if_neg (by rw [hc]; decide), if_neg (by rw [hc]; decide), if_neg (by rw [hc]; decide), if_neg (by rw [hc]; decide), if_neg (by rw [hc]; decide), if_neg (by rw [hc]; decide), if_neg (by rw [hc]; decide), if_pos hc]
      refine r_run J 1 (pc' := 134) (lv' := [(0, vR 40), (1, vI x1), (2, vI x2)]) (st' := [vR 40]) rfl ?_
      refine r_getR J cls12 rfl (k := 9) (t := 14) (by decide) wf_12_36 rfl rfl (ly_40 hL) (lr_40_9 hL) (fun _ => ?_)
      show g_H E 0 0 137 [(0, vR 40), (1, vI x1), (2, vI x2)] [vR 48] (σ, M, N) _ _
      refine r_run J 1 (pc' := 138) (lv' := [(0, vR 40), (1, vI x1), (2, vI x2)]) (st' := [vI x1, vR 48]) rfl ?_
      refine r_iald J rfl (ly_48 hL) (fun i138 => ?_)
      show g_H E 0 0 139 [(0, vR 40), (1, vI x1), (2, vI x2)] [vI (M 48 x1.toNatClampNeg)] (σ, M, N) _ _
      exact r_iret J rfl rfl rfl rfl (by decide) (by decide)
    · rw [if_neg (by rw [hc]; decide), if_neg (by rw [hc]; decide), if_neg (by rw [hc]; decide), if_neg (by rw [hc]; decide), if_neg (by rw [hc]; decide), if_neg (by rw [hc]; decide), if_neg (by rw [hc]; decide), if_neg (by rw [hc]; decide), if_pos hc]
      refine r_run J 4 (pc' := 145) (lv' := [(4, vI 0), (3, vI 0), (0, vR 40), (1, vI x1), (2, vI x2)]) (st' := []) rfl ?_
      refine r_sub [2, 3, 1, 0] (lv' := [(0, vR 40), (1, vI x1), (3, vI 0), (4, vI 0)]) rfl ?_
      exact p_X12_personOf_145 J g_FU x1 0 0 σ M N hL
    · rw [if_neg (hd _ (List.mem_of_getElem? (i := 0) rfl)), if_neg (hd _ (List.mem_of_getElem? (i := 1) rfl)), if_neg (hd _ (List.mem_of_getElem? (i := 2) rfl)), if_neg (hd _ (List.mem_of_getElem? (i := 3) rfl)), if_neg (hd _ (List.mem_of_getElem? (i := 4) rfl)), if_neg (hd _ (List.mem_of_getElem? (i := 5) rfl)), if_neg (hd _ (List.mem_of_getElem? (i := 6) rfl)), if_neg (hd _ (List.mem_of_getElem? (i := 7) rfl)), if_neg (hd _ (List.mem_of_getElem? (i := 8) rfl))]
      refine r_run J 1 (pc' := 197) (lv' := [(0, vR 40), (1, vI x1), (2, vI x2)]) (st' := [vI (-1)]) rfl ?_
      exact r_iret J rfl rfl rfl rfl (by decide) (by decide)
theorem c_X12_personOf {l : Launch} (x1 : Int32) (x2 : Int32) (σ : gS) (M : gM) (N : gN) (hL : g_layM σ) (r : Int32) (h : f_X12_personOf x1 x2 σ M = some r) : g_Ct l yX12_personOf cX12_personOf 5 (some .int) 3 0 0 [vR 40, vI x1, vI x2] (σ, M, N) (eI σ M N r) :=
  g_Ct.of tb_X12_personOf (by decide +kernel) tk_X12_personOf (Nat.le_of_ble_eq_true rfl) (fun E J => p_X12_personOf_0 J x1 x2 σ M N hL r h)
def tb_X12_count : gT := [(0, .iload_n 1, 1, 0), (1, .tableswitch 114 0 10 #[59, 64, 69, 74, 79, 84, 89, 94, 99, 104, 109], 59, 0), (60, .aload_n 0, 1, 0), (61, .getfield 183, 3, 0), (64, .ireturn, 1, 0), (65, .aload_n 0, 1, 0), (66, .getfield 42, 3, 0), (69, .ireturn, 1, 0), (70, .aload_n 0, 1, 0), (71, .getfield 195, 3, 0), (74, .ireturn, 1, 0), (75, .aload_n 0, 1, 0), (76, .getfield 157, 3, 0), (79, .ireturn, 1, 0), (80, .aload_n 0, 1, 0), (81, .getfield 164, 3, 0), (84, .ireturn, 1, 0), (85, .aload_n 0, 1, 0), (86, .getfield 192, 3, 0), (89, .ireturn, 1, 0), (90, .aload_n 0, 1, 0), (91, .getfield 167, 3, 0), (94, .ireturn, 1, 0), (95, .aload_n 0, 1, 0), (96, .getfield 392, 3, 0), (99, .ireturn, 1, 0), (100, .aload_n 0, 1, 0), (101, .getfield 246, 3, 0), (104, .ireturn, 1, 0), (105, .aload_n 0, 1, 0), (106, .getfield 405, 3, 0), (109, .ireturn, 1, 0), (110, .aload_n 0, 1, 0), (111, .getfield 180, 3, 0), (114, .ireturn, 1, 0), (115, .iconst (-1), 1, (-1)), (116, .ireturn, 1, 0)]
set_option maxRecDepth 100000 in
theorem tk_X12_count : g_okT cX12_count tb_X12_count = true := by decide +kernel
abbrev J_X12_count (E : gE) (l : Launch) : Prop := g_J E cX12_count RX12 "count" (some .int) 2 tb_X12_count 1 0 0 l
set_option maxHeartbeats 4000000 in
set_option maxRecDepth 100000 in
theorem p_X12_count_0 {l : Launch} {E : gE} (J : J_X12_count E l) (x1 : Int32) (σ : gS) (M : gM) (N : gN) (hL : g_layM σ) : g_H E 0 0 0 [(0, vR 40), (1, vI x1)] [] (σ, M, N) (b_X12_count_0 x1 σ M) (eI σ M N) := by
  unfold b_X12_count_0
  refine r_run J 1 (pc' := 1) (lv' := [(0, vR 40), (1, vI x1)]) (st' := [vI x1]) rfl ?_
  refine r_table J [(0, 60), (1, 65), (2, 70), (3, 75), (4, 80), (5, 85), (6, 90), (7, 95), (8, 100), (9, 105), (10, 110)] (d := 115) rfl (by decide +kernel) (List.forall_mem_cons.mpr ⟨fun hc => ?_, List.forall_mem_cons.mpr ⟨fun hc => ?_, List.forall_mem_cons.mpr ⟨fun hc => ?_, List.forall_mem_cons.mpr ⟨fun hc => ?_, List.forall_mem_cons.mpr ⟨fun hc => ?_, List.forall_mem_cons.mpr ⟨fun hc => ?_, List.forall_mem_cons.mpr ⟨fun hc => ?_, List.forall_mem_cons.mpr ⟨fun hc => ?_, List.forall_mem_cons.mpr ⟨fun hc => ?_, List.forall_mem_cons.mpr ⟨fun hc => ?_, List.forall_mem_cons.mpr ⟨fun hc => ?_, fun _ h => absurd h List.not_mem_nil⟩⟩⟩⟩⟩⟩⟩⟩⟩⟩⟩) (fun hd => ?_)
  · rw [if_pos hc]
    refine r_run J 1 (pc' := 61) (lv' := [(0, vR 40), (1, vI x1)]) (st' := [vR 40]) rfl ?_
    refine r_getI J cls12 rfl (k := 14) (by decide) wf_12_183 rfl (ly_40 hL) ?_
    show g_H E 0 0 64 [(0, vR 40), (1, vI x1)] [vI (M 40 14)] (σ, M, N) _ _
    exact r_iret J rfl rfl rfl rfl (by decide) (by decide)
  · rw [if_neg (by rw [hc]; decide), if_pos hc]
    refine r_run J 1 (pc' := 66) (lv' := [(0, vR 40), (1, vI x1)]) (st' := [vR 40]) rfl ?_
    refine r_getI J cls12 rfl (k := 15) (by decide) wf_12_42 rfl (ly_40 hL) ?_
    show g_H E 0 0 69 [(0, vR 40), (1, vI x1)] [vI (M 40 15)] (σ, M, N) _ _
    exact r_iret J rfl rfl rfl rfl (by decide) (by decide)
  · rw [if_neg (by rw [hc]; decide), if_neg (by rw [hc]; decide), if_pos hc]
    refine r_run J 1 (pc' := 71) (lv' := [(0, vR 40), (1, vI x1)]) (st' := [vR 40]) rfl ?_
    refine r_getI J cls12 rfl (k := 16) (by decide) wf_12_195 rfl (ly_40 hL) ?_
    show g_H E 0 0 74 [(0, vR 40), (1, vI x1)] [vI (M 40 16)] (σ, M, N) _ _
    exact r_iret J rfl rfl rfl rfl (by decide) (by decide)
  · rw [if_neg (by rw [hc]; decide), if_neg (by rw [hc]; decide), if_neg (by rw [hc]; decide), if_pos hc]
    refine r_run J 1 (pc' := 76) (lv' := [(0, vR 40), (1, vI x1)]) (st' := [vR 40]) rfl ?_
    refine r_getI J cls12 rfl (k := 1) (by decide) wf_12_157 rfl (ly_40 hL) ?_
    show g_H E 0 0 79 [(0, vR 40), (1, vI x1)] [vI (M 40 1)] (σ, M, N) _ _
    exact r_iret J rfl rfl rfl rfl (by decide) (by decide)
  · rw [if_neg (by rw [hc]; decide), if_neg (by rw [hc]; decide), if_neg (by rw [hc]; decide), if_neg (by rw [hc]; decide), if_pos hc]
    refine r_run J 1 (pc' := 81) (lv' := [(0, vR 40), (1, vI x1)]) (st' := [vR 40]) rfl ?_
    refine r_getI J cls12 rfl (k := 11) (by decide) wf_12_164 rfl (ly_40 hL) ?_
    show g_H E 0 0 84 [(0, vR 40), (1, vI x1)] [vI (M 40 11)] (σ, M, N) _ _
    exact r_iret J rfl rfl rfl rfl (by decide) (by decide)
  · rw [if_neg (by rw [hc]; decide), if_neg (by rw [hc]; decide), if_neg (by rw [hc]; decide), if_neg (by rw [hc]; decide), if_neg (by rw [hc]; decide), if_pos hc]
    refine r_run J 1 (pc' := 86) (lv' := [(0, vR 40), (1, vI x1)]) (st' := [vR 40]) rfl ?_
    refine r_getI J cls12 rfl (k := 12) (by decide) wf_12_192 rfl (ly_40 hL) ?_
    show g_H E 0 0 89 [(0, vR 40), (1, vI x1)] [vI (M 40 12)] (σ, M, N) _ _
    exact r_iret J rfl rfl rfl rfl (by decide) (by decide)
  · rw [if_neg (by rw [hc]; decide), if_neg (by rw [hc]; decide), if_neg (by rw [hc]; decide), if_neg (by rw [hc]; decide), if_neg (by rw [hc]; decide), if_neg (by rw [hc]; decide), if_pos hc]
    refine r_run J 1 (pc' := 91) (lv' := [(0, vR 40), (1, vI x1)]) (st' := [vR 40]) rfl ?_
    refine r_getI J cls12 rfl (k := 13) (by decide) wf_12_167 rfl (ly_40 hL) ?_
    show g_H E 0 0 94 [(0, vR 40), (1, vI x1)] [vI (M 40 13)] (σ, M, N) _ _
    exact r_iret J rfl rfl rfl rfl (by decide) (by decide)
  · rw [if_neg (by rw [hc]; decide), if_neg (by rw [hc]; decide), if_neg (by rw [hc]; decide), if_neg (by rw [hc]; decide), if_neg (by rw [hc]; decide), if_neg (by rw [hc]; decide), if_neg (by rw [hc]; decide), if_pos hc]
    refine r_run J 1 (pc' := 96) (lv' := [(0, vR 40), (1, vI x1)]) (st' := [vR 40]) rfl ?_
    refine r_getI J cls12 rfl (k := 17) (by decide) wf_12_392 rfl (ly_40 hL) ?_
    show g_H E 0 0 99 [(0, vR 40), (1, vI x1)] [vI (M 40 17)] (σ, M, N) _ _
    exact r_iret J rfl rfl rfl rfl (by decide) (by decide)
  · rw [if_neg (by rw [hc]; decide), if_neg (by rw [hc]; decide), if_neg (by rw [hc]; decide), if_neg (by rw [hc]; decide), if_neg (by rw [hc]; decide), if_neg (by rw [hc]; decide), if_neg (by rw [hc]; decide), if_neg (by rw [hc]; decide), if_pos hc]
    refine r_run J 1 (pc' := 101) (lv' := [(0, vR 40), (1, vI x1)]) (st' := [vR 40]) rfl ?_
    refine r_getI J cls12 rfl (k := 41) (by decide) wf_12_246 rfl (ly_40 hL) ?_
    show g_H E 0 0 104 [(0, vR 40), (1, vI x1)] [vI (M 40 41)] (σ, M, N) _ _
    exact r_iret J rfl rfl rfl rfl (by decide) (by decide)
  · rw [if_neg (by rw [hc]; decide), if_neg (by rw [hc]; decide), if_neg (by rw [hc]; decide), if_neg (by rw [hc]; decide), if_neg (by rw [hc]; decide), if_neg (by rw [hc]; decide), if_neg (by rw [hc]; decide), if_neg (by rw [hc]; decide), if_neg (by rw [hc]; decide), if_pos hc]
    refine r_run J 1 (pc' := 106) (lv' := [(0, vR 40), (1, vI x1)]) (st' := [vR 40]) rfl ?_
    refine r_getI J cls12 rfl (k := 63) (by decide) wf_12_405 rfl (ly_40 hL) ?_
    show g_H E 0 0 109 [(0, vR 40), (1, vI x1)] [vI (M 40 63)] (σ, M, N) _ _
    exact r_iret J rfl rfl rfl rfl (by decide) (by decide)
  · rw [if_neg (by rw [hc]; decide), if_neg (by rw [hc]; decide), if_neg (by rw [hc]; decide), if_neg (by rw [hc]; decide), if_neg (by rw [hc]; decide), if_neg (by rw [hc]; decide), if_neg (by rw [hc]; decide), if_neg (by rw [hc]; decide), if_neg (by rw [hc]; decide), if_neg (by rw [hc]; decide), if_pos hc]
    refine r_run J 1 (pc' := 111) (lv' := [(0, vR 40), (1, vI x1)]) (st' := [vR 40]) rfl ?_
    refine r_getI J cls12 rfl (k := 26) (by decide) wf_12_180 rfl (ly_40 hL) ?_
    show g_H E 0 0 114 [(0, vR 40), (1, vI x1)] [vI (M 40 26)] (σ, M, N) _ _
    exact r_iret J rfl rfl rfl rfl (by decide) (by decide)
  · rw [if_neg (hd _ (List.mem_of_getElem? (i := 0) rfl)), if_neg (hd _ (List.mem_of_getElem? (i := 1) rfl)), if_neg (hd _ (List.mem_of_getElem? (i := 2) rfl)), if_neg (hd _ (List.mem_of_getElem? (i := 3) rfl)), if_neg (hd _ (List.mem_of_getElem? (i := 4) rfl)), if_neg (hd _ (List.mem_of_getElem? (i := 5) rfl)), if_neg (hd _ (List.mem_of_getElem? (i := 6) rfl)), if_neg (hd _ (List.mem_of_getElem? (i := 7) rfl)), if_neg (hd _ (List.mem_of_getElem? (i := 8) rfl)), if_neg (hd _ (List.mem_of_getElem? (i := 9) rfl)), if_neg (hd _ (List.mem_of_getElem? (i := 10) rfl))]
    refine r_run J 1 (pc' := 116) (lv' := [(0, vR 40), (1, vI x1)]) (st' := [vI (-1)]) rfl ?_
    exact r_iret J rfl rfl rfl rfl (by decide) (by decide)
theorem c_X12_count {l : Launch} (x1 : Int32) (σ : gS) (M : gM) (N : gN) (hL : g_layM σ) (r : Int32) (h : f_X12_count x1 σ M = some r) : g_Ct l yX12_count cX12_count 2 (some .int) 1 0 0 [vR 40, vI x1] (σ, M, N) (eI σ M N r) :=
  g_Ct.of tb_X12_count (by decide +kernel) tk_X12_count (Nat.le_of_ble_eq_true rfl) (fun E J => p_X12_count_0 J x1 σ M N hL r h)
